theorem dX6_load_33 : decode cX6_load 33 = .ok (.getfield 100, 3) := by decide +kernel
theorem dX6_load_36 : decode cX6_load 36 = .ok (.istore 4, 2) := by decide +kernel
theorem dX6_load_38 : decode cX6_load 38 = .ok (.aload_n 3, 1) := by decide +kernel
theorem dX6_load_39 : decode cX6_load 39 = .ok (.iload_n 2, 1) := by decide +kernel
theorem dX6_load_40 : decode cX6_load 40 = .ok (.putfield 100, 3) := by decide +kernel
theorem dX6_load_43 : decode cX6_load 43 = .ok (.iload 4, 2) := by decide +kernel
theorem dX6_load_45 : decode cX6_load 45 = .ok (.ireturn, 1) := by decide +kernel
set_option maxRecDepth 20000 in
theorem ggX6_addPilot_X6_checkRange : GoodIn wsX6_addPilot wsX6_checkRange := goodIn_ca (goodIn_r _ [8, 9, 10] (by decide +kernel) (by decide +kernel)) (goodIn_sub (fun _ h => List.mem_cons_of_mem _ (List.mem_append_left _ (List.mem_append_right _ h))) (by decide +kernel))
set_option maxRecDepth 20000 in
theorem gX6_addPilot_X6_checkRange : GoodIn wsX6_addPilot (va_wsS RX6 46 yX6_checkRange wsX6_checkRange) := goodIn_app (goodIn_of _ (by decide +kernel)) ggX6_addPilot_X6_checkRange
set_option maxRecDepth 20000 in
theorem ggX6_addPilot_Jx4a65c_size_8abf5 : GoodIn wsX6_addPilot wsJx4a65c_size_8abf5 := goodIn_r _ [15, 16, 98, 99, 100] (by decide +kernel) (by decide +kernel)
set_option maxRecDepth 20000 in
theorem gX6_addPilot_Jx4a65c_size_8abf5 : GoodIn wsX6_addPilot (wsV RX6 76 RJx4a65c yJx4a65c_size_8abf5 wsJx4a65c_size_8abf5) := goodIn_app (goodIn_of _ (by decide +kernel)) ggX6_addPilot_Jx4a65c_size_8abf5
set_option maxRecDepth 20000 in
theorem ggX6_addPilot_X6_checkRoom : GoodIn wsX6_addPilot wsX6_checkRoom := goodIn_ca (goodIn_r _ [19, 20, 21] (by decide +kernel) (by decide +kernel)) (goodIn_sub (fun _ h => List.mem_cons_of_mem _ (List.mem_append_right _ h)) (by decide +kernel))
set_option maxRecDepth 20000 in
theorem gX6_addPilot_X6_checkRoom : GoodIn wsX6_addPilot (va_wsS RX6 79 yX6_checkRoom wsX6_checkRoom) := goodIn_app (goodIn_of _ (by decide +kernel)) ggX6_addPilot_X6_checkRoom
set_option maxRecDepth 20000 in
theorem ggX6_addPilot_X2_init : GoodIn wsX6_addPilot wsX2_init := goodIn_r _ [24, 25, 26, 27, 28, 29, 30, 31, 94, 95, 96, 97] (by decide +kernel) (by decide +kernel)
set_option maxRecDepth 20000 in
theorem gX6_addPilot_X2_init : GoodIn wsX6_addPilot (wsX2_init) := ggX6_addPilot_X2_init
set_option maxRecDepth 20000 in
theorem ggX6_addPilot_Jx4a65c_add_9ea2d : GoodIn wsX6_addPilot wsJx4a65c_add_9ea2d := goodIn_r _ [35, 36, 37, 38, 16, 39, 40, 41, 14, 42, 43, 44, 45, 46, 47, 48, 49, 50, 51, 52, 53, 54, 55, 56, 57, 58, 59, 60, 61, 62, 63, 64, 65, 66, 67, 68, 69, 70, 71, 72, 73, 74, 75, 76, 77, 78, 79, 80, 81, 82, 83, 84, 85, 98, 99, 100] (by decide +kernel) (by decide +kernel)
set_option maxRecDepth 20000 in
theorem gX6_addPilot_Jx4a65c_add_9ea2d : GoodIn wsX6_addPilot (wsV RX6 86 RJx4a65c yJx4a65c_add_9ea2d wsJx4a65c_add_9ea2d) := goodIn_app (goodIn_of _ (by decide +kernel)) ggX6_addPilot_Jx4a65c_add_9ea2d
theorem dX6_addPilot_0 : decode cX6_addPilot 0 = .ok (.iload_n 1, 1) := by decide +kernel
theorem dX6_addPilot_1 : decode cX6_addPilot 1 = .ok (.bipush 20, 2) := by decide +kernel
theorem dX6_addPilot_3 : decode cX6_addPilot 3 = .ok (.sipush 400, 3) := by decide +kernel
theorem dX6_addPilot_6 : decode cX6_addPilot 6 = .ok (.invokestatic 46, 3) := by decide +kernel
theorem dX6_addPilot_9 : decode cX6_addPilot 9 = .ok (.aload_n 0, 1) := by decide +kernel
theorem dX6_addPilot_10 : decode cX6_addPilot 10 = .ok (.getfield 26, 3) := by decide +kernel
theorem dX6_addPilot_13 : decode cX6_addPilot 13 = .ok (.invokevirtual 76, 3) := by decide +kernel
theorem dX6_addPilot_16 : decode cX6_addPilot 16 = .ok (.istore_n 3, 1) := by decide +kernel
theorem dX6_addPilot_17 : decode cX6_addPilot 17 = .ok (.iload_n 3, 1) := by decide +kernel
theorem dX6_addPilot_18 : decode cX6_addPilot 18 = .ok (.bipush 6, 2) := by decide +kernel
theorem dX6_addPilot_20 : decode cX6_addPilot 20 = .ok (.invokestatic 79, 3) := by decide +kernel
theorem dX6_addPilot_23 : decode cX6_addPilot 23 = .ok (.aload_n 0, 1) := by decide +kernel
theorem dX6_addPilot_24 : decode cX6_addPilot 24 = .ok (.getfield 26, 3) := by decide +kernel
theorem dX6_addPilot_27 : decode cX6_addPilot 27 = .ok (.new 103, 3) := by decide +kernel
theorem dX6_addPilot_30 : decode cX6_addPilot 30 = .ok (.dup, 1) := by decide +kernel
theorem dX6_addPilot_31 : decode cX6_addPilot 31 = .ok (.iload_n 3, 1) := by decide +kernel
theorem dX6_addPilot_32 : decode cX6_addPilot 32 = .ok (.iload_n 1, 1) := by decide +kernel
theorem dX6_addPilot_33 : decode cX6_addPilot 33 = .ok (.iload_n 2, 1) := by decide +kernel
theorem dX6_addPilot_34 : decode cX6_addPilot 34 = .ok (.invokespecial 105, 3) := by decide +kernel
theorem dX6_addPilot_37 : decode cX6_addPilot 37 = .ok (.invokevirtual 86, 3) := by decide +kernel
theorem dX6_addPilot_40 : decode cX6_addPilot 40 = .ok (.pop, 1) := by decide +kernel
theorem dX6_addPilot_41 : decode cX6_addPilot 41 = .ok (.iload_n 3, 1) := by decide +kernel
theorem dX6_addPilot_42 : decode cX6_addPilot 42 = .ok (.ireturn, 1) := by decide +kernel
set_option maxRecDepth 20000 in
theorem ggX6_setTugs_X6_checkRange : GoodIn wsX6_setTugs wsX6_checkRange := goodIn_ca (goodIn_r _ [8, 9, 10] (by decide +kernel) (by decide +kernel)) (goodIn_sub (fun _ h => List.mem_cons_of_mem _ (List.mem_append_right _ h)) (by decide +kernel))
set_option maxRecDepth 20000 in
theorem gX6_setTugs_X6_checkRange : GoodIn wsX6_setTugs (va_wsS RX6 46 yX6_checkRange wsX6_checkRange) := goodIn_app (goodIn_of _ (by decide +kernel)) ggX6_setTugs_X6_checkRange
set_option maxRecDepth 20000 in
theorem ggX6_setTugs_Jx4a65c_isEmpty_aae02 : GoodIn wsX6_setTugs wsJx4a65c_isEmpty_aae02 := goodIn_r _ [15, 16, 25, 26, 27] (by decide +kernel) (by decide +kernel)
set_option maxRecDepth 20000 in
theorem gX6_setTugs_Jx4a65c_isEmpty_aae02 : GoodIn wsX6_setTugs (wsV RX6 50 RJx4a65c yJx4a65c_isEmpty_aae02 wsJx4a65c_isEmpty_aae02) := goodIn_app (goodIn_of _ (by decide +kernel)) ggX6_setTugs_Jx4a65c_isEmpty_aae02
theorem dX6_setTugs_0 : decode cX6_setTugs 0 = .ok (.iload_n 1, 1) := by decide +kernel
theorem dX6_setTugs_1 : decode cX6_setTugs 1 = .ok (.iconst 0, 1) := by decide +kernel
theorem dX6_setTugs_2 : decode cX6_setTugs 2 = .ok (.bipush 8, 2) := by decide +kernel
theorem dX6_setTugs_4 : decode cX6_setTugs 4 = .ok (.invokestatic 46, 3) := by decide +kernel
theorem dX6_setTugs_7 : decode cX6_setTugs 7 = .ok (.aload_n 0, 1) := by decide +kernel
theorem dX6_setTugs_8 : decode cX6_setTugs 8 = .ok (.getfield 29, 3) := by decide +kernel
theorem dX6_setTugs_11 : decode cX6_setTugs 11 = .ok (.invokevirtual 50, 3) := by decide +kernel
theorem dX6_setTugs_14 : decode cX6_setTugs 14 = .ok (.ifCond .ne 13, 3) := by decide +kernel
theorem dX6_setTugs_17 : decode cX6_setTugs 17 = .ok (.new 61, 3) := by decide +kernel
theorem dX6_setTugs_20 : decode cX6_setTugs 20 = .ok (.dup, 1) := by decide +kernel
theorem dX6_setTugs_21 : decode cX6_setTugs 21 = .ok (.ldc 108, 2) := by decide +kernel
theorem dX6_setTugs_23 : decode cX6_setTugs 23 = .ok (.invokespecial 65, 3) := by decide +kernel
theorem dX6_setTugs_26 : decode cX6_setTugs 26 = .ok (.athrow, 1) := by decide +kernel
theorem dX6_setTugs_27 : decode cX6_setTugs 27 = .ok (.aload_n 0, 1) := by decide +kernel
theorem dX6_setTugs_28 : decode cX6_setTugs 28 = .ok (.getfield 39, 3) := by decide +kernel
theorem dX6_setTugs_31 : decode cX6_setTugs 31 = .ok (.istore_n 2, 1) := by decide +kernel
theorem dX6_setTugs_32 : decode cX6_setTugs 32 = .ok (.aload_n 0, 1) := by decide +kernel
theorem dX6_setTugs_33 : decode cX6_setTugs 33 = .ok (.iload_n 1, 1) := by decide +kernel
theorem dX6_setTugs_34 : decode cX6_setTugs 34 = .ok (.putfield 39, 3) := by decide +kernel
theorem dX6_setTugs_37 : decode cX6_setTugs 37 = .ok (.iload_n 2, 1) := by decide +kernel
theorem dX6_setTugs_38 : decode cX6_setTugs 38 = .ok (.ireturn, 1) := by decide +kernel
set_option maxRecDepth 20000 in
theorem ggX6_count_Jx4a65c_size_8abf5 : GoodIn wsX6_count wsJx4a65c_size_8abf5 := goodIn_r _ [12, 13, 25, 26, 27] (by decide +kernel) (by decide +kernel)
set_option maxRecDepth 20000 in
theorem gX6_count_Jx4a65c_size_8abf5 : GoodIn wsX6_count (wsV RX6 76 RJx4a65c yJx4a65c_size_8abf5 wsJx4a65c_size_8abf5) := goodIn_app (goodIn_of _ (by decide +kernel)) ggX6_count_Jx4a65c_size_8abf5
theorem dX6_count_0 : decode cX6_count 0 = .ok (.iload_n 1, 1) := by decide +kernel
theorem dX6_count_1 : decode cX6_count 1 = .ok (.tableswitch 75 0 4 #[35, 43, 51, 59, 67], 35) := by decide +kernel
theorem dX6_count_36 : decode cX6_count 36 = .ok (.aload_n 0, 1) := by decide +kernel
theorem dX6_count_37 : decode cX6_count 37 = .ok (.getfield 12, 3) := by decide +kernel
theorem dX6_count_40 : decode cX6_count 40 = .ok (.getfield 54, 3) := by decide +kernel
theorem dX6_count_43 : decode cX6_count 43 = .ok (.ireturn, 1) := by decide +kernel
theorem dX6_count_44 : decode cX6_count 44 = .ok (.aload_n 0, 1) := by decide +kernel
theorem dX6_count_45 : decode cX6_count 45 = .ok (.getfield 19, 3) := by decide +kernel
theorem dX6_count_48 : decode cX6_count 48 = .ok (.invokevirtual 76, 3) := by decide +kernel
theorem dX6_count_51 : decode cX6_count 51 = .ok (.ireturn, 1) := by decide +kernel
theorem dX6_count_52 : decode cX6_count 52 = .ok (.aload_n 0, 1) := by decide +kernel
theorem dX6_count_53 : decode cX6_count 53 = .ok (.getfield 23, 3) := by decide +kernel
theorem dX6_count_56 : decode cX6_count 56 = .ok (.invokevirtual 76, 3) := by decide +kernel
theorem dX6_count_59 : decode cX6_count 59 = .ok (.ireturn, 1) := by decide +kernel
theorem dX6_count_60 : decode cX6_count 60 = .ok (.aload_n 0, 1) := by decide +kernel
theorem dX6_count_61 : decode cX6_count 61 = .ok (.getfield 26, 3) := by decide +kernel
theorem dX6_count_64 : decode cX6_count 64 = .ok (.invokevirtual 76, 3) := by decide +kernel
theorem dX6_count_67 : decode cX6_count 67 = .ok (.ireturn, 1) := by decide +kernel
theorem dX6_count_68 : decode cX6_count 68 = .ok (.aload_n 0, 1) := by decide +kernel
theorem dX6_count_69 : decode cX6_count 69 = .ok (.getfield 29, 3) := by decide +kernel
theorem dX6_count_72 : decode cX6_count 72 = .ok (.invokevirtual 76, 3) := by decide +kernel
theorem dX6_count_75 : decode cX6_count 75 = .ok (.ireturn, 1) := by decide +kernel
theorem dX6_count_76 : decode cX6_count 76 = .ok (.new 110, 3) := by decide +kernel
theorem dX6_count_79 : decode cX6_count 79 = .ok (.dup, 1) := by decide +kernel
theorem dX6_count_80 : decode cX6_count 80 = .ok (.ldc 112, 2) := by decide +kernel
theorem dX6_count_82 : decode cX6_count 82 = .ok (.invokespecial 114, 3) := by decide +kernel
theorem dX6_count_85 : decode cX6_count 85 = .ok (.athrow, 1) := by decide +kernel
set_option maxRecDepth 20000 in
theorem ggX6_need_Jx4a65c_size_8abf5 : GoodIn wsX6_need wsJx4a65c_size_8abf5 := goodIn_r _ [7, 8, 45, 46, 47] (by decide +kernel) (by decide +kernel)
set_option maxRecDepth 20000 in
theorem gX6_need_Jx4a65c_size_8abf5 : GoodIn wsX6_need (wsV RX6 76 RJx4a65c yJx4a65c_size_8abf5 wsJx4a65c_size_8abf5) := goodIn_app (goodIn_of _ (by decide +kernel)) ggX6_need_Jx4a65c_size_8abf5
set_option maxRecDepth 20000 in
theorem ggX6_need_X6_checkNumber : GoodIn wsX6_need wsX6_checkNumber := goodIn_ca (goodIn_r _ [12, 13, 14] (by decide +kernel) (by decide +kernel)) (goodIn_sub (fun _ h => List.mem_cons_of_mem _ (List.mem_append_right _ h)) (by decide +kernel))
set_option maxRecDepth 20000 in
theorem gX6_need_X6_checkNumber : GoodIn wsX6_need (va_wsS RX6 93 yX6_checkNumber wsX6_checkNumber) := goodIn_app (goodIn_of _ (by decide +kernel)) ggX6_need_X6_checkNumber
set_option maxRecDepth 20000 in
theorem ggX6_need_Jx4a65c_get_915e3 : GoodIn wsX6_need wsJx4a65c_get_915e3 := goodIn_r _ [18, 8, 19, 20, 21, 22, 23, 24, 25, 26, 27, 28, 29, 6, 30, 31, 45, 46, 47] (by decide +kernel) (by decide +kernel)
set_option maxRecDepth 20000 in
theorem gX6_need_Jx4a65c_get_915e3 : GoodIn wsX6_need (wsV RX6 96 RJx4a65c yJx4a65c_get_915e3 wsJx4a65c_get_915e3) := goodIn_app (goodIn_of _ (by decide +kernel)) ggX6_need_Jx4a65c_get_915e3
set_option maxRecDepth 20000 in
theorem ggX6_need_X6_waterNeed : GoodIn wsX6_need wsX6_waterNeed := goodIn_r _ [35, 36, 48, 49, 50, 51, 37, 38, 39, 40, 41, 42, 43, 44] (by decide +kernel) (by decide +kernel)
set_option maxRecDepth 20000 in
theorem gX6_need_X6_waterNeed : GoodIn wsX6_need (wsV RX6 115 RX6 yX6_waterNeed wsX6_waterNeed) := goodIn_app (goodIn_of _ (by decide +kernel)) ggX6_need_X6_waterNeed
theorem dX6_need_0 : decode cX6_need 0 = .ok (.iload_n 1, 1) := by decide +kernel
theorem dX6_need_1 : decode cX6_need 1 = .ok (.aload_n 0, 1) := by decide +kernel
theorem dX6_need_2 : decode cX6_need 2 = .ok (.getfield 23, 3) := by decide +kernel
theorem dX6_need_5 : decode cX6_need 5 = .ok (.invokevirtual 76, 3) := by decide +kernel
theorem dX6_need_8 : decode cX6_need 8 = .ok (.invokestatic 93, 3) := by decide +kernel
theorem dX6_need_11 : decode cX6_need 11 = .ok (.aload_n 0, 1) := by decide +kernel
theorem dX6_need_12 : decode cX6_need 12 = .ok (.aload_n 0, 1) := by decide +kernel
theorem dX6_need_13 : decode cX6_need 13 = .ok (.getfield 23, 3) := by decide +kernel
theorem dX6_need_16 : decode cX6_need 16 = .ok (.iload_n 1, 1) := by decide +kernel
theorem dX6_need_17 : decode cX6_need 17 = .ok (.invokevirtual 96, 3) := by decide +kernel
theorem dX6_need_20 : decode cX6_need 20 = .ok (.checkcast 90, 3) := by decide +kernel
theorem dX6_need_23 : decode cX6_need 23 = .ok (.invokevirtual 115, 3) := by decide +kernel
theorem dX6_need_26 : decode cX6_need 26 = .ok (.ireturn, 1) := by decide +kernel
set_option maxRecDepth 20000 in
theorem ggX6_window_X6_checkCall : GoodIn wsX6_window wsX6_checkCall := goodIn_ca (goodIn_ca (goodIn_r _ [10, 1, 4, 11, 12, 13, 14, 15, 16, 17, 18, 9, 19, 20, 21, 22, 23, 24, 25, 26, 27, 28, 29, 69, 70, 71, 72, 73, 74, 75, 76, 80, 81, 82] (by decide +kernel) (by decide +kernel)) (goodIn_sub (fun _ h => List.mem_cons_of_mem _ (List.mem_append_left _ (List.mem_append_right _ h))) (by decide +kernel))) (goodIn_sub (fun _ h => List.mem_cons_of_mem _ (List.mem_append_right _ h)) (by decide +kernel))
set_option maxRecDepth 20000 in
theorem gX6_window_X6_checkCall : GoodIn wsX6_window (wsV RX6 119 RX6 yX6_checkCall wsX6_checkCall) := goodIn_app (goodIn_of _ (by decide +kernel)) ggX6_window_X6_checkCall
set_option maxRecDepth 20000 in
theorem ggX6_window_Jx4a65c_get_915e3 : GoodIn wsX6_window wsJx4a65c_get_915e3 := goodIn_r _ [33, 16, 34, 35, 36, 37, 38, 39, 40, 41, 42, 43, 44, 14, 45, 46, 80, 81, 82] (by decide +kernel) (by decide +kernel)
set_option maxRecDepth 20000 in
theorem gX6_window_Jx4a65c_get_915e3 : GoodIn wsX6_window (wsV RX6 96 RJx4a65c yJx4a65c_get_915e3 wsJx4a65c_get_915e3) := goodIn_app (goodIn_of _ (by decide +kernel)) ggX6_window_Jx4a65c_get_915e3
set_option maxRecDepth 20000 in
theorem ggX6_window_X6_hasWater : GoodIn wsX6_window wsX6_hasWater := goodIn_r _ [50, 51, 52, 53, 54, 55, 56, 57, 58, 59, 60, 61, 62, 63, 64, 65, 66, 9, 67, 68, 69, 70, 71, 72, 73, 74, 75, 76, 83, 84, 85, 86, 87, 88, 89] (by decide +kernel) (by decide +kernel)
set_option maxRecDepth 20000 in
theorem gX6_window_X6_hasWater : GoodIn wsX6_window (wsV RX6 125 RX6 yX6_hasWater wsX6_hasWater) := goodIn_app (goodIn_of _ (by decide +kernel)) ggX6_window_X6_hasWater
theorem dX6_window_0 : decode cX6_window 0 = .ok (.aload_n 0, 1) := by decide +kernel
theorem dX6_window_1 : decode cX6_window 1 = .ok (.iload_n 1, 1) := by decide +kernel
theorem dX6_window_2 : decode cX6_window 2 = .ok (.iload_n 2, 1) := by decide +kernel
theorem dX6_window_3 : decode cX6_window 3 = .ok (.iload_n 3, 1) := by decide +kernel
theorem dX6_window_4 : decode cX6_window 4 = .ok (.invokevirtual 119, 3) := by decide +kernel
theorem dX6_window_7 : decode cX6_window 7 = .ok (.aload_n 0, 1) := by decide +kernel
theorem dX6_window_8 : decode cX6_window 8 = .ok (.getfield 23, 3) := by decide +kernel
theorem dX6_window_11 : decode cX6_window 11 = .ok (.iload_n 1, 1) := by decide +kernel
theorem dX6_window_12 : decode cX6_window 12 = .ok (.invokevirtual 96, 3) := by decide +kernel
theorem dX6_window_15 : decode cX6_window 15 = .ok (.checkcast 90, 3) := by decide +kernel
theorem dX6_window_18 : decode cX6_window 18 = .ok (.astore 4, 2) := by decide +kernel
theorem dX6_window_20 : decode cX6_window 20 = .ok (.iload_n 2, 1) := by decide +kernel
theorem dX6_window_21 : decode cX6_window 21 = .ok (.iconst (-1), 1) := by decide +kernel
theorem dX6_window_22 : decode cX6_window 22 = .ok (.if_icmp .ne 10, 3) := by decide +kernel
theorem dX6_window_25 : decode cX6_window 25 = .ok (.aload_n 0, 1) := by decide +kernel
theorem dX6_window_26 : decode cX6_window 26 = .ok (.getfield 32, 3) := by decide +kernel
theorem dX6_window_29 : decode cX6_window 29 = .ok (.goto 17, 3) := by decide +kernel
theorem dX6_window_32 : decode cX6_window 32 = .ok (.aload_n 0, 1) := by decide +kernel
theorem dX6_window_33 : decode cX6_window 33 = .ok (.getfield 19, 3) := by decide +kernel
theorem dX6_window_36 : decode cX6_window 36 = .ok (.iload_n 2, 1) := by decide +kernel
theorem dX6_window_37 : decode cX6_window 37 = .ok (.invokevirtual 96, 3) := by decide +kernel
theorem dX6_window_40 : decode cX6_window 40 = .ok (.checkcast 82, 3) := by decide +kernel
theorem dX6_window_43 : decode cX6_window 43 = .ok (.getfield 122, 3) := by decide +kernel
theorem dX6_window_46 : decode cX6_window 46 = .ok (.istore 5, 2) := by decide +kernel
theorem dX6_window_48 : decode cX6_window 48 = .ok (.iload_n 3, 1) := by decide +kernel
theorem dX6_window_49 : decode cX6_window 49 = .ok (.istore 6, 2) := by decide +kernel
theorem dX6_window_51 : decode cX6_window 51 = .ok (.iload 6, 2) := by decide +kernel
theorem dX6_window_53 : decode cX6_window 53 = .ok (.sipush 2879, 3) := by decide +kernel
theorem dX6_window_56 : decode cX6_window 56 = .ok (.if_icmp .gt 25, 3) := by decide +kernel
theorem dX6_window_59 : decode cX6_window 59 = .ok (.aload_n 0, 1) := by decide +kernel
theorem dX6_window_60 : decode cX6_window 60 = .ok (.aload 4, 2) := by decide +kernel
theorem dX6_window_62 : decode cX6_window 62 = .ok (.iload 5, 2) := by decide +kernel
theorem dX6_window_64 : decode cX6_window 64 = .ok (.iload 6, 2) := by decide +kernel
theorem dX6_window_66 : decode cX6_window 66 = .ok (.invokevirtual 125, 3) := by decide +kernel
theorem dX6_window_69 : decode cX6_window 69 = .ok (.ifCond .eq 6, 3) := by decide +kernel
theorem dX6_window_72 : decode cX6_window 72 = .ok (.iload 6, 2) := by decide +kernel
theorem dX6_window_74 : decode cX6_window 74 = .ok (.ireturn, 1) := by decide +kernel
theorem dX6_window_75 : decode cX6_window 75 = .ok (.iinc 6 1, 3) := by decide +kernel
theorem dX6_window_78 : decode cX6_window 78 = .ok (.goto (-27), 3) := by decide +kernel
theorem dX6_window_81 : decode cX6_window 81 = .ok (.iconst (-1), 1) := by decide +kernel
theorem dX6_window_82 : decode cX6_window 82 = .ok (.ireturn, 1) := by decide +kernel
set_option maxRecDepth 20000 in
theorem ggX6_least_Jx4a65c_size_8abf5 : GoodIn wsX6_least wsJx4a65c_size_8abf5 := goodIn_r _ [9, 10, 84, 85, 86] (by decide +kernel) (by decide +kernel)
set_option maxRecDepth 20000 in
theorem gX6_least_Jx4a65c_size_8abf5 : GoodIn wsX6_least (wsV RX6 76 RJx4a65c yJx4a65c_size_8abf5 wsJx4a65c_size_8abf5) := goodIn_app (goodIn_of _ (by decide +kernel)) ggX6_least_Jx4a65c_size_8abf5
set_option maxRecDepth 20000 in
theorem ggX6_least_X6_checkNumber : GoodIn wsX6_least wsX6_checkNumber := goodIn_ca (goodIn_r _ [14, 15, 16] (by decide +kernel) (by decide +kernel)) (goodIn_sub (fun _ h => List.mem_cons_of_mem _ (List.mem_append_right _ h)) (by decide +kernel))
set_option maxRecDepth 20000 in
theorem gX6_least_X6_checkNumber : GoodIn wsX6_least (va_wsS RX6 93 yX6_checkNumber wsX6_checkNumber) := goodIn_app (goodIn_of _ (by decide +kernel)) ggX6_least_X6_checkNumber
set_option maxRecDepth 20000 in
theorem ggX6_least_Jx4a65c_get_915e3 : GoodIn wsX6_least wsJx4a65c_get_915e3 := goodIn_r _ [20, 10, 21, 22, 23, 24, 25, 26, 27, 28, 29, 30, 31, 8, 32, 33, 84, 85, 86] (by decide +kernel) (by decide +kernel)
set_option maxRecDepth 20000 in
theorem gX6_least_Jx4a65c_get_915e3 : GoodIn wsX6_least (wsV RX6 96 RJx4a65c yJx4a65c_get_915e3 wsJx4a65c_get_915e3) := goodIn_app (goodIn_of _ (by decide +kernel)) ggX6_least_Jx4a65c_get_915e3
set_option maxRecDepth 20000 in
theorem ggX6_least_X1_end : GoodIn wsX6_least wsX1_end := goodIn_r _ [38, 39, 73, 74, 75, 76, 77, 78, 79] (by decide +kernel) (by decide +kernel)
set_option maxRecDepth 20000 in
theorem gX6_least_X1_end : GoodIn wsX6_least (wsV RX6 150 RX1 yX1_end wsX1_end) := goodIn_app (goodIn_of _ (by decide +kernel)) ggX6_least_X1_end
set_option maxRecDepth 20000 in
theorem ggX6_least_X6_leastWater : GoodIn wsX6_least wsX6_leastWater := goodIn_r _ [43, 44, 45, 46, 47, 48, 49, 50, 51, 52, 53, 54, 55, 56, 57, 58, 59, 60, 61, 62, 63, 64, 65, 66, 67, 68, 80, 81, 82, 83, 87, 88, 89, 69, 70, 71, 72, 90, 91, 92] (by decide +kernel) (by decide +kernel)
set_option maxRecDepth 20000 in
theorem gX6_least_X6_leastWater : GoodIn wsX6_least (wsV RX6 156 RX6 yX6_leastWater wsX6_leastWater) := goodIn_app (goodIn_of _ (by decide +kernel)) ggX6_least_X6_leastWater
theorem dX6_least_0 : decode cX6_least 0 = .ok (.iload_n 1, 1) := by decide +kernel
theorem dX6_least_1 : decode cX6_least 1 = .ok (.aload_n 0, 1) := by decide +kernel
theorem dX6_least_2 : decode cX6_least 2 = .ok (.getfield 23, 3) := by decide +kernel
theorem dX6_least_5 : decode cX6_least 5 = .ok (.invokevirtual 76, 3) := by decide +kernel
theorem dX6_least_8 : decode cX6_least 8 = .ok (.invokestatic 93, 3) := by decide +kernel
theorem dX6_least_11 : decode cX6_least 11 = .ok (.aload_n 0, 1) := by decide +kernel
theorem dX6_least_12 : decode cX6_least 12 = .ok (.getfield 23, 3) := by decide +kernel
theorem dX6_least_15 : decode cX6_least 15 = .ok (.iload_n 1, 1) := by decide +kernel
theorem dX6_least_16 : decode cX6_least 16 = .ok (.invokevirtual 96, 3) := by decide +kernel
theorem dX6_least_19 : decode cX6_least 19 = .ok (.checkcast 90, 3) := by decide +kernel
theorem dX6_least_22 : decode cX6_least 22 = .ok (.getfield 129, 3) := by decide +kernel
theorem dX6_least_25 : decode cX6_least 25 = .ok (.astore_n 2, 1) := by decide +kernel
theorem dX6_least_26 : decode cX6_least 26 = .ok (.aload_n 2, 1) := by decide +kernel
theorem dX6_least_27 : decode cX6_least 27 = .ok (.ifnull 17, 3) := by decide +kernel
theorem dX6_least_30 : decode cX6_least 30 = .ok (.aload_n 2, 1) := by decide +kernel
theorem dX6_least_31 : decode cX6_least 31 = .ok (.getfield 133, 3) := by decide +kernel
theorem dX6_least_34 : decode cX6_least 34 = .ok (.getfield 139, 3) := by decide +kernel
theorem dX6_least_37 : decode cX6_least 37 = .ok (.ifCond .eq 7, 3) := by decide +kernel
theorem dX6_least_40 : decode cX6_least 40 = .ok (.iconst 1, 1) := by decide +kernel
theorem dX6_least_41 : decode cX6_least 41 = .ok (.goto 4, 3) := by decide +kernel
theorem dX6_least_44 : decode cX6_least 44 = .ok (.iconst 0, 1) := by decide +kernel
theorem dX6_least_45 : decode cX6_least 45 = .ok (.istore_n 3, 1) := by decide +kernel
theorem dX6_least_46 : decode cX6_least 46 = .ok (.iload_n 3, 1) := by decide +kernel
theorem dX6_least_47 : decode cX6_least 47 = .ok (.ifCond .eq 10, 3) := by decide +kernel
theorem dX6_least_50 : decode cX6_least 50 = .ok (.aload_n 2, 1) := by decide +kernel
theorem dX6_least_51 : decode cX6_least 51 = .ok (.getfield 145, 3) := by decide +kernel
theorem dX6_least_54 : decode cX6_least 54 = .ok (.goto 4, 3) := by decide +kernel
theorem dX6_least_57 : decode cX6_least 57 = .ok (.aload_n 2, 1) := by decide +kernel
theorem dX6_least_58 : decode cX6_least 58 = .ok (.astore 4, 2) := by decide +kernel
theorem dX6_least_60 : decode cX6_least 60 = .ok (.aload 4, 2) := by decide +kernel
theorem dX6_least_62 : decode cX6_least 62 = .ok (.ifnonnull 13, 3) := by decide +kernel
theorem dX6_least_65 : decode cX6_least 65 = .ok (.new 61, 3) := by decide +kernel
theorem dX6_least_68 : decode cX6_least 68 = .ok (.dup, 1) := by decide +kernel
theorem dX6_least_69 : decode cX6_least 69 = .ok (.ldc 148, 2) := by decide +kernel
theorem dX6_least_71 : decode cX6_least 71 = .ok (.invokespecial 65, 3) := by decide +kernel
theorem dX6_least_74 : decode cX6_least 74 = .ok (.athrow, 1) := by decide +kernel
theorem dX6_least_75 : decode cX6_least 75 = .ok (.aload_n 0, 1) := by decide +kernel
theorem dX6_least_76 : decode cX6_least 76 = .ok (.aload 4, 2) := by decide +kernel
theorem dX6_least_78 : decode cX6_least 78 = .ok (.getfield 133, 3) := by decide +kernel
theorem dX6_least_81 : decode cX6_least 81 = .ok (.aload 4, 2) := by decide +kernel
theorem dX6_least_83 : decode cX6_least 83 = .ok (.invokevirtual 150, 3) := by decide +kernel
theorem dX6_least_86 : decode cX6_least 86 = .ok (.iload_n 3, 1) := by decide +kernel
theorem dX6_least_87 : decode cX6_least 87 = .ok (.ifCond .eq 10, 3) := by decide +kernel
theorem dX6_least_90 : decode cX6_least 90 = .ok (.aload_n 2, 1) := by decide +kernel
theorem dX6_least_91 : decode cX6_least 91 = .ok (.getfield 153, 3) := by decide +kernel
theorem dX6_least_94 : decode cX6_least 94 = .ok (.goto 6, 3) := by decide +kernel
theorem dX6_least_97 : decode cX6_least 97 = .ok (.sipush 2879, 3) := by decide +kernel
theorem dX6_least_100 : decode cX6_least 100 = .ok (.invokevirtual 156, 3) := by decide +kernel
theorem dX6_least_103 : decode cX6_least 103 = .ok (.ireturn, 1) := by decide +kernel
set_option maxRecDepth 20000 in
theorem ggX6_earliest_X6_checkCall : GoodIn wsX6_earliest wsX6_checkCall := goodIn_ca (goodIn_ca (goodIn_r _ [5, 6, 7, 8, 9, 10, 11, 12, 13, 14, 15, 4, 16, 17, 18, 19, 20, 21, 22, 23, 24, 25, 26, 170, 171, 172, 173, 174, 175, 176, 177, 178, 179, 180] (by decide +kernel) (by decide +kernel)) (goodIn_sub (fun _ h => List.mem_cons_of_mem _ (List.mem_append_left _ (List.mem_append_right _ h))) (by decide +kernel))) (goodIn_sub (fun _ h => List.mem_cons_of_mem _ (List.mem_append_right _ h)) (by decide +kernel))
set_option maxRecDepth 20000 in
theorem gX6_earliest_X6_checkCall : GoodIn wsX6_earliest (wsV RX6 119 RX6 yX6_checkCall wsX6_checkCall) := goodIn_app (goodIn_of _ (by decide +kernel)) ggX6_earliest_X6_checkCall
set_option maxRecDepth 20000 in
theorem ggX6_earliest_X6_routeOf : GoodIn wsX6_earliest wsX6_routeOf := goodIn_r _ [30, 6, 31, 32, 33, 34, 7, 35, 36, 37, 38, 11, 39, 13, 40, 41, 42, 43, 44, 45, 46, 47, 48, 49, 50, 51, 52, 53, 54, 55, 56, 57, 58, 59, 60, 61, 62, 63, 64, 65, 170, 171, 172, 173, 174, 175, 176, 177, 181, 182, 183, 184, 185, 186, 187, 188, 189, 190, 191, 192, 193, 194, 195, 178, 179, 180] (by decide +kernel) (by decide +kernel)
set_option maxRecDepth 20000 in
theorem gX6_earliest_X6_routeOf : GoodIn wsX6_earliest (wsV RX6 160 RX6 yX6_routeOf wsX6_routeOf) := goodIn_app (goodIn_of _ (by decide +kernel)) ggX6_earliest_X6_routeOf
set_option maxRecDepth 20000 in
theorem ggX6_earliest_X6_firstBegin : GoodIn wsX6_earliest wsX6_firstBegin := goodIn_r _ [69, 70, 71, 72, 73, 74, 75, 76, 4, 77, 78, 79, 80, 81, 82, 83, 84, 85, 8, 9, 10, 11, 12, 13, 36, 37, 38, 39, 40, 41, 42, 43, 44, 45, 46, 47, 48, 49, 50, 51, 52, 86, 87, 88, 89, 90, 91, 92, 93, 94, 95, 96, 97, 98, 99, 100, 34, 101, 61, 102, 103, 104, 105, 106, 107, 108, 109, 110, 111, 112, 113, 114, 115, 116, 117, 118, 119, 120, 121, 122, 123, 124, 125, 126, 127, 128, 129, 130, 131, 132, 133, 134, 135, 136, 137, 138, 139, 140, 141, 142, 143, 144, 145, 146, 147, 148, 149, 150, 151, 152, 153, 154, 155, 156, 157, 158, 159, 160, 161, 162, 163, 164, 165, 166, 167, 168, 169, 192, 193, 194, 195, 181, 182, 183, 184, 196, 197, 198, 170, 171, 172, 173, 174, 175, 176, 177, 185, 186, 187, 188, 189, 190, 191, 178, 179, 180, 199, 200, 201, 202, 203, 204, 205] (by decide +kernel) (by decide +kernel)
set_option maxRecDepth 20000 in
theorem gX6_earliest_X6_firstBegin : GoodIn wsX6_earliest (wsV RX6 164 RX6 yX6_firstBegin wsX6_firstBegin) := goodIn_app (goodIn_of _ (by decide +kernel)) ggX6_earliest_X6_firstBegin
theorem dX6_earliest_0 : decode cX6_earliest 0 = .ok (.aload_n 0, 1) := by decide +kernel
theorem dX6_earliest_1 : decode cX6_earliest 1 = .ok (.iload_n 1, 1) := by decide +kernel
theorem dX6_earliest_2 : decode cX6_earliest 2 = .ok (.iload_n 2, 1) := by decide +kernel
theorem dX6_earliest_3 : decode cX6_earliest 3 = .ok (.iload_n 3, 1) := by decide +kernel
theorem dX6_earliest_4 : decode cX6_earliest 4 = .ok (.invokevirtual 119, 3) := by decide +kernel
theorem dX6_earliest_7 : decode cX6_earliest 7 = .ok (.aload_n 0, 1) := by decide +kernel
theorem dX6_earliest_8 : decode cX6_earliest 8 = .ok (.iload_n 1, 1) := by decide +kernel
theorem dX6_earliest_9 : decode cX6_earliest 9 = .ok (.iload_n 2, 1) := by decide +kernel
theorem dX6_earliest_10 : decode cX6_earliest 10 = .ok (.invokevirtual 160, 3) := by decide +kernel
theorem dX6_earliest_13 : decode cX6_earliest 13 = .ok (.astore 4, 2) := by decide +kernel
theorem dX6_earliest_15 : decode cX6_earliest 15 = .ok (.aload 4, 2) := by decide +kernel
theorem dX6_earliest_17 : decode cX6_earliest 17 = .ok (.ifnonnull 7, 3) := by decide +kernel
theorem dX6_earliest_20 : decode cX6_earliest 20 = .ok (.iconst (-1), 1) := by decide +kernel
theorem dX6_earliest_21 : decode cX6_earliest 21 = .ok (.goto 10, 3) := by decide +kernel
theorem dX6_earliest_24 : decode cX6_earliest 24 = .ok (.aload_n 0, 1) := by decide +kernel
theorem dX6_earliest_25 : decode cX6_earliest 25 = .ok (.aload 4, 2) := by decide +kernel
theorem dX6_earliest_27 : decode cX6_earliest 27 = .ok (.iload_n 3, 1) := by decide +kernel
theorem dX6_earliest_28 : decode cX6_earliest 28 = .ok (.invokevirtual 164, 3) := by decide +kernel
theorem dX6_earliest_31 : decode cX6_earliest 31 = .ok (.ireturn, 1) := by decide +kernel
set_option maxRecDepth 20000 in
theorem ggX6_book_X6_checkCall : GoodIn wsX6_book wsX6_checkCall := goodIn_ca (goodIn_ca (goodIn_r _ [11, 12, 13, 14, 15, 16, 17, 18, 19, 20, 21, 10, 22, 23, 24, 25, 26, 27, 28, 29, 30, 31, 32, 240, 241, 242, 243, 244, 245, 246, 247, 255, 256, 257] (by decide +kernel) (by decide +kernel)) (goodIn_sub (fun _ h => List.mem_cons_of_mem _ (List.mem_append_left _ (List.mem_append_right _ h))) (by decide +kernel))) (goodIn_sub (fun _ h => List.mem_cons_of_mem _ (List.mem_append_right _ h)) (by decide +kernel))
set_option maxRecDepth 20000 in
theorem gX6_book_X6_checkCall : GoodIn wsX6_book (wsV RX6 119 RX6 yX6_checkCall wsX6_checkCall) := goodIn_app (goodIn_of _ (by decide +kernel)) ggX6_book_X6_checkCall
set_option maxRecDepth 20000 in
theorem ggX6_book_Jx4a65c_size_8abf5 : GoodIn wsX6_book wsJx4a65c_size_8abf5 := goodIn_r _ [18, 19, 255, 256, 257] (by decide +kernel) (by decide +kernel)
set_option maxRecDepth 20000 in
theorem gX6_book_Jx4a65c_size_8abf5 : GoodIn wsX6_book (wsV RX6 76 RJx4a65c yJx4a65c_size_8abf5 wsJx4a65c_size_8abf5) := goodIn_app (goodIn_of _ (by decide +kernel)) ggX6_book_Jx4a65c_size_8abf5
set_option maxRecDepth 20000 in
theorem ggX6_book_X6_checkRoom : GoodIn wsX6_book wsX6_checkRoom := goodIn_ca (goodIn_r _ [35, 1, 2] (by decide +kernel) (by decide +kernel)) (goodIn_sub (fun _ h => List.mem_cons_of_mem _ (List.mem_append_left _ (List.mem_append_left _ (List.mem_append_right _ h)))) (by decide +kernel))
set_option maxRecDepth 20000 in
theorem gX6_book_X6_checkRoom : GoodIn wsX6_book (va_wsS RX6 79 yX6_checkRoom wsX6_checkRoom) := goodIn_app (goodIn_of _ (by decide +kernel)) ggX6_book_X6_checkRoom
set_option maxRecDepth 20000 in
theorem ggX6_book_X6_routeOf : GoodIn wsX6_book wsX6_routeOf := goodIn_r _ [39, 12, 40, 41, 42, 43, 13, 44, 45, 46, 47, 17, 48, 19, 49, 50, 51, 52, 53, 54, 55, 56, 57, 58, 59, 60, 61, 62, 63, 64, 65, 66, 67, 68, 69, 70, 71, 72, 73, 74, 240, 241, 242, 243, 244, 245, 246, 247, 258, 259, 260, 261, 248, 249, 250, 251, 252, 253, 254, 262, 263, 264, 265, 255, 256, 257] (by decide +kernel) (by decide +kernel)
set_option maxRecDepth 20000 in
theorem gX6_book_X6_routeOf : GoodIn wsX6_book (wsV RX6 160 RX6 yX6_routeOf wsX6_routeOf) := goodIn_app (goodIn_of _ (by decide +kernel)) ggX6_book_X6_routeOf
set_option maxRecDepth 20000 in
theorem ggX6_book_X6_firstBegin : GoodIn wsX6_book wsX6_firstBegin := goodIn_r _ [78, 79, 80, 81, 82, 83, 84, 85, 10, 86, 3, 87, 88, 89, 90, 6, 91, 92, 14, 15, 16, 17, 18, 19, 45, 46, 47, 48, 49, 50, 51, 52, 53, 54, 55, 56, 57, 58, 59, 60, 61, 93, 94, 95, 96, 97, 98, 99, 100, 101, 102, 103, 104, 105, 106, 107, 43, 108, 70, 109, 110, 111, 112, 113, 114, 115, 116, 117, 118, 119, 120, 121, 122, 123, 124, 125, 126, 127, 128, 129, 130, 131, 132, 133, 134, 135, 136, 137, 138, 139, 140, 141, 142, 143, 144, 145, 146, 147, 148, 149, 150, 151, 152, 153, 154, 155, 156, 157, 158, 159, 160, 161, 162, 163, 164, 165, 166, 167, 168, 169, 170, 171, 172, 173, 174, 175, 176, 262, 263, 264, 265, 258, 259, 260, 261, 266, 267, 268, 240, 241, 242, 243, 244, 245, 246, 247, 248, 249, 250, 251, 252, 253, 254, 255, 256, 257, 269, 270, 271, 272, 273, 274, 275] (by decide +kernel) (by decide +kernel)
set_option maxRecDepth 20000 in
theorem gX6_book_X6_firstBegin : GoodIn wsX6_book (wsV RX6 164 RX6 yX6_firstBegin wsX6_firstBegin) := goodIn_app (goodIn_of _ (by decide +kernel)) ggX6_book_X6_firstBegin
set_option maxRecDepth 20000 in
theorem ggX6_book_X6_pilotFor : GoodIn wsX6_book wsX6_pilotFor := goodIn_r _ [157, 158, 159, 14, 15, 16, 17, 18, 19, 45, 46, 47, 48, 49, 50, 51, 52, 53, 54, 55, 56, 57, 58, 59, 60, 61, 160, 161, 162, 163, 164, 165, 166, 167, 168, 169, 170, 171, 172, 89, 90, 6, 91, 92, 173, 174, 175, 176, 240, 241, 242, 243, 244, 245, 246, 247, 255, 256, 257, 272, 273, 274, 275, 262, 263, 264, 265, 258, 259, 260, 261, 248, 249, 250, 251, 252, 253, 254] (by decide +kernel) (by decide +kernel)
set_option maxRecDepth 20000 in
theorem gX6_book_X6_pilotFor : GoodIn wsX6_book (wsV RX6 170 RX6 yX6_pilotFor wsX6_pilotFor) := goodIn_app (goodIn_of _ (by decide +kernel)) ggX6_book_X6_pilotFor
set_option maxRecDepth 20000 in
theorem ggX6_book_X1_init : GoodIn wsX6_book wsX1_init := goodIn_r _ [179, 180, 66, 67, 152, 181, 92, 182, 183, 184, 185, 248, 249, 250, 251, 252, 253, 254, 262, 263, 264, 265, 258, 259, 260, 261, 272, 273, 274, 275] (by decide +kernel) (by decide +kernel)
set_option maxRecDepth 20000 in
theorem gX6_book_X1_init : GoodIn wsX6_book (wsX1_init) := ggX6_book_X1_init
set_option maxRecDepth 20000 in
theorem ggX6_book_X6_enter : GoodIn wsX6_book wsX6_enter := goodIn_r _ [189, 3, 190, 191, 192, 17, 193, 194, 195, 61, 19, 196, 197, 198, 199, 200, 201, 202, 203, 204, 205, 206, 207, 208, 209, 80, 81, 82, 210, 211, 212, 213, 214, 215, 216, 217, 218, 219, 220, 221, 222, 223, 224, 225, 226, 227, 228, 229, 230, 231, 232, 233, 234, 235, 236, 237, 238, 239, 88, 89, 90, 6, 91, 92, 240, 241, 242, 243, 244, 245, 246, 247, 248, 249, 250, 251, 252, 253, 254, 262, 263, 264, 265, 258, 259, 260, 261, 272, 273, 274, 275, 255, 256, 257] (by decide +kernel) (by decide +kernel)
set_option maxRecDepth 20000 in
theorem gX6_book_X6_enter : GoodIn wsX6_book (wsV RX6 179 RX6 yX6_enter wsX6_enter) := goodIn_app (goodIn_of _ (by decide +kernel)) ggX6_book_X6_enter
theorem dX6_book_0 : decode cX6_book 0 = .ok (.aload_n 0, 1) := by decide +kernel
theorem dX6_book_1 : decode cX6_book 1 = .ok (.iload_n 1, 1) := by decide +kernel
theorem dX6_book_2 : decode cX6_book 2 = .ok (.iload_n 2, 1) := by decide +kernel
theorem dX6_book_3 : decode cX6_book 3 = .ok (.iload_n 3, 1) := by decide +kernel
theorem dX6_book_4 : decode cX6_book 4 = .ok (.invokevirtual 119, 3) := by decide +kernel
theorem dX6_book_7 : decode cX6_book 7 = .ok (.aload_n 0, 1) := by decide +kernel
theorem dX6_book_8 : decode cX6_book 8 = .ok (.getfield 29, 3) := by decide +kernel
theorem dX6_book_11 : decode cX6_book 11 = .ok (.invokevirtual 76, 3) := by decide +kernel
theorem dX6_book_14 : decode cX6_book 14 = .ok (.istore 4, 2) := by decide +kernel
theorem dX6_book_16 : decode cX6_book 16 = .ok (.iload 4, 2) := by decide +kernel
theorem dX6_book_18 : decode cX6_book 18 = .ok (.bipush 40, 2) := by decide +kernel
theorem dX6_book_20 : decode cX6_book 20 = .ok (.invokestatic 79, 3) := by decide +kernel
theorem dX6_book_23 : decode cX6_book 23 = .ok (.aload_n 0, 1) := by decide +kernel
theorem dX6_book_24 : decode cX6_book 24 = .ok (.iload_n 1, 1) := by decide +kernel
theorem dX6_book_25 : decode cX6_book 25 = .ok (.iload_n 2, 1) := by decide +kernel
theorem dX6_book_26 : decode cX6_book 26 = .ok (.invokevirtual 160, 3) := by decide +kernel
theorem dX6_book_29 : decode cX6_book 29 = .ok (.astore 5, 2) := by decide +kernel
theorem dX6_book_31 : decode cX6_book 31 = .ok (.aload 5, 2) := by decide +kernel
theorem dX6_book_33 : decode cX6_book 33 = .ok (.ifnonnull 13, 3) := by decide +kernel
theorem dX6_book_36 : decode cX6_book 36 = .ok (.new 61, 3) := by decide +kernel
theorem dX6_book_39 : decode cX6_book 39 = .ok (.dup, 1) := by decide +kernel
theorem dX6_book_40 : decode cX6_book 40 = .ok (.ldc 168, 2) := by decide +kernel
theorem dX6_book_42 : decode cX6_book 42 = .ok (.invokespecial 65, 3) := by decide +kernel
theorem dX6_book_45 : decode cX6_book 45 = .ok (.athrow, 1) := by decide +kernel
theorem dX6_book_46 : decode cX6_book 46 = .ok (.aload_n 0, 1) := by decide +kernel
theorem dX6_book_47 : decode cX6_book 47 = .ok (.aload 5, 2) := by decide +kernel
theorem dX6_book_49 : decode cX6_book 49 = .ok (.iload_n 3, 1) := by decide +kernel
theorem dX6_book_50 : decode cX6_book 50 = .ok (.invokevirtual 164, 3) := by decide +kernel
theorem dX6_book_53 : decode cX6_book 53 = .ok (.istore 6, 2) := by decide +kernel
theorem dX6_book_55 : decode cX6_book 55 = .ok (.iload 6, 2) := by decide +kernel
theorem dX6_book_57 : decode cX6_book 57 = .ok (.iconst (-1), 1) := by decide +kernel
theorem dX6_book_58 : decode cX6_book 58 = .ok (.if_icmp .ne 7, 3) := by decide +kernel
theorem dX6_book_61 : decode cX6_book 61 = .ok (.aconst_null, 1) := by decide +kernel
theorem dX6_book_62 : decode cX6_book 62 = .ok (.goto 11, 3) := by decide +kernel
theorem dX6_book_65 : decode cX6_book 65 = .ok (.aload_n 0, 1) := by decide +kernel
theorem dX6_book_66 : decode cX6_book 66 = .ok (.aload 5, 2) := by decide +kernel
theorem dX6_book_68 : decode cX6_book 68 = .ok (.iload 6, 2) := by decide +kernel
theorem dX6_book_70 : decode cX6_book 70 = .ok (.invokevirtual 170, 3) := by decide +kernel
theorem dX6_book_73 : decode cX6_book 73 = .ok (.astore 7, 2) := by decide +kernel
theorem dX6_book_75 : decode cX6_book 75 = .ok (.aload 7, 2) := by decide +kernel
theorem dX6_book_77 : decode cX6_book 77 = .ok (.ifnonnull 13, 3) := by decide +kernel
theorem dX6_book_80 : decode cX6_book 80 = .ok (.new 61, 3) := by decide +kernel
theorem dX6_book_83 : decode cX6_book 83 = .ok (.dup, 1) := by decide +kernel
theorem dX6_book_84 : decode cX6_book 84 = .ok (.ldc 174, 2) := by decide +kernel
theorem dX6_book_86 : decode cX6_book 86 = .ok (.invokespecial 65, 3) := by decide +kernel
theorem dX6_book_89 : decode cX6_book 89 = .ok (.athrow, 1) := by decide +kernel
theorem dX6_book_90 : decode cX6_book 90 = .ok (.aload_n 0, 1) := by decide +kernel
theorem dX6_book_91 : decode cX6_book 91 = .ok (.new 134, 3) := by decide +kernel
theorem dX6_book_94 : decode cX6_book 94 = .ok (.dup, 1) := by decide +kernel
theorem dX6_book_95 : decode cX6_book 95 = .ok (.aload 5, 2) := by decide +kernel
theorem dX6_book_97 : decode cX6_book 97 = .ok (.iload_n 3, 1) := by decide +kernel
theorem dX6_book_98 : decode cX6_book 98 = .ok (.iload 6, 2) := by decide +kernel
theorem dX6_book_100 : decode cX6_book 100 = .ok (.aload 7, 2) := by decide +kernel
theorem dX6_book_102 : decode cX6_book 102 = .ok (.invokespecial 176, 3) := by decide +kernel
theorem dX6_book_105 : decode cX6_book 105 = .ok (.invokevirtual 179, 3) := by decide +kernel
theorem dX6_book_108 : decode cX6_book 108 = .ok (.iload 4, 2) := by decide +kernel
theorem dX6_book_110 : decode cX6_book 110 = .ok (.ireturn, 1) := by decide +kernel
set_option maxRecDepth 20000 in
theorem ggX6_cancel_Jx4a65c_size_8abf5 : GoodIn wsX6_cancel wsJx4a65c_size_8abf5 := goodIn_r _ [9, 10, 61, 62, 63] (by decide +kernel) (by decide +kernel)
set_option maxRecDepth 20000 in
theorem gX6_cancel_Jx4a65c_size_8abf5 : GoodIn wsX6_cancel (wsV RX6 76 RJx4a65c yJx4a65c_size_8abf5 wsJx4a65c_size_8abf5) := goodIn_app (goodIn_of _ (by decide +kernel)) ggX6_cancel_Jx4a65c_size_8abf5
set_option maxRecDepth 20000 in
theorem ggX6_cancel_Jx4a65c_remove_915e3 : GoodIn wsX6_cancel wsJx4a65c_remove_915e3 := goodIn_r _ [14, 10, 15, 16, 17, 18, 19, 20, 21, 22, 23, 24, 25, 26, 8, 27, 28, 29, 30, 31, 32, 33, 61, 62, 63] (by decide +kernel) (by decide +kernel)
set_option maxRecDepth 20000 in
theorem gX6_cancel_Jx4a65c_remove_915e3 : GoodIn wsX6_cancel (wsV RX6 185 RJx4a65c yJx4a65c_remove_915e3 wsJx4a65c_remove_915e3) := goodIn_app (goodIn_of _ (by decide +kernel)) ggX6_cancel_Jx4a65c_remove_915e3
theorem dX6_cancel_0 : decode cX6_cancel 0 = .ok (.aload_n 0, 1) := by decide +kernel
theorem dX6_cancel_1 : decode cX6_cancel 1 = .ok (.getfield 29, 3) := by decide +kernel
theorem dX6_cancel_4 : decode cX6_cancel 4 = .ok (.invokevirtual 76, 3) := by decide +kernel
theorem dX6_cancel_7 : decode cX6_cancel 7 = .ok (.iconst 1, 1) := by decide +kernel
theorem dX6_cancel_8 : decode cX6_cancel 8 = .ok (.isub, 1) := by decide +kernel
theorem dX6_cancel_9 : decode cX6_cancel 9 = .ok (.istore_n 1, 1) := by decide +kernel
theorem dX6_cancel_10 : decode cX6_cancel 10 = .ok (.iload_n 1, 1) := by decide +kernel
theorem dX6_cancel_11 : decode cX6_cancel 11 = .ok (.ifCond .ge 13, 3) := by decide +kernel
theorem dX6_cancel_14 : decode cX6_cancel 14 = .ok (.new 61, 3) := by decide +kernel
theorem dX6_cancel_17 : decode cX6_cancel 17 = .ok (.dup, 1) := by decide +kernel
theorem dX6_cancel_18 : decode cX6_cancel 18 = .ok (.ldc 183, 2) := by decide +kernel
theorem dX6_cancel_20 : decode cX6_cancel 20 = .ok (.invokespecial 65, 3) := by decide +kernel
theorem dX6_cancel_23 : decode cX6_cancel 23 = .ok (.athrow, 1) := by decide +kernel
theorem dX6_cancel_24 : decode cX6_cancel 24 = .ok (.aload_n 0, 1) := by decide +kernel
theorem dX6_cancel_25 : decode cX6_cancel 25 = .ok (.getfield 29, 3) := by decide +kernel
theorem dX6_cancel_28 : decode cX6_cancel 28 = .ok (.iload_n 1, 1) := by decide +kernel
theorem dX6_cancel_29 : decode cX6_cancel 29 = .ok (.invokevirtual 185, 3) := by decide +kernel
theorem dX6_cancel_32 : decode cX6_cancel 32 = .ok (.checkcast 134, 3) := by decide +kernel
theorem dX6_cancel_35 : decode cX6_cancel 35 = .ok (.astore_n 2, 1) := by decide +kernel
theorem dX6_cancel_36 : decode cX6_cancel 36 = .ok (.aload_n 2, 1) := by decide +kernel
theorem dX6_cancel_37 : decode cX6_cancel 37 = .ok (.getfield 133, 3) := by decide +kernel
theorem dX6_cancel_40 : decode cX6_cancel 40 = .ok (.getfield 188, 3) := by decide +kernel
theorem dX6_cancel_43 : decode cX6_cancel 43 = .ok (.astore_n 3, 1) := by decide +kernel
theorem dX6_cancel_44 : decode cX6_cancel 44 = .ok (.aload_n 3, 1) := by decide +kernel
theorem dX6_cancel_45 : decode cX6_cancel 45 = .ok (.aload_n 2, 1) := by decide +kernel
theorem dX6_cancel_46 : decode cX6_cancel 46 = .ok (.getfield 145, 3) := by decide +kernel
theorem dX6_cancel_49 : decode cX6_cancel 49 = .ok (.putfield 129, 3) := by decide +kernel
theorem dX6_cancel_52 : decode cX6_cancel 52 = .ok (.aload_n 2, 1) := by decide +kernel
theorem dX6_cancel_53 : decode cX6_cancel 53 = .ok (.getfield 192, 3) := by decide +kernel
theorem dX6_cancel_56 : decode cX6_cancel 56 = .ok (.aload_n 2, 1) := by decide +kernel
theorem dX6_cancel_57 : decode cX6_cancel 57 = .ok (.getfield 196, 3) := by decide +kernel
theorem dX6_cancel_60 : decode cX6_cancel 60 = .ok (.putfield 199, 3) := by decide +kernel
theorem dX6_cancel_63 : decode cX6_cancel 63 = .ok (.aload_n 2, 1) := by decide +kernel
theorem dX6_cancel_64 : decode cX6_cancel 64 = .ok (.getfield 133, 3) := by decide +kernel
theorem dX6_cancel_67 : decode cX6_cancel 67 = .ok (.getfield 139, 3) := by decide +kernel
theorem dX6_cancel_70 : decode cX6_cancel 70 = .ok (.ifCond .eq 20, 3) := by decide +kernel
theorem dX6_cancel_73 : decode cX6_cancel 73 = .ok (.aload_n 2, 1) := by decide +kernel
theorem dX6_cancel_74 : decode cX6_cancel 74 = .ok (.getfield 145, 3) := by decide +kernel
theorem dX6_cancel_77 : decode cX6_cancel 77 = .ok (.ifnull 13, 3) := by decide +kernel
theorem dX6_cancel_80 : decode cX6_cancel 80 = .ok (.aload_n 2, 1) := by decide +kernel
theorem dX6_cancel_81 : decode cX6_cancel 81 = .ok (.getfield 145, 3) := by decide +kernel
theorem dX6_cancel_84 : decode cX6_cancel 84 = .ok (.sipush 2880, 3) := by decide +kernel
theorem dX6_cancel_87 : decode cX6_cancel 87 = .ok (.putfield 200, 3) := by decide +kernel
theorem dX6_cancel_90 : decode cX6_cancel 90 = .ok (.aload_n 3, 1) := by decide +kernel
theorem dX6_cancel_91 : decode cX6_cancel 91 = .ok (.getfield 203, 3) := by decide +kernel
theorem dX6_cancel_94 : decode cX6_cancel 94 = .ok (.ireturn, 1) := by decide +kernel
set_option maxRecDepth 20000 in
theorem ggX6_passage_Jx4a65c_size_8abf5 : GoodIn wsX6_passage wsJx4a65c_size_8abf5 := goodIn_r _ [9, 10, 62, 63, 64] (by decide +kernel) (by decide +kernel)
set_option maxRecDepth 20000 in
theorem gX6_passage_Jx4a65c_size_8abf5 : GoodIn wsX6_passage (wsV RX6 76 RJx4a65c yJx4a65c_size_8abf5 wsJx4a65c_size_8abf5) := goodIn_app (goodIn_of _ (by decide +kernel)) ggX6_passage_Jx4a65c_size_8abf5
set_option maxRecDepth 20000 in
theorem ggX6_passage_X6_checkNumber : GoodIn wsX6_passage wsX6_checkNumber := goodIn_ca (goodIn_r _ [14, 1, 2] (by decide +kernel) (by decide +kernel)) (goodIn_sub (fun _ h => List.mem_cons_of_mem _ (List.mem_append_right _ h)) (by decide +kernel))
set_option maxRecDepth 20000 in
theorem gX6_passage_X6_checkNumber : GoodIn wsX6_passage (va_wsS RX6 93 yX6_checkNumber wsX6_checkNumber) := goodIn_app (goodIn_of _ (by decide +kernel)) ggX6_passage_X6_checkNumber
set_option maxRecDepth 20000 in
theorem ggX6_passage_Jx4a65c_get_915e3 : GoodIn wsX6_passage wsJx4a65c_get_915e3 := goodIn_r _ [18, 10, 19, 20, 21, 22, 23, 24, 25, 26, 27, 28, 29, 8, 30, 31, 62, 63, 64] (by decide +kernel) (by decide +kernel)
set_option maxRecDepth 20000 in
theorem gX6_passage_Jx4a65c_get_915e3 : GoodIn wsX6_passage (wsV RX6 96 RJx4a65c yJx4a65c_get_915e3 wsJx4a65c_get_915e3) := goodIn_app (goodIn_of _ (by decide +kernel)) ggX6_passage_Jx4a65c_get_915e3
theorem dX6_passage_0 : decode cX6_passage 0 = .ok (.iload_n 1, 1) := by decide +kernel
theorem dX6_passage_1 : decode cX6_passage 1 = .ok (.aload_n 0, 1) := by decide +kernel
theorem dX6_passage_2 : decode cX6_passage 2 = .ok (.getfield 29, 3) := by decide +kernel
theorem dX6_passage_5 : decode cX6_passage 5 = .ok (.invokevirtual 76, 3) := by decide +kernel
theorem dX6_passage_8 : decode cX6_passage 8 = .ok (.invokestatic 93, 3) := by decide +kernel
theorem dX6_passage_11 : decode cX6_passage 11 = .ok (.aload_n 0, 1) := by decide +kernel
theorem dX6_passage_12 : decode cX6_passage 12 = .ok (.getfield 29, 3) := by decide +kernel
theorem dX6_passage_15 : decode cX6_passage 15 = .ok (.iload_n 1, 1) := by decide +kernel
theorem dX6_passage_16 : decode cX6_passage 16 = .ok (.invokevirtual 96, 3) := by decide +kernel
theorem dX6_passage_19 : decode cX6_passage 19 = .ok (.checkcast 134, 3) := by decide +kernel
theorem dX6_passage_22 : decode cX6_passage 22 = .ok (.astore_n 3, 1) := by decide +kernel
theorem dX6_passage_23 : decode cX6_passage 23 = .ok (.iload_n 2, 1) := by decide +kernel
theorem dX6_passage_24 : decode cX6_passage 24 = .ok (.tableswitch 99 0 5 #[40, 51, 56, 64, 72, 83], 40) := by decide +kernel
theorem dX6_passage_64 : decode cX6_passage 64 = .ok (.aload_n 3, 1) := by decide +kernel
theorem dX6_passage_65 : decode cX6_passage 65 = .ok (.getfield 133, 3) := by decide +kernel
theorem dX6_passage_68 : decode cX6_passage 68 = .ok (.getfield 188, 3) := by decide +kernel
theorem dX6_passage_71 : decode cX6_passage 71 = .ok (.getfield 203, 3) := by decide +kernel
theorem dX6_passage_74 : decode cX6_passage 74 = .ok (.ireturn, 1) := by decide +kernel
theorem dX6_passage_75 : decode cX6_passage 75 = .ok (.aload_n 3, 1) := by decide +kernel
theorem dX6_passage_76 : decode cX6_passage 76 = .ok (.getfield 153, 3) := by decide +kernel
theorem dX6_passage_79 : decode cX6_passage 79 = .ok (.ireturn, 1) := by decide +kernel
theorem dX6_passage_80 : decode cX6_passage 80 = .ok (.aload_n 3, 1) := by decide +kernel
theorem dX6_passage_81 : decode cX6_passage 81 = .ok (.getfield 192, 3) := by decide +kernel
theorem dX6_passage_84 : decode cX6_passage 84 = .ok (.getfield 206, 3) := by decide +kernel
theorem dX6_passage_87 : decode cX6_passage 87 = .ok (.ireturn, 1) := by decide +kernel
theorem dX6_passage_88 : decode cX6_passage 88 = .ok (.aload_n 3, 1) := by decide +kernel
theorem dX6_passage_89 : decode cX6_passage 89 = .ok (.getfield 133, 3) := by decide +kernel
theorem dX6_passage_92 : decode cX6_passage 92 = .ok (.getfield 207, 3) := by decide +kernel
theorem dX6_passage_95 : decode cX6_passage 95 = .ok (.ireturn, 1) := by decide +kernel
theorem dX6_passage_96 : decode cX6_passage 96 = .ok (.aload_n 3, 1) := by decide +kernel
theorem dX6_passage_97 : decode cX6_passage 97 = .ok (.getfield 133, 3) := by decide +kernel
theorem dX6_passage_100 : decode cX6_passage 100 = .ok (.getfield 208, 3) := by decide +kernel
theorem dX6_passage_103 : decode cX6_passage 103 = .ok (.getfield 212, 3) := by decide +kernel
theorem dX6_passage_106 : decode cX6_passage 106 = .ok (.ireturn, 1) := by decide +kernel
theorem dX6_passage_107 : decode cX6_passage 107 = .ok (.aload_n 3, 1) := by decide +kernel
theorem dX6_passage_108 : decode cX6_passage 108 = .ok (.getfield 133, 3) := by decide +kernel
theorem dX6_passage_111 : decode cX6_passage 111 = .ok (.getfield 139, 3) := by decide +kernel
theorem dX6_passage_114 : decode cX6_passage 114 = .ok (.ifCond .eq 7, 3) := by decide +kernel
theorem dX6_passage_117 : decode cX6_passage 117 = .ok (.iconst 1, 1) := by decide +kernel
theorem dX6_passage_118 : decode cX6_passage 118 = .ok (.goto 4, 3) := by decide +kernel
theorem dX6_passage_121 : decode cX6_passage 121 = .ok (.iconst 0, 1) := by decide +kernel
theorem dX6_passage_122 : decode cX6_passage 122 = .ok (.ireturn, 1) := by decide +kernel
theorem dX6_passage_123 : decode cX6_passage 123 = .ok (.new 110, 3) := by decide +kernel
theorem dX6_passage_126 : decode cX6_passage 126 = .ok (.dup, 1) := by decide +kernel
theorem dX6_passage_127 : decode cX6_passage 127 = .ok (.ldc 213, 2) := by decide +kernel
theorem dX6_passage_129 : decode cX6_passage 129 = .ok (.invokespecial 114, 3) := by decide +kernel
theorem dX6_passage_132 : decode cX6_passage 132 = .ok (.athrow, 1) := by decide +kernel
set_option maxRecDepth 20000 in
theorem ggX6_occupant_Jx4a65c_size_8abf5 : GoodIn wsX6_occupant wsJx4a65c_size_8abf5 := goodIn_r _ [8, 9, 74, 75, 76] (by decide +kernel) (by decide +kernel)
set_option maxRecDepth 20000 in
theorem gX6_occupant_Jx4a65c_size_8abf5 : GoodIn wsX6_occupant (wsV RX6 76 RJx4a65c yJx4a65c_size_8abf5 wsJx4a65c_size_8abf5) := goodIn_app (goodIn_of _ (by decide +kernel)) ggX6_occupant_Jx4a65c_size_8abf5
set_option maxRecDepth 20000 in
theorem ggX6_occupant_X6_checkNumber : GoodIn wsX6_occupant wsX6_checkNumber := goodIn_ca (goodIn_r _ [13, 14, 15] (by decide +kernel) (by decide +kernel)) (goodIn_sub (fun _ h => List.mem_cons_of_mem _ (List.mem_append_left _ (List.mem_append_right _ h))) (by decide +kernel))
set_option maxRecDepth 20000 in
theorem gX6_occupant_X6_checkNumber : GoodIn wsX6_occupant (va_wsS RX6 93 yX6_checkNumber wsX6_checkNumber) := goodIn_app (goodIn_of _ (by decide +kernel)) ggX6_occupant_X6_checkNumber
set_option maxRecDepth 20000 in
theorem ggX6_occupant_X6_checkTime : GoodIn wsX6_occupant wsX6_checkTime := goodIn_ca (goodIn_r _ [18, 19, 20, 12, 21, 22, 23] (by decide +kernel) (by decide +kernel)) (goodIn_sub (fun _ h => List.mem_cons_of_mem _ (List.mem_append_right _ h)) (by decide +kernel))
set_option maxRecDepth 20000 in
theorem gX6_occupant_X6_checkTime : GoodIn wsX6_occupant (va_wsS RX6 42 yX6_checkTime wsX6_checkTime) := goodIn_app (goodIn_of _ (by decide +kernel)) ggX6_occupant_X6_checkTime
set_option maxRecDepth 20000 in
theorem ggX6_occupant_Jx4a65c_get_915e3 : GoodIn wsX6_occupant wsJx4a65c_get_915e3 := goodIn_r _ [27, 9, 28, 29, 30, 31, 32, 33, 34, 35, 36, 37, 38, 7, 39, 40, 74, 75, 76] (by decide +kernel) (by decide +kernel)
set_option maxRecDepth 20000 in
theorem gX6_occupant_Jx4a65c_get_915e3 : GoodIn wsX6_occupant (wsV RX6 96 RJx4a65c yJx4a65c_get_915e3 wsJx4a65c_get_915e3) := goodIn_app (goodIn_of _ (by decide +kernel)) ggX6_occupant_Jx4a65c_get_915e3
set_option maxRecDepth 20000 in
theorem ggX6_occupant_X1_holdsBerthAt : GoodIn wsX6_occupant wsX1_holdsBerthAt := goodIn_r _ [45, 46, 47, 56, 57, 58, 59, 60, 61, 62] (by decide +kernel) (by decide +kernel)
set_option maxRecDepth 20000 in
theorem gX6_occupant_X1_holdsBerthAt : GoodIn wsX6_occupant (wsV RX6 215 RX1 yX1_holdsBerthAt wsX1_holdsBerthAt) := goodIn_app (goodIn_of _ (by decide +kernel)) ggX6_occupant_X1_holdsBerthAt
theorem dX6_occupant_0 : decode cX6_occupant 0 = .ok (.iload_n 1, 1) := by decide +kernel
theorem dX6_occupant_1 : decode cX6_occupant 1 = .ok (.aload_n 0, 1) := by decide +kernel
theorem dX6_occupant_2 : decode cX6_occupant 2 = .ok (.getfield 19, 3) := by decide +kernel
theorem dX6_occupant_5 : decode cX6_occupant 5 = .ok (.invokevirtual 76, 3) := by decide +kernel
theorem dX6_occupant_8 : decode cX6_occupant 8 = .ok (.invokestatic 93, 3) := by decide +kernel
theorem dX6_occupant_11 : decode cX6_occupant 11 = .ok (.iload_n 2, 1) := by decide +kernel
theorem dX6_occupant_12 : decode cX6_occupant 12 = .ok (.invokestatic 42, 3) := by decide +kernel
theorem dX6_occupant_15 : decode cX6_occupant 15 = .ok (.iconst 0, 1) := by decide +kernel
theorem dX6_occupant_16 : decode cX6_occupant 16 = .ok (.istore_n 3, 1) := by decide +kernel
theorem dX6_occupant_17 : decode cX6_occupant 17 = .ok (.iload_n 3, 1) := by decide +kernel
theorem dX6_occupant_18 : decode cX6_occupant 18 = .ok (.aload_n 0, 1) := by decide +kernel
theorem dX6_occupant_19 : decode cX6_occupant 19 = .ok (.getfield 29, 3) := by decide +kernel
theorem dX6_occupant_22 : decode cX6_occupant 22 = .ok (.invokevirtual 76, 3) := by decide +kernel
theorem dX6_occupant_25 : decode cX6_occupant 25 = .ok (.if_icmp .ge 58, 3) := by decide +kernel
theorem dX6_occupant_28 : decode cX6_occupant 28 = .ok (.aload_n 0, 1) := by decide +kernel
theorem dX6_occupant_29 : decode cX6_occupant 29 = .ok (.getfield 29, 3) := by decide +kernel
theorem dX6_occupant_32 : decode cX6_occupant 32 = .ok (.iload_n 3, 1) := by decide +kernel
theorem dX6_occupant_33 : decode cX6_occupant 33 = .ok (.invokevirtual 96, 3) := by decide +kernel
theorem dX6_occupant_36 : decode cX6_occupant 36 = .ok (.checkcast 134, 3) := by decide +kernel
theorem dX6_occupant_39 : decode cX6_occupant 39 = .ok (.astore 4, 2) := by decide +kernel
theorem dX6_occupant_41 : decode cX6_occupant 41 = .ok (.aload 4, 2) := by decide +kernel
theorem dX6_occupant_43 : decode cX6_occupant 43 = .ok (.getfield 133, 3) := by decide +kernel
theorem dX6_occupant_46 : decode cX6_occupant 46 = .ok (.getfield 208, 3) := by decide +kernel
theorem dX6_occupant_49 : decode cX6_occupant 49 = .ok (.getfield 212, 3) := by decide +kernel
theorem dX6_occupant_52 : decode cX6_occupant 52 = .ok (.iload_n 1, 1) := by decide +kernel
theorem dX6_occupant_53 : decode cX6_occupant 53 = .ok (.if_icmp .ne 24, 3) := by decide +kernel
theorem dX6_occupant_56 : decode cX6_occupant 56 = .ok (.aload 4, 2) := by decide +kernel
theorem dX6_occupant_58 : decode cX6_occupant 58 = .ok (.iload_n 2, 1) := by decide +kernel
theorem dX6_occupant_59 : decode cX6_occupant 59 = .ok (.invokevirtual 215, 3) := by decide +kernel
theorem dX6_occupant_62 : decode cX6_occupant 62 = .ok (.ifCond .eq 15, 3) := by decide +kernel
theorem dX6_occupant_65 : decode cX6_occupant 65 = .ok (.aload 4, 2) := by decide +kernel
theorem dX6_occupant_67 : decode cX6_occupant 67 = .ok (.getfield 133, 3) := by decide +kernel
theorem dX6_occupant_70 : decode cX6_occupant 70 = .ok (.getfield 188, 3) := by decide +kernel
theorem dX6_occupant_73 : decode cX6_occupant 73 = .ok (.getfield 203, 3) := by decide +kernel
theorem dX6_occupant_76 : decode cX6_occupant 76 = .ok (.ireturn, 1) := by decide +kernel
theorem dX6_occupant_77 : decode cX6_occupant 77 = .ok (.iinc 3 1, 3) := by decide +kernel
theorem dX6_occupant_80 : decode cX6_occupant 80 = .ok (.goto (-63), 3) := by decide +kernel
theorem dX6_occupant_83 : decode cX6_occupant 83 = .ok (.iconst (-1), 1) := by decide +kernel
theorem dX6_occupant_84 : decode cX6_occupant 84 = .ok (.ireturn, 1) := by decide +kernel
set_option maxRecDepth 20000 in
theorem ggX6_freeTugs_X6_checkTime : GoodIn wsX6_freeTugs wsX6_checkTime := goodIn_ca (goodIn_r _ [5, 6, 7, 4, 8, 9, 10] (by decide +kernel) (by decide +kernel)) (goodIn_sub (fun _ h => List.mem_cons_of_mem _ (List.mem_append_right _ h)) (by decide +kernel))
set_option maxRecDepth 20000 in
theorem gX6_freeTugs_X6_checkTime : GoodIn wsX6_freeTugs (va_wsS RX6 42 yX6_checkTime wsX6_checkTime) := goodIn_app (goodIn_of _ (by decide +kernel)) ggX6_freeTugs_X6_checkTime
set_option maxRecDepth 20000 in
theorem ggX6_freeTugs_X6_tugsInUse : GoodIn wsX6_freeTugs wsX6_tugsInUse := goodIn_r _ [14, 15, 16, 17, 18, 19, 20, 21, 22, 23, 24, 25, 26, 27, 28, 29, 30, 31, 32, 33, 34, 35, 36, 37, 38, 39, 40, 41, 42, 43, 44, 45, 46, 47, 48, 49, 50, 51, 52, 53, 54, 55, 56, 57, 58, 59, 60, 61, 62, 63, 64, 65, 66, 67, 68, 69, 70, 71, 72, 73, 74] (by decide +kernel) (by decide +kernel)
set_option maxRecDepth 20000 in
theorem gX6_freeTugs_X6_tugsInUse : GoodIn wsX6_freeTugs (wsV RX6 218 RX6 yX6_tugsInUse wsX6_tugsInUse) := goodIn_app (goodIn_of _ (by decide +kernel)) ggX6_freeTugs_X6_tugsInUse
theorem dX6_freeTugs_0 : decode cX6_freeTugs 0 = .ok (.iload_n 1, 1) := by decide +kernel
theorem dX6_freeTugs_1 : decode cX6_freeTugs 1 = .ok (.invokestatic 42, 3) := by decide +kernel
theorem dX6_freeTugs_4 : decode cX6_freeTugs 4 = .ok (.aload_n 0, 1) := by decide +kernel
theorem dX6_freeTugs_5 : decode cX6_freeTugs 5 = .ok (.getfield 39, 3) := by decide +kernel
theorem dX6_freeTugs_8 : decode cX6_freeTugs 8 = .ok (.aload_n 0, 1) := by decide +kernel
theorem dX6_freeTugs_9 : decode cX6_freeTugs 9 = .ok (.iload_n 1, 1) := by decide +kernel
theorem dX6_freeTugs_10 : decode cX6_freeTugs 10 = .ok (.invokevirtual 218, 3) := by decide +kernel
theorem dX6_freeTugs_13 : decode cX6_freeTugs 13 = .ok (.isub, 1) := by decide +kernel
theorem dX6_freeTugs_14 : decode cX6_freeTugs 14 = .ok (.ireturn, 1) := by decide +kernel
set_option maxRecDepth 20000 in
theorem ggX6_trips_Jx4a65c_size_8abf5 : GoodIn wsX6_trips wsJx4a65c_size_8abf5 := goodIn_r _ [8, 9, 52, 53, 54] (by decide +kernel) (by decide +kernel)
set_option maxRecDepth 20000 in
theorem gX6_trips_Jx4a65c_size_8abf5 : GoodIn wsX6_trips (wsV RX6 76 RJx4a65c yJx4a65c_size_8abf5 wsJx4a65c_size_8abf5) := goodIn_app (goodIn_of _ (by decide +kernel)) ggX6_trips_Jx4a65c_size_8abf5
set_option maxRecDepth 20000 in
theorem ggX6_trips_X6_checkNumber : GoodIn wsX6_trips wsX6_checkNumber := goodIn_ca (goodIn_r _ [13, 14, 15] (by decide +kernel) (by decide +kernel)) (goodIn_sub (fun _ h => List.mem_cons_of_mem _ (List.mem_append_right _ h)) (by decide +kernel))
set_option maxRecDepth 20000 in
theorem gX6_trips_X6_checkNumber : GoodIn wsX6_trips (va_wsS RX6 93 yX6_checkNumber wsX6_checkNumber) := goodIn_app (goodIn_of _ (by decide +kernel)) ggX6_trips_X6_checkNumber
set_option maxRecDepth 20000 in
theorem ggX6_trips_Jx4a65c_get_915e3 : GoodIn wsX6_trips wsJx4a65c_get_915e3 := goodIn_r _ [19, 9, 20, 21, 22, 23, 24, 25, 26, 27, 28, 29, 30, 7, 31, 32, 52, 53, 54] (by decide +kernel) (by decide +kernel)
set_option maxRecDepth 20000 in
theorem gX6_trips_Jx4a65c_get_915e3 : GoodIn wsX6_trips (wsV RX6 96 RJx4a65c yJx4a65c_get_915e3 wsJx4a65c_get_915e3) := goodIn_app (goodIn_of _ (by decide +kernel)) ggX6_trips_Jx4a65c_get_915e3
theorem dX6_trips_0 : decode cX6_trips 0 = .ok (.iload_n 1, 1) := by decide +kernel
theorem dX6_trips_1 : decode cX6_trips 1 = .ok (.aload_n 0, 1) := by decide +kernel
theorem dX6_trips_2 : decode cX6_trips 2 = .ok (.getfield 26, 3) := by decide +kernel
theorem dX6_trips_5 : decode cX6_trips 5 = .ok (.invokevirtual 76, 3) := by decide +kernel
theorem dX6_trips_8 : decode cX6_trips 8 = .ok (.invokestatic 93, 3) := by decide +kernel
theorem dX6_trips_11 : decode cX6_trips 11 = .ok (.iconst 0, 1) := by decide +kernel
theorem dX6_trips_12 : decode cX6_trips 12 = .ok (.istore_n 2, 1) := by decide +kernel
theorem dX6_trips_13 : decode cX6_trips 13 = .ok (.iconst 0, 1) := by decide +kernel
theorem dX6_trips_14 : decode cX6_trips 14 = .ok (.istore_n 3, 1) := by decide +kernel
theorem dX6_trips_15 : decode cX6_trips 15 = .ok (.iload_n 3, 1) := by decide +kernel
theorem dX6_trips_16 : decode cX6_trips 16 = .ok (.aload_n 0, 1) := by decide +kernel
theorem dX6_trips_17 : decode cX6_trips 17 = .ok (.getfield 29, 3) := by decide +kernel
theorem dX6_trips_20 : decode cX6_trips 20 = .ok (.invokevirtual 76, 3) := by decide +kernel
theorem dX6_trips_23 : decode cX6_trips 23 = .ok (.if_icmp .ge 33, 3) := by decide +kernel
theorem dX6_trips_26 : decode cX6_trips 26 = .ok (.aload_n 0, 1) := by decide +kernel
theorem dX6_trips_27 : decode cX6_trips 27 = .ok (.getfield 29, 3) := by decide +kernel
theorem dX6_trips_30 : decode cX6_trips 30 = .ok (.iload_n 3, 1) := by decide +kernel
theorem dX6_trips_31 : decode cX6_trips 31 = .ok (.invokevirtual 96, 3) := by decide +kernel
theorem dX6_trips_34 : decode cX6_trips 34 = .ok (.checkcast 134, 3) := by decide +kernel
theorem dX6_trips_37 : decode cX6_trips 37 = .ok (.getfield 192, 3) := by decide +kernel
theorem dX6_trips_40 : decode cX6_trips 40 = .ok (.getfield 206, 3) := by decide +kernel
theorem dX6_trips_43 : decode cX6_trips 43 = .ok (.iload_n 1, 1) := by decide +kernel
theorem dX6_trips_44 : decode cX6_trips 44 = .ok (.if_icmp .ne 6, 3) := by decide +kernel
theorem dX6_trips_47 : decode cX6_trips 47 = .ok (.iinc 2 1, 3) := by decide +kernel
theorem dX6_trips_50 : decode cX6_trips 50 = .ok (.iinc 3 1, 3) := by decide +kernel
theorem dX6_trips_53 : decode cX6_trips 53 = .ok (.goto (-38), 3) := by decide +kernel
theorem dX6_trips_56 : decode cX6_trips 56 = .ok (.iload_n 2, 1) := by decide +kernel
theorem dX6_trips_57 : decode cX6_trips 57 = .ok (.ireturn, 1) := by decide +kernel
set_option maxRecDepth 20000 in
theorem ggX6_isInPort_Jx4a65c_size_8abf5 : GoodIn wsX6_isInPort wsJx4a65c_size_8abf5 := goodIn_r _ [7, 8, 47, 48, 49] (by decide +kernel) (by decide +kernel)
set_option maxRecDepth 20000 in
theorem gX6_isInPort_Jx4a65c_size_8abf5 : GoodIn wsX6_isInPort (wsV RX6 76 RJx4a65c yJx4a65c_size_8abf5 wsJx4a65c_size_8abf5) := goodIn_app (goodIn_of _ (by decide +kernel)) ggX6_isInPort_Jx4a65c_size_8abf5
set_option maxRecDepth 20000 in
theorem ggX6_isInPort_X6_checkNumber : GoodIn wsX6_isInPort wsX6_checkNumber := goodIn_ca (goodIn_r _ [12, 13, 14] (by decide +kernel) (by decide +kernel)) (goodIn_sub (fun _ h => List.mem_cons_of_mem _ (List.mem_append_right _ h)) (by decide +kernel))
set_option maxRecDepth 20000 in
theorem gX6_isInPort_X6_checkNumber : GoodIn wsX6_isInPort (va_wsS RX6 93 yX6_checkNumber wsX6_checkNumber) := goodIn_app (goodIn_of _ (by decide +kernel)) ggX6_isInPort_X6_checkNumber
set_option maxRecDepth 20000 in
theorem ggX6_isInPort_Jx4a65c_get_915e3 : GoodIn wsX6_isInPort wsJx4a65c_get_915e3 := goodIn_r _ [18, 8, 19, 20, 21, 22, 23, 24, 25, 26, 27, 28, 29, 6, 30, 31, 47, 48, 49] (by decide +kernel) (by decide +kernel)
set_option maxRecDepth 20000 in
theorem gX6_isInPort_Jx4a65c_get_915e3 : GoodIn wsX6_isInPort (wsV RX6 96 RJx4a65c yJx4a65c_get_915e3 wsJx4a65c_get_915e3) := goodIn_app (goodIn_of _ (by decide +kernel)) ggX6_isInPort_Jx4a65c_get_915e3
set_option maxRecDepth 20000 in
theorem ggX6_isInPort_X2_endsInPort : GoodIn wsX6_isInPort wsX2_endsInPort := goodIn_r _ [36, 37, 38, 50, 51, 52, 53, 54, 55, 56, 57, 58, 59, 60, 61, 62, 63, 64] (by decide +kernel) (by decide +kernel)
set_option maxRecDepth 20000 in
theorem gX6_isInPort_X2_endsInPort : GoodIn wsX6_isInPort (wsV RX6 221 RX2 yX2_endsInPort wsX2_endsInPort) := goodIn_app (goodIn_of _ (by decide +kernel)) ggX6_isInPort_X2_endsInPort
theorem dX6_isInPort_0 : decode cX6_isInPort 0 = .ok (.iload_n 1, 1) := by decide +kernel
theorem dX6_isInPort_1 : decode cX6_isInPort 1 = .ok (.aload_n 0, 1) := by decide +kernel
theorem dX6_isInPort_2 : decode cX6_isInPort 2 = .ok (.getfield 26, 3) := by decide +kernel
theorem dX6_isInPort_5 : decode cX6_isInPort 5 = .ok (.invokevirtual 76, 3) := by decide +kernel
theorem dX6_isInPort_8 : decode cX6_isInPort 8 = .ok (.invokestatic 93, 3) := by decide +kernel
theorem dX6_isInPort_11 : decode cX6_isInPort 11 = .ok (.aload_n 0, 1) := by decide +kernel
theorem dX6_isInPort_12 : decode cX6_isInPort 12 = .ok (.getfield 26, 3) := by decide +kernel
theorem dX6_isInPort_15 : decode cX6_isInPort 15 = .ok (.iload_n 1, 1) := by decide +kernel
theorem dX6_isInPort_16 : decode cX6_isInPort 16 = .ok (.invokevirtual 96, 3) := by decide +kernel
theorem dX6_isInPort_19 : decode cX6_isInPort 19 = .ok (.checkcast 103, 3) := by decide +kernel
theorem dX6_isInPort_22 : decode cX6_isInPort 22 = .ok (.invokevirtual 221, 3) := by decide +kernel
theorem dX6_isInPort_25 : decode cX6_isInPort 25 = .ok (.ireturn, 1) := by decide +kernel
set_option maxRecDepth 20000 in
theorem ggX6_delay_Jx4a65c_size_8abf5 : GoodIn wsX6_delay wsJx4a65c_size_8abf5 := goodIn_r _ [7, 8, 41, 42, 43] (by decide +kernel) (by decide +kernel)
set_option maxRecDepth 20000 in
theorem gX6_delay_Jx4a65c_size_8abf5 : GoodIn wsX6_delay (wsV RX6 76 RJx4a65c yJx4a65c_size_8abf5 wsJx4a65c_size_8abf5) := goodIn_app (goodIn_of _ (by decide +kernel)) ggX6_delay_Jx4a65c_size_8abf5
set_option maxRecDepth 20000 in
theorem ggX6_delay_Jx4a65c_get_915e3 : GoodIn wsX6_delay wsJx4a65c_get_915e3 := goodIn_r _ [12, 8, 13, 14, 15, 16, 17, 18, 19, 20, 21, 22, 23, 6, 24, 25, 41, 42, 43] (by decide +kernel) (by decide +kernel)
set_option maxRecDepth 20000 in
theorem gX6_delay_Jx4a65c_get_915e3 : GoodIn wsX6_delay (wsV RX6 96 RJx4a65c yJx4a65c_get_915e3 wsJx4a65c_get_915e3) := goodIn_app (goodIn_of _ (by decide +kernel)) ggX6_delay_Jx4a65c_get_915e3
theorem dX6_delay_0 : decode cX6_delay 0 = .ok (.aload_n 0, 1) := by decide +kernel
theorem dX6_delay_1 : decode cX6_delay 1 = .ok (.getfield 29, 3) := by decide +kernel
theorem dX6_delay_4 : decode cX6_delay 4 = .ok (.invokevirtual 76, 3) := by decide +kernel
theorem dX6_delay_7 : decode cX6_delay 7 = .ok (.istore_n 1, 1) := by decide +kernel
theorem dX6_delay_8 : decode cX6_delay 8 = .ok (.iload_n 1, 1) := by decide +kernel
theorem dX6_delay_9 : decode cX6_delay 9 = .ok (.ifCond .ne 5, 3) := by decide +kernel
theorem dX6_delay_12 : decode cX6_delay 12 = .ok (.dconst 0, 1) := by decide +kernel
theorem dX6_delay_13 : decode cX6_delay 13 = .ok (.dreturn, 1) := by decide +kernel
theorem dX6_delay_14 : decode cX6_delay 14 = .ok (.iconst 0, 1) := by decide +kernel
theorem dX6_delay_15 : decode cX6_delay 15 = .ok (.istore_n 2, 1) := by decide +kernel
theorem dX6_delay_16 : decode cX6_delay 16 = .ok (.iconst 0, 1) := by decide +kernel
theorem dX6_delay_17 : decode cX6_delay 17 = .ok (.istore_n 3, 1) := by decide +kernel
theorem dX6_delay_18 : decode cX6_delay 18 = .ok (.iload_n 3, 1) := by decide +kernel
theorem dX6_delay_19 : decode cX6_delay 19 = .ok (.iload_n 1, 1) := by decide +kernel
theorem dX6_delay_20 : decode cX6_delay 20 = .ok (.if_icmp .ge 36, 3) := by decide +kernel
theorem dX6_delay_23 : decode cX6_delay 23 = .ok (.aload_n 0, 1) := by decide +kernel
theorem dX6_delay_24 : decode cX6_delay 24 = .ok (.getfield 29, 3) := by decide +kernel
theorem dX6_delay_27 : decode cX6_delay 27 = .ok (.iload_n 3, 1) := by decide +kernel
theorem dX6_delay_28 : decode cX6_delay 28 = .ok (.invokevirtual 96, 3) := by decide +kernel
theorem dX6_delay_31 : decode cX6_delay 31 = .ok (.checkcast 134, 3) := by decide +kernel
theorem dX6_delay_34 : decode cX6_delay 34 = .ok (.astore 4, 2) := by decide +kernel
theorem dX6_delay_36 : decode cX6_delay 36 = .ok (.iload_n 2, 1) := by decide +kernel
theorem dX6_delay_37 : decode cX6_delay 37 = .ok (.aload 4, 2) := by decide +kernel
theorem dX6_delay_39 : decode cX6_delay 39 = .ok (.getfield 153, 3) := by decide +kernel
theorem dX6_delay_42 : decode cX6_delay 42 = .ok (.aload 4, 2) := by decide +kernel
theorem dX6_delay_44 : decode cX6_delay 44 = .ok (.getfield 224, 3) := by decide +kernel
theorem dX6_delay_47 : decode cX6_delay 47 = .ok (.isub, 1) := by decide +kernel
theorem dX6_delay_48 : decode cX6_delay 48 = .ok (.iadd, 1) := by decide +kernel
theorem dX6_delay_49 : decode cX6_delay 49 = .ok (.istore_n 2, 1) := by decide +kernel
theorem dX6_delay_50 : decode cX6_delay 50 = .ok (.iinc 3 1, 3) := by decide +kernel
theorem dX6_delay_53 : decode cX6_delay 53 = .ok (.goto (-35), 3) := by decide +kernel
theorem dX6_delay_56 : decode cX6_delay 56 = .ok (.iload_n 2, 1) := by decide +kernel
theorem dX6_delay_57 : decode cX6_delay 57 = .ok (.i2d, 1) := by decide +kernel
theorem dX6_delay_58 : decode cX6_delay 58 = .ok (.iload_n 1, 1) := by decide +kernel
theorem dX6_delay_59 : decode cX6_delay 59 = .ok (.i2d, 1) := by decide +kernel
theorem dX6_delay_60 : decode cX6_delay 60 = .ok (.ddiv, 1) := by decide +kernel
theorem dX6_delay_61 : decode cX6_delay 61 = .ok (.dreturn, 1) := by decide +kernel
set_option maxRecDepth 20000 in
theorem ggX6_digest_X6_count : GoodIn wsX6_digest wsX6_count := goodIn_ca (goodIn_r _ [13, 14, 15, 16, 17, 6, 18, 8, 19, 20, 21, 22, 23, 24, 54, 55, 56, 57, 58, 59, 60, 61, 66, 67, 68, 69, 70, 71] (by decide +kernel) (by decide +kernel)) (goodIn_sub (fun _ h => List.mem_cons_of_mem _ (List.mem_append_right _ h)) (by decide +kernel))
set_option maxRecDepth 20000 in
theorem gX6_digest_X6_count : GoodIn wsX6_digest (wsV RX6 231 RX6 yX6_count wsX6_count) := goodIn_app (goodIn_of _ (by decide +kernel)) ggX6_digest_X6_count
set_option maxRecDepth 20000 in
theorem ggX6_digest_Jx4a65c_size_8abf5 : GoodIn wsX6_digest wsJx4a65c_size_8abf5 := goodIn_r _ [23, 24, 69, 70, 71] (by decide +kernel) (by decide +kernel)
set_option maxRecDepth 20000 in
theorem gX6_digest_Jx4a65c_size_8abf5 : GoodIn wsX6_digest (wsV RX6 76 RJx4a65c yJx4a65c_size_8abf5 wsJx4a65c_size_8abf5) := goodIn_app (goodIn_of _ (by decide +kernel)) ggX6_digest_Jx4a65c_size_8abf5
set_option maxRecDepth 20000 in
theorem ggX6_digest_Jx4a65c_get_915e3 : GoodIn wsX6_digest wsJx4a65c_get_915e3 := goodIn_r _ [28, 24, 29, 30, 31, 32, 33, 34, 35, 36, 37, 38, 39, 22, 40, 41, 69, 70, 71] (by decide +kernel) (by decide +kernel)
set_option maxRecDepth 20000 in
theorem gX6_digest_Jx4a65c_get_915e3 : GoodIn wsX6_digest (wsV RX6 96 RJx4a65c yJx4a65c_get_915e3 wsJx4a65c_get_915e3) := goodIn_app (goodIn_of _ (by decide +kernel)) ggX6_digest_Jx4a65c_get_915e3
set_option maxRecDepth 20000 in
theorem ggX6_digest_X6_waterNeed : GoodIn wsX6_digest wsX6_waterNeed := goodIn_r _ [45, 4, 62, 63, 64, 65, 54, 55, 56, 57, 58, 59, 60, 61] (by decide +kernel) (by decide +kernel)
set_option maxRecDepth 20000 in
theorem gX6_digest_X6_waterNeed : GoodIn wsX6_digest (wsV RX6 115 RX6 yX6_waterNeed wsX6_waterNeed) := goodIn_app (goodIn_of _ (by decide +kernel)) ggX6_digest_X6_waterNeed
set_option maxRecDepth 20000 in
theorem ggX6_digest_X6_passage : GoodIn wsX6_digest wsX6_passage := goodIn_ca (goodIn_r _ [49, 14, 15, 8, 50, 19, 20, 21, 22, 23, 24, 51, 52, 12, 53, 25, 26, 27, 28, 29, 30, 31, 32, 33, 34, 35, 36, 37, 38, 39, 40, 41, 54, 55, 56, 57, 58, 59, 60, 61, 72, 73, 74, 75, 76, 77, 78, 79, 80, 81, 82, 62, 63, 64, 65, 83, 84, 85, 86, 87, 88, 89, 69, 70, 71] (by decide +kernel) (by decide +kernel)) (goodIn_sub (fun _ h => List.mem_cons_of_mem _ (List.mem_append_right _ h)) (by decide +kernel))
set_option maxRecDepth 20000 in
theorem gX6_digest_X6_passage : GoodIn wsX6_digest (wsV RX6 234 RX6 yX6_passage wsX6_passage) := goodIn_app (goodIn_of _ (by decide +kernel)) ggX6_digest_X6_passage
theorem dX6_digest_0 : decode cX6_digest 0 = .ok (.ldc2_w 227, 3) := by decide +kernel
theorem dX6_digest_3 : decode cX6_digest 3 = .ok (.lstore_n 1, 1) := by decide +kernel
theorem dX6_digest_4 : decode cX6_digest 4 = .ok (.iconst 0, 1) := by decide +kernel
theorem dX6_digest_5 : decode cX6_digest 5 = .ok (.istore_n 3, 1) := by decide +kernel
theorem dX6_digest_6 : decode cX6_digest 6 = .ok (.iload_n 3, 1) := by decide +kernel
theorem dX6_digest_7 : decode cX6_digest 7 = .ok (.iconst 4, 1) := by decide +kernel
theorem dX6_digest_8 : decode cX6_digest 8 = .ok (.if_icmp .gt 22, 3) := by decide +kernel
theorem dX6_digest_11 : decode cX6_digest 11 = .ok (.lload_n 1, 1) := by decide +kernel
theorem dX6_digest_12 : decode cX6_digest 12 = .ok (.ldc2_w 229, 3) := by decide +kernel
theorem dX6_digest_15 : decode cX6_digest 15 = .ok (.lmul, 1) := by decide +kernel
theorem dX6_digest_16 : decode cX6_digest 16 = .ok (.aload_n 0, 1) := by decide +kernel
theorem dX6_digest_17 : decode cX6_digest 17 = .ok (.iload_n 3, 1) := by decide +kernel
theorem dX6_digest_18 : decode cX6_digest 18 = .ok (.invokevirtual 231, 3) := by decide +kernel
theorem dX6_digest_21 : decode cX6_digest 21 = .ok (.i2l, 1) := by decide +kernel
theorem dX6_digest_22 : decode cX6_digest 22 = .ok (.ladd, 1) := by decide +kernel
theorem dX6_digest_23 : decode cX6_digest 23 = .ok (.lstore_n 1, 1) := by decide +kernel
theorem dX6_digest_24 : decode cX6_digest 24 = .ok (.iinc 3 1, 3) := by decide +kernel
theorem dX6_digest_27 : decode cX6_digest 27 = .ok (.goto (-21), 3) := by decide +kernel
theorem dX6_digest_30 : decode cX6_digest 30 = .ok (.lload_n 1, 1) := by decide +kernel
theorem dX6_digest_31 : decode cX6_digest 31 = .ok (.ldc2_w 229, 3) := by decide +kernel
theorem dX6_digest_34 : decode cX6_digest 34 = .ok (.lmul, 1) := by decide +kernel
theorem dX6_digest_35 : decode cX6_digest 35 = .ok (.aload_n 0, 1) := by decide +kernel
theorem dX6_digest_36 : decode cX6_digest 36 = .ok (.getfield 32, 3) := by decide +kernel
theorem dX6_digest_39 : decode cX6_digest 39 = .ok (.i2l, 1) := by decide +kernel
theorem dX6_digest_40 : decode cX6_digest 40 = .ok (.ladd, 1) := by decide +kernel
theorem dX6_digest_41 : decode cX6_digest 41 = .ok (.lstore_n 1, 1) := by decide +kernel
theorem dX6_digest_42 : decode cX6_digest 42 = .ok (.lload_n 1, 1) := by decide +kernel
theorem dX6_digest_43 : decode cX6_digest 43 = .ok (.ldc2_w 229, 3) := by decide +kernel
theorem dX6_digest_46 : decode cX6_digest 46 = .ok (.lmul, 1) := by decide +kernel
theorem dX6_digest_47 : decode cX6_digest 47 = .ok (.aload_n 0, 1) := by decide +kernel
theorem dX6_digest_48 : decode cX6_digest 48 = .ok (.getfield 36, 3) := by decide +kernel
theorem dX6_digest_51 : decode cX6_digest 51 = .ok (.i2l, 1) := by decide +kernel
theorem dX6_digest_52 : decode cX6_digest 52 = .ok (.ladd, 1) := by decide +kernel
theorem dX6_digest_53 : decode cX6_digest 53 = .ok (.lstore_n 1, 1) := by decide +kernel
theorem dX6_digest_54 : decode cX6_digest 54 = .ok (.lload_n 1, 1) := by decide +kernel
theorem dX6_digest_55 : decode cX6_digest 55 = .ok (.ldc2_w 229, 3) := by decide +kernel
theorem dX6_digest_58 : decode cX6_digest 58 = .ok (.lmul, 1) := by decide +kernel
theorem dX6_digest_59 : decode cX6_digest 59 = .ok (.aload_n 0, 1) := by decide +kernel
theorem dX6_digest_60 : decode cX6_digest 60 = .ok (.getfield 39, 3) := by decide +kernel
theorem dX6_digest_63 : decode cX6_digest 63 = .ok (.i2l, 1) := by decide +kernel
theorem dX6_digest_64 : decode cX6_digest 64 = .ok (.ladd, 1) := by decide +kernel
theorem dX6_digest_65 : decode cX6_digest 65 = .ok (.lstore_n 1, 1) := by decide +kernel
theorem dX6_digest_66 : decode cX6_digest 66 = .ok (.iconst 0, 1) := by decide +kernel
theorem dX6_digest_67 : decode cX6_digest 67 = .ok (.istore_n 3, 1) := by decide +kernel
theorem dX6_digest_68 : decode cX6_digest 68 = .ok (.iload_n 3, 1) := by decide +kernel
theorem dX6_digest_69 : decode cX6_digest 69 = .ok (.aload_n 0, 1) := by decide +kernel
theorem dX6_digest_70 : decode cX6_digest 70 = .ok (.getfield 23, 3) := by decide +kernel
theorem dX6_digest_73 : decode cX6_digest 73 = .ok (.invokevirtual 76, 3) := by decide +kernel
theorem dX6_digest_76 : decode cX6_digest 76 = .ok (.if_icmp .ge 49, 3) := by decide +kernel
theorem dX6_digest_79 : decode cX6_digest 79 = .ok (.aload_n 0, 1) := by decide +kernel
theorem dX6_digest_80 : decode cX6_digest 80 = .ok (.getfield 23, 3) := by decide +kernel
theorem dX6_digest_83 : decode cX6_digest 83 = .ok (.iload_n 3, 1) := by decide +kernel
theorem dX6_digest_84 : decode cX6_digest 84 = .ok (.invokevirtual 96, 3) := by decide +kernel
theorem dX6_digest_87 : decode cX6_digest 87 = .ok (.checkcast 90, 3) := by decide +kernel
theorem dX6_digest_90 : decode cX6_digest 90 = .ok (.astore 4, 2) := by decide +kernel
theorem dX6_digest_92 : decode cX6_digest 92 = .ok (.lload_n 1, 1) := by decide +kernel
theorem dX6_digest_93 : decode cX6_digest 93 = .ok (.ldc2_w 229, 3) := by decide +kernel
theorem dX6_digest_96 : decode cX6_digest 96 = .ok (.lmul, 1) := by decide +kernel
theorem dX6_digest_97 : decode cX6_digest 97 = .ok (.aload 4, 2) := by decide +kernel
theorem dX6_digest_99 : decode cX6_digest 99 = .ok (.getfield 100, 3) := by decide +kernel
theorem dX6_digest_102 : decode cX6_digest 102 = .ok (.i2l, 1) := by decide +kernel
theorem dX6_digest_103 : decode cX6_digest 103 = .ok (.ladd, 1) := by decide +kernel
theorem dX6_digest_104 : decode cX6_digest 104 = .ok (.lstore_n 1, 1) := by decide +kernel
theorem dX6_digest_105 : decode cX6_digest 105 = .ok (.lload_n 1, 1) := by decide +kernel
theorem dX6_digest_106 : decode cX6_digest 106 = .ok (.ldc2_w 229, 3) := by decide +kernel
theorem dX6_digest_109 : decode cX6_digest 109 = .ok (.lmul, 1) := by decide +kernel
theorem dX6_digest_110 : decode cX6_digest 110 = .ok (.aload_n 0, 1) := by decide +kernel
theorem dX6_digest_111 : decode cX6_digest 111 = .ok (.aload 4, 2) := by decide +kernel
theorem dX6_digest_113 : decode cX6_digest 113 = .ok (.invokevirtual 115, 3) := by decide +kernel
theorem dX6_digest_116 : decode cX6_digest 116 = .ok (.i2l, 1) := by decide +kernel
theorem dX6_digest_117 : decode cX6_digest 117 = .ok (.ladd, 1) := by decide +kernel
theorem dX6_digest_118 : decode cX6_digest 118 = .ok (.lstore_n 1, 1) := by decide +kernel
theorem dX6_digest_119 : decode cX6_digest 119 = .ok (.iinc 3 1, 3) := by decide +kernel
theorem dX6_digest_122 : decode cX6_digest 122 = .ok (.goto (-54), 3) := by decide +kernel
theorem dX6_digest_125 : decode cX6_digest 125 = .ok (.iconst 0, 1) := by decide +kernel
theorem dX6_digest_126 : decode cX6_digest 126 = .ok (.istore_n 3, 1) := by decide +kernel
theorem dX6_digest_127 : decode cX6_digest 127 = .ok (.iload_n 3, 1) := by decide +kernel
theorem dX6_digest_128 : decode cX6_digest 128 = .ok (.aload_n 0, 1) := by decide +kernel
theorem dX6_digest_129 : decode cX6_digest 129 = .ok (.getfield 29, 3) := by decide +kernel
theorem dX6_digest_132 : decode cX6_digest 132 = .ok (.invokevirtual 76, 3) := by decide +kernel
theorem dX6_digest_135 : decode cX6_digest 135 = .ok (.if_icmp .ge 39, 3) := by decide +kernel
theorem dX6_digest_138 : decode cX6_digest 138 = .ok (.iconst 0, 1) := by decide +kernel
theorem dX6_digest_139 : decode cX6_digest 139 = .ok (.istore 4, 2) := by decide +kernel
theorem dX6_digest_141 : decode cX6_digest 141 = .ok (.iload 4, 2) := by decide +kernel
theorem dX6_digest_143 : decode cX6_digest 143 = .ok (.iconst 5, 1) := by decide +kernel
theorem dX6_digest_144 : decode cX6_digest 144 = .ok (.if_icmp .gt 24, 3) := by decide +kernel
theorem dX6_digest_147 : decode cX6_digest 147 = .ok (.lload_n 1, 1) := by decide +kernel
theorem dX6_digest_148 : decode cX6_digest 148 = .ok (.ldc2_w 229, 3) := by decide +kernel
theorem dX6_digest_151 : decode cX6_digest 151 = .ok (.lmul, 1) := by decide +kernel
theorem dX6_digest_152 : decode cX6_digest 152 = .ok (.aload_n 0, 1) := by decide +kernel
theorem dX6_digest_153 : decode cX6_digest 153 = .ok (.iload_n 3, 1) := by decide +kernel
theorem dX6_digest_154 : decode cX6_digest 154 = .ok (.iload 4, 2) := by decide +kernel
theorem dX6_digest_156 : decode cX6_digest 156 = .ok (.invokevirtual 234, 3) := by decide +kernel
theorem dX6_digest_159 : decode cX6_digest 159 = .ok (.i2l, 1) := by decide +kernel
theorem dX6_digest_160 : decode cX6_digest 160 = .ok (.ladd, 1) := by decide +kernel
theorem dX6_digest_161 : decode cX6_digest 161 = .ok (.lstore_n 1, 1) := by decide +kernel
theorem dX6_digest_162 : decode cX6_digest 162 = .ok (.iinc 4 1, 3) := by decide +kernel
