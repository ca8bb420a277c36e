theorem dX6_digest_165 : decode cX6_digest 165 = .ok (.goto (-24), 3) := by decide +kernel
theorem dX6_digest_168 : decode cX6_digest 168 = .ok (.iinc 3 1, 3) := by decide +kernel
theorem dX6_digest_171 : decode cX6_digest 171 = .ok (.goto (-44), 3) := by decide +kernel
theorem dX6_digest_174 : decode cX6_digest 174 = .ok (.lload_n 1, 1) := by decide +kernel
theorem dX6_digest_175 : decode cX6_digest 175 = .ok (.lreturn, 1) := by decide +kernel
theorem dX6_checkRange_0 : decode cX6_checkRange 0 = .ok (.iload_n 0, 1) := by decide +kernel
theorem dX6_checkRange_1 : decode cX6_checkRange 1 = .ok (.iload_n 1, 1) := by decide +kernel
theorem dX6_checkRange_2 : decode cX6_checkRange 2 = .ok (.if_icmp .lt 8, 3) := by decide +kernel
theorem dX6_checkRange_5 : decode cX6_checkRange 5 = .ok (.iload_n 0, 1) := by decide +kernel
theorem dX6_checkRange_6 : decode cX6_checkRange 6 = .ok (.iload_n 2, 1) := by decide +kernel
theorem dX6_checkRange_7 : decode cX6_checkRange 7 = .ok (.if_icmp .le 13, 3) := by decide +kernel
theorem dX6_checkRange_10 : decode cX6_checkRange 10 = .ok (.new 238, 3) := by decide +kernel
theorem dX6_checkRange_13 : decode cX6_checkRange 13 = .ok (.dup, 1) := by decide +kernel
theorem dX6_checkRange_14 : decode cX6_checkRange 14 = .ok (.ldc 240, 2) := by decide +kernel
theorem dX6_checkRange_16 : decode cX6_checkRange 16 = .ok (.invokespecial 242, 3) := by decide +kernel
theorem dX6_checkRange_19 : decode cX6_checkRange 19 = .ok (.athrow, 1) := by decide +kernel
theorem dX6_checkRange_20 : decode cX6_checkRange 20 = .ok (.return_, 1) := by decide +kernel
set_option maxRecDepth 20000 in
theorem ggX6_checkTime_X6_checkRange : GoodIn wsX6_checkTime wsX6_checkRange := goodIn_ca (goodIn_r _ [4, 5, 6] (by decide +kernel) (by decide +kernel)) (goodIn_sub (fun _ h => List.mem_cons_of_mem _ (List.mem_append_right _ h)) (by decide +kernel))
set_option maxRecDepth 20000 in
theorem gX6_checkTime_X6_checkRange : GoodIn wsX6_checkTime (va_wsS RX6 46 yX6_checkRange wsX6_checkRange) := goodIn_app (goodIn_of _ (by decide +kernel)) ggX6_checkTime_X6_checkRange
theorem dX6_checkTime_0 : decode cX6_checkTime 0 = .ok (.iload_n 0, 1) := by decide +kernel
theorem dX6_checkTime_1 : decode cX6_checkTime 1 = .ok (.iconst 0, 1) := by decide +kernel
theorem dX6_checkTime_2 : decode cX6_checkTime 2 = .ok (.sipush 2879, 3) := by decide +kernel
theorem dX6_checkTime_5 : decode cX6_checkTime 5 = .ok (.invokestatic 46, 3) := by decide +kernel
theorem dX6_checkTime_8 : decode cX6_checkTime 8 = .ok (.return_, 1) := by decide +kernel
theorem dX6_checkNumber_0 : decode cX6_checkNumber 0 = .ok (.iload_n 0, 1) := by decide +kernel
theorem dX6_checkNumber_1 : decode cX6_checkNumber 1 = .ok (.ifCond .lt 8, 3) := by decide +kernel
theorem dX6_checkNumber_4 : decode cX6_checkNumber 4 = .ok (.iload_n 0, 1) := by decide +kernel
theorem dX6_checkNumber_5 : decode cX6_checkNumber 5 = .ok (.iload_n 1, 1) := by decide +kernel
theorem dX6_checkNumber_6 : decode cX6_checkNumber 6 = .ok (.if_icmp .lt 13, 3) := by decide +kernel
theorem dX6_checkNumber_9 : decode cX6_checkNumber 9 = .ok (.new 110, 3) := by decide +kernel
theorem dX6_checkNumber_12 : decode cX6_checkNumber 12 = .ok (.dup, 1) := by decide +kernel
theorem dX6_checkNumber_13 : decode cX6_checkNumber 13 = .ok (.ldc 243, 2) := by decide +kernel
theorem dX6_checkNumber_15 : decode cX6_checkNumber 15 = .ok (.invokespecial 114, 3) := by decide +kernel
theorem dX6_checkNumber_18 : decode cX6_checkNumber 18 = .ok (.athrow, 1) := by decide +kernel
theorem dX6_checkNumber_19 : decode cX6_checkNumber 19 = .ok (.return_, 1) := by decide +kernel
theorem dX6_checkRoom_0 : decode cX6_checkRoom 0 = .ok (.iload_n 0, 1) := by decide +kernel
theorem dX6_checkRoom_1 : decode cX6_checkRoom 1 = .ok (.iload_n 1, 1) := by decide +kernel
theorem dX6_checkRoom_2 : decode cX6_checkRoom 2 = .ok (.if_icmp .lt 13, 3) := by decide +kernel
theorem dX6_checkRoom_5 : decode cX6_checkRoom 5 = .ok (.new 61, 3) := by decide +kernel
theorem dX6_checkRoom_8 : decode cX6_checkRoom 8 = .ok (.dup, 1) := by decide +kernel
theorem dX6_checkRoom_9 : decode cX6_checkRoom 9 = .ok (.ldc 245, 2) := by decide +kernel
theorem dX6_checkRoom_11 : decode cX6_checkRoom 11 = .ok (.invokespecial 65, 3) := by decide +kernel
theorem dX6_checkRoom_14 : decode cX6_checkRoom 14 = .ok (.athrow, 1) := by decide +kernel
theorem dX6_checkRoom_15 : decode cX6_checkRoom 15 = .ok (.return_, 1) := by decide +kernel
set_option maxRecDepth 20000 in
theorem ggX6_checkCall_Jx4a65c_size_8abf5 : GoodIn wsX6_checkCall wsJx4a65c_size_8abf5 := goodIn_r _ [7, 8, 31, 32, 33] (by decide +kernel) (by decide +kernel)
set_option maxRecDepth 20000 in
theorem gX6_checkCall_Jx4a65c_size_8abf5 : GoodIn wsX6_checkCall (wsV RX6 76 RJx4a65c yJx4a65c_size_8abf5 wsJx4a65c_size_8abf5) := goodIn_app (goodIn_of _ (by decide +kernel)) ggX6_checkCall_Jx4a65c_size_8abf5
set_option maxRecDepth 20000 in
theorem ggX6_checkCall_X6_checkNumber : GoodIn wsX6_checkCall wsX6_checkNumber := goodIn_ca (goodIn_r _ [12, 13, 14] (by decide +kernel) (by decide +kernel)) (goodIn_sub (fun _ h => List.mem_cons_of_mem _ (List.mem_append_left _ (List.mem_append_right _ h))) (by decide +kernel))
set_option maxRecDepth 20000 in
theorem gX6_checkCall_X6_checkNumber : GoodIn wsX6_checkCall (va_wsS RX6 93 yX6_checkNumber wsX6_checkNumber) := goodIn_app (goodIn_of _ (by decide +kernel)) ggX6_checkCall_X6_checkNumber
set_option maxRecDepth 20000 in
theorem ggX6_checkCall_X6_checkTime : GoodIn wsX6_checkCall wsX6_checkTime := goodIn_ca (goodIn_r _ [17, 18, 19, 11, 20, 21, 22] (by decide +kernel) (by decide +kernel)) (goodIn_sub (fun _ h => List.mem_cons_of_mem _ (List.mem_append_right _ h)) (by decide +kernel))
set_option maxRecDepth 20000 in
theorem gX6_checkCall_X6_checkTime : GoodIn wsX6_checkCall (va_wsS RX6 42 yX6_checkTime wsX6_checkTime) := goodIn_app (goodIn_of _ (by decide +kernel)) ggX6_checkCall_X6_checkTime
theorem dX6_checkCall_0 : decode cX6_checkCall 0 = .ok (.iload_n 1, 1) := by decide +kernel
theorem dX6_checkCall_1 : decode cX6_checkCall 1 = .ok (.aload_n 0, 1) := by decide +kernel
theorem dX6_checkCall_2 : decode cX6_checkCall 2 = .ok (.getfield 23, 3) := by decide +kernel
theorem dX6_checkCall_5 : decode cX6_checkCall 5 = .ok (.invokevirtual 76, 3) := by decide +kernel
theorem dX6_checkCall_8 : decode cX6_checkCall 8 = .ok (.invokestatic 93, 3) := by decide +kernel
theorem dX6_checkCall_11 : decode cX6_checkCall 11 = .ok (.iload_n 2, 1) := by decide +kernel
theorem dX6_checkCall_12 : decode cX6_checkCall 12 = .ok (.iconst (-1), 1) := by decide +kernel
theorem dX6_checkCall_13 : decode cX6_checkCall 13 = .ok (.if_icmp .eq 14, 3) := by decide +kernel
theorem dX6_checkCall_16 : decode cX6_checkCall 16 = .ok (.iload_n 2, 1) := by decide +kernel
theorem dX6_checkCall_17 : decode cX6_checkCall 17 = .ok (.aload_n 0, 1) := by decide +kernel
theorem dX6_checkCall_18 : decode cX6_checkCall 18 = .ok (.getfield 19, 3) := by decide +kernel
theorem dX6_checkCall_21 : decode cX6_checkCall 21 = .ok (.invokevirtual 76, 3) := by decide +kernel
theorem dX6_checkCall_24 : decode cX6_checkCall 24 = .ok (.invokestatic 93, 3) := by decide +kernel
theorem dX6_checkCall_27 : decode cX6_checkCall 27 = .ok (.iload_n 3, 1) := by decide +kernel
theorem dX6_checkCall_28 : decode cX6_checkCall 28 = .ok (.invokestatic 42, 3) := by decide +kernel
theorem dX6_checkCall_31 : decode cX6_checkCall 31 = .ok (.return_, 1) := by decide +kernel
theorem dX6_waterNeed_0 : decode cX6_waterNeed 0 = .ok (.aload_n 1, 1) := by decide +kernel
theorem dX6_waterNeed_1 : decode cX6_waterNeed 1 = .ok (.getfield 100, 3) := by decide +kernel
theorem dX6_waterNeed_4 : decode cX6_waterNeed 4 = .ok (.aload_n 1, 1) := by decide +kernel
theorem dX6_waterNeed_5 : decode cX6_waterNeed 5 = .ok (.getfield 100, 3) := by decide +kernel
theorem dX6_waterNeed_8 : decode cX6_waterNeed 8 = .ok (.bipush 10, 2) := by decide +kernel
theorem dX6_waterNeed_10 : decode cX6_waterNeed 10 = .ok (.idiv, 1) := by decide +kernel
theorem dX6_waterNeed_11 : decode cX6_waterNeed 11 = .ok (.iadd, 1) := by decide +kernel
theorem dX6_waterNeed_12 : decode cX6_waterNeed 12 = .ok (.aload_n 0, 1) := by decide +kernel
theorem dX6_waterNeed_13 : decode cX6_waterNeed 13 = .ok (.getfield 36, 3) := by decide +kernel
theorem dX6_waterNeed_16 : decode cX6_waterNeed 16 = .ok (.iadd, 1) := by decide +kernel
theorem dX6_waterNeed_17 : decode cX6_waterNeed 17 = .ok (.ireturn, 1) := by decide +kernel
set_option maxRecDepth 20000 in
theorem ggX6_hasWater_X5_heightAt : GoodIn wsX6_hasWater wsX5_heightAt := goodIn_r _ [6, 7, 8, 9, 10, 11, 12, 5, 13, 28, 29, 30] (by decide +kernel) (by decide +kernel)
set_option maxRecDepth 20000 in
theorem gX6_hasWater_X5_heightAt : GoodIn wsX6_hasWater (wsV RX6 72 RX5 yX5_heightAt wsX5_heightAt) := goodIn_app (goodIn_of _ (by decide +kernel)) ggX6_hasWater_X5_heightAt
set_option maxRecDepth 20000 in
theorem ggX6_hasWater_X6_waterNeed : GoodIn wsX6_hasWater wsX6_waterNeed := goodIn_r _ [18, 19, 31, 32, 33, 34, 20, 21, 22, 23, 24, 25, 26, 27] (by decide +kernel) (by decide +kernel)
set_option maxRecDepth 20000 in
theorem gX6_hasWater_X6_waterNeed : GoodIn wsX6_hasWater (wsV RX6 115 RX6 yX6_waterNeed wsX6_waterNeed) := goodIn_app (goodIn_of _ (by decide +kernel)) ggX6_hasWater_X6_waterNeed
theorem dX6_hasWater_0 : decode cX6_hasWater 0 = .ok (.iload_n 2, 1) := by decide +kernel
theorem dX6_hasWater_1 : decode cX6_hasWater 1 = .ok (.aload_n 0, 1) := by decide +kernel
theorem dX6_hasWater_2 : decode cX6_hasWater 2 = .ok (.getfield 12, 3) := by decide +kernel
theorem dX6_hasWater_5 : decode cX6_hasWater 5 = .ok (.iload_n 3, 1) := by decide +kernel
theorem dX6_hasWater_6 : decode cX6_hasWater 6 = .ok (.invokevirtual 72, 3) := by decide +kernel
theorem dX6_hasWater_9 : decode cX6_hasWater 9 = .ok (.iadd, 1) := by decide +kernel
theorem dX6_hasWater_10 : decode cX6_hasWater 10 = .ok (.aload_n 0, 1) := by decide +kernel
theorem dX6_hasWater_11 : decode cX6_hasWater 11 = .ok (.aload_n 1, 1) := by decide +kernel
theorem dX6_hasWater_12 : decode cX6_hasWater 12 = .ok (.invokevirtual 115, 3) := by decide +kernel
theorem dX6_hasWater_15 : decode cX6_hasWater 15 = .ok (.if_icmp .lt 7, 3) := by decide +kernel
theorem dX6_hasWater_18 : decode cX6_hasWater 18 = .ok (.iconst 1, 1) := by decide +kernel
theorem dX6_hasWater_19 : decode cX6_hasWater 19 = .ok (.goto 4, 3) := by decide +kernel
theorem dX6_hasWater_22 : decode cX6_hasWater 22 = .ok (.iconst 0, 1) := by decide +kernel
theorem dX6_hasWater_23 : decode cX6_hasWater 23 = .ok (.ireturn, 1) := by decide +kernel
set_option maxRecDepth 20000 in
theorem ggX6_leastWater_X5_heightAt : GoodIn wsX6_leastWater wsX5_heightAt := goodIn_r _ [10, 11, 12, 13, 14, 15, 16, 9, 17, 37, 38, 39] (by decide +kernel) (by decide +kernel)
set_option maxRecDepth 20000 in
theorem gX6_leastWater_X5_heightAt : GoodIn wsX6_leastWater (wsV RX6 72 RX5 yX5_heightAt wsX5_heightAt) := goodIn_app (goodIn_of _ (by decide +kernel)) ggX6_leastWater_X5_heightAt
theorem dX6_leastWater_0 : decode cX6_leastWater 0 = .ok (.aload_n 0, 1) := by decide +kernel
theorem dX6_leastWater_1 : decode cX6_leastWater 1 = .ok (.getfield 12, 3) := by decide +kernel
theorem dX6_leastWater_4 : decode cX6_leastWater 4 = .ok (.iload_n 2, 1) := by decide +kernel
theorem dX6_leastWater_5 : decode cX6_leastWater 5 = .ok (.invokevirtual 72, 3) := by decide +kernel
theorem dX6_leastWater_8 : decode cX6_leastWater 8 = .ok (.istore 4, 2) := by decide +kernel
theorem dX6_leastWater_10 : decode cX6_leastWater 10 = .ok (.iload_n 2, 1) := by decide +kernel
theorem dX6_leastWater_11 : decode cX6_leastWater 11 = .ok (.iconst 1, 1) := by decide +kernel
theorem dX6_leastWater_12 : decode cX6_leastWater 12 = .ok (.iadd, 1) := by decide +kernel
theorem dX6_leastWater_13 : decode cX6_leastWater 13 = .ok (.istore 5, 2) := by decide +kernel
theorem dX6_leastWater_15 : decode cX6_leastWater 15 = .ok (.iload 5, 2) := by decide +kernel
theorem dX6_leastWater_17 : decode cX6_leastWater 17 = .ok (.iload_n 3, 1) := by decide +kernel
theorem dX6_leastWater_18 : decode cX6_leastWater 18 = .ok (.if_icmp .gt 25, 3) := by decide +kernel
theorem dX6_leastWater_21 : decode cX6_leastWater 21 = .ok (.iload 4, 2) := by decide +kernel
theorem dX6_leastWater_23 : decode cX6_leastWater 23 = .ok (.aload_n 0, 1) := by decide +kernel
theorem dX6_leastWater_24 : decode cX6_leastWater 24 = .ok (.getfield 12, 3) := by decide +kernel
theorem dX6_leastWater_27 : decode cX6_leastWater 27 = .ok (.iload 5, 2) := by decide +kernel
theorem dX6_leastWater_29 : decode cX6_leastWater 29 = .ok (.invokevirtual 72, 3) := by decide +kernel
theorem dX6_leastWater_32 : decode cX6_leastWater 32 = .ok (.invokestatic 247, 3) := by decide +kernel
theorem dX6_leastWater_35 : decode cX6_leastWater 35 = .ok (.istore 4, 2) := by decide +kernel
theorem dX6_leastWater_37 : decode cX6_leastWater 37 = .ok (.iinc 5 1, 3) := by decide +kernel
theorem dX6_leastWater_40 : decode cX6_leastWater 40 = .ok (.goto (-25), 3) := by decide +kernel
theorem dX6_leastWater_43 : decode cX6_leastWater 43 = .ok (.aload_n 1, 1) := by decide +kernel
theorem dX6_leastWater_44 : decode cX6_leastWater 44 = .ok (.getfield 208, 3) := by decide +kernel
theorem dX6_leastWater_47 : decode cX6_leastWater 47 = .ok (.getfield 122, 3) := by decide +kernel
theorem dX6_leastWater_50 : decode cX6_leastWater 50 = .ok (.iload 4, 2) := by decide +kernel
theorem dX6_leastWater_52 : decode cX6_leastWater 52 = .ok (.iadd, 1) := by decide +kernel
theorem dX6_leastWater_53 : decode cX6_leastWater 53 = .ok (.aload_n 1, 1) := by decide +kernel
theorem dX6_leastWater_54 : decode cX6_leastWater 54 = .ok (.getfield 188, 3) := by decide +kernel
theorem dX6_leastWater_57 : decode cX6_leastWater 57 = .ok (.getfield 100, 3) := by decide +kernel
theorem dX6_leastWater_60 : decode cX6_leastWater 60 = .ok (.isub, 1) := by decide +kernel
theorem dX6_leastWater_61 : decode cX6_leastWater 61 = .ok (.ireturn, 1) := by decide +kernel
set_option maxRecDepth 20000 in
theorem ggX6_routeOf_Jx4a65c_get_915e3 : GoodIn wsX6_routeOf wsJx4a65c_get_915e3 := goodIn_r _ [12, 13, 14, 15, 16, 17, 18, 19, 20, 21, 22, 23, 24, 11, 25, 26, 63, 64, 65] (by decide +kernel) (by decide +kernel)
set_option maxRecDepth 20000 in
theorem gX6_routeOf_Jx4a65c_get_915e3 : GoodIn wsX6_routeOf (wsV RX6 96 RJx4a65c yJx4a65c_get_915e3 wsJx4a65c_get_915e3) := goodIn_app (goodIn_of _ (by decide +kernel)) ggX6_routeOf_Jx4a65c_get_915e3
set_option maxRecDepth 20000 in
theorem ggX6_routeOf_X3_init : GoodIn wsX6_routeOf wsX3_init := goodIn_r _ [29, 30, 31, 32, 33, 34, 35, 36, 37, 38, 5, 39, 59, 60, 61, 62, 48, 49, 50, 51] (by decide +kernel) (by decide +kernel)
set_option maxRecDepth 20000 in
theorem gX6_routeOf_X3_init : GoodIn wsX6_routeOf (wsX3_init) := ggX6_routeOf_X3_init
theorem dX6_routeOf_0 : decode cX6_routeOf 0 = .ok (.aload_n 0, 1) := by decide +kernel
theorem dX6_routeOf_1 : decode cX6_routeOf 1 = .ok (.getfield 23, 3) := by decide +kernel
theorem dX6_routeOf_4 : decode cX6_routeOf 4 = .ok (.iload_n 1, 1) := by decide +kernel
theorem dX6_routeOf_5 : decode cX6_routeOf 5 = .ok (.invokevirtual 96, 3) := by decide +kernel
theorem dX6_routeOf_8 : decode cX6_routeOf 8 = .ok (.checkcast 90, 3) := by decide +kernel
theorem dX6_routeOf_11 : decode cX6_routeOf 11 = .ok (.astore_n 3, 1) := by decide +kernel
theorem dX6_routeOf_12 : decode cX6_routeOf 12 = .ok (.aload_n 3, 1) := by decide +kernel
theorem dX6_routeOf_13 : decode cX6_routeOf 13 = .ok (.getfield 129, 3) := by decide +kernel
theorem dX6_routeOf_16 : decode cX6_routeOf 16 = .ok (.astore 4, 2) := by decide +kernel
theorem dX6_routeOf_18 : decode cX6_routeOf 18 = .ok (.aload 4, 2) := by decide +kernel
theorem dX6_routeOf_20 : decode cX6_routeOf 20 = .ok (.ifnull 14, 3) := by decide +kernel
theorem dX6_routeOf_23 : decode cX6_routeOf 23 = .ok (.aload 4, 2) := by decide +kernel
theorem dX6_routeOf_25 : decode cX6_routeOf 25 = .ok (.getfield 133, 3) := by decide +kernel
theorem dX6_routeOf_28 : decode cX6_routeOf 28 = .ok (.getfield 139, 3) := by decide +kernel
theorem dX6_routeOf_31 : decode cX6_routeOf 31 = .ok (.ifCond .eq 7, 3) := by decide +kernel
theorem dX6_routeOf_34 : decode cX6_routeOf 34 = .ok (.iconst 1, 1) := by decide +kernel
theorem dX6_routeOf_35 : decode cX6_routeOf 35 = .ok (.goto 4, 3) := by decide +kernel
theorem dX6_routeOf_38 : decode cX6_routeOf 38 = .ok (.iconst 0, 1) := by decide +kernel
theorem dX6_routeOf_39 : decode cX6_routeOf 39 = .ok (.istore 5, 2) := by decide +kernel
theorem dX6_routeOf_41 : decode cX6_routeOf 41 = .ok (.iload_n 2, 1) := by decide +kernel
theorem dX6_routeOf_42 : decode cX6_routeOf 42 = .ok (.iconst (-1), 1) := by decide +kernel
theorem dX6_routeOf_43 : decode cX6_routeOf 43 = .ok (.if_icmp .eq 33, 3) := by decide +kernel
theorem dX6_routeOf_46 : decode cX6_routeOf 46 = .ok (.iload 5, 2) := by decide +kernel
theorem dX6_routeOf_48 : decode cX6_routeOf 48 = .ok (.ifCond .eq 26, 3) := by decide +kernel
theorem dX6_routeOf_51 : decode cX6_routeOf 51 = .ok (.new 140, 3) := by decide +kernel
theorem dX6_routeOf_54 : decode cX6_routeOf 54 = .ok (.dup, 1) := by decide +kernel
theorem dX6_routeOf_55 : decode cX6_routeOf 55 = .ok (.aload_n 3, 1) := by decide +kernel
theorem dX6_routeOf_56 : decode cX6_routeOf 56 = .ok (.aload_n 0, 1) := by decide +kernel
theorem dX6_routeOf_57 : decode cX6_routeOf 57 = .ok (.getfield 19, 3) := by decide +kernel
theorem dX6_routeOf_60 : decode cX6_routeOf 60 = .ok (.iload_n 2, 1) := by decide +kernel
theorem dX6_routeOf_61 : decode cX6_routeOf 61 = .ok (.invokevirtual 96, 3) := by decide +kernel
theorem dX6_routeOf_64 : decode cX6_routeOf 64 = .ok (.checkcast 82, 3) := by decide +kernel
theorem dX6_routeOf_67 : decode cX6_routeOf 67 = .ok (.iconst 0, 1) := by decide +kernel
theorem dX6_routeOf_68 : decode cX6_routeOf 68 = .ok (.invokespecial 252, 3) := by decide +kernel
theorem dX6_routeOf_71 : decode cX6_routeOf 71 = .ok (.goto 4, 3) := by decide +kernel
theorem dX6_routeOf_74 : decode cX6_routeOf 74 = .ok (.aconst_null, 1) := by decide +kernel
theorem dX6_routeOf_75 : decode cX6_routeOf 75 = .ok (.areturn, 1) := by decide +kernel
theorem dX6_routeOf_76 : decode cX6_routeOf 76 = .ok (.iload 5, 2) := by decide +kernel
theorem dX6_routeOf_78 : decode cX6_routeOf 78 = .ok (.ifCond .eq 7, 3) := by decide +kernel
theorem dX6_routeOf_81 : decode cX6_routeOf 81 = .ok (.aconst_null, 1) := by decide +kernel
theorem dX6_routeOf_82 : decode cX6_routeOf 82 = .ok (.goto 20, 3) := by decide +kernel
theorem dX6_routeOf_85 : decode cX6_routeOf 85 = .ok (.new 140, 3) := by decide +kernel
theorem dX6_routeOf_88 : decode cX6_routeOf 88 = .ok (.dup, 1) := by decide +kernel
theorem dX6_routeOf_89 : decode cX6_routeOf 89 = .ok (.aload_n 3, 1) := by decide +kernel
theorem dX6_routeOf_90 : decode cX6_routeOf 90 = .ok (.aload 4, 2) := by decide +kernel
theorem dX6_routeOf_92 : decode cX6_routeOf 92 = .ok (.getfield 133, 3) := by decide +kernel
theorem dX6_routeOf_95 : decode cX6_routeOf 95 = .ok (.getfield 208, 3) := by decide +kernel
theorem dX6_routeOf_98 : decode cX6_routeOf 98 = .ok (.iconst 1, 1) := by decide +kernel
theorem dX6_routeOf_99 : decode cX6_routeOf 99 = .ok (.invokespecial 252, 3) := by decide +kernel
theorem dX6_routeOf_102 : decode cX6_routeOf 102 = .ok (.areturn, 1) := by decide +kernel
set_option maxRecDepth 20000 in
theorem ggX6_firstBegin_X6_freeFrom : GoodIn wsX6_firstBegin wsX6_freeFrom := goodIn_r _ [9, 10, 11, 1, 2, 3, 4, 12, 13, 14, 15, 16, 17, 18, 19, 20, 21, 22, 23, 24, 25, 26, 27, 28, 29, 30, 31, 32, 33, 34, 35, 36, 37, 38, 39, 40, 127, 128, 129, 130, 131, 132, 133, 134, 138, 139, 140, 141, 142, 143, 144, 145, 146, 147, 148, 149, 150, 151, 152, 135, 136, 137, 153, 154, 155] (by decide +kernel) (by decide +kernel)
set_option maxRecDepth 20000 in
theorem gX6_firstBegin_X6_freeFrom : GoodIn wsX6_firstBegin (wsV RX6 259 RX6 yX6_freeFrom wsX6_freeFrom) := goodIn_app (goodIn_of _ (by decide +kernel)) ggX6_firstBegin_X6_freeFrom
set_option maxRecDepth 20000 in
theorem ggX6_firstBegin_X6_canBegin : GoodIn wsX6_firstBegin wsX6_canBegin := goodIn_r _ [44, 45, 46, 47, 48, 8, 49, 10, 11, 50, 51, 3, 52, 18, 19, 20, 21, 22, 23, 24, 25, 26, 27, 28, 29, 30, 31, 32, 33, 34, 35, 36, 37, 38, 39, 40, 53, 54, 55, 56, 57, 58, 59, 60, 61, 62, 63, 64, 65, 66, 67, 68, 69, 70, 71, 72, 73, 74, 75, 76, 77, 78, 79, 80, 81, 82, 83, 84, 85, 86, 87, 88, 89, 90, 91, 92, 93, 94, 95, 96, 97, 98, 99, 100, 15, 101, 102, 17, 103, 104, 105, 106, 107, 108, 109, 110, 111, 112, 113, 114, 115, 116, 117, 118, 119, 120, 121, 122, 13, 14, 16, 123, 124, 125, 126, 127, 128, 129, 130, 138, 139, 140, 141, 142, 143, 144, 145, 135, 136, 137, 146, 147, 148, 149, 150, 151, 152, 153, 154, 155, 156, 157, 158, 131, 132, 133, 134, 159, 160, 161, 162] (by decide +kernel) (by decide +kernel)
set_option maxRecDepth 20000 in
theorem gX6_firstBegin_X6_canBegin : GoodIn wsX6_firstBegin (wsV RX6 266 RX6 yX6_canBegin wsX6_canBegin) := goodIn_app (goodIn_of _ (by decide +kernel)) ggX6_firstBegin_X6_canBegin
theorem dX6_firstBegin_0 : decode cX6_firstBegin 0 = .ok (.aload_n 1, 1) := by decide +kernel
theorem dX6_firstBegin_1 : decode cX6_firstBegin 1 = .ok (.getfield 188, 3) := by decide +kernel
theorem dX6_firstBegin_4 : decode cX6_firstBegin 4 = .ok (.getfield 255, 3) := by decide +kernel
theorem dX6_firstBegin_7 : decode cX6_firstBegin 7 = .ok (.aload_n 1, 1) := by decide +kernel
theorem dX6_firstBegin_8 : decode cX6_firstBegin 8 = .ok (.getfield 208, 3) := by decide +kernel
theorem dX6_firstBegin_11 : decode cX6_firstBegin 11 = .ok (.getfield 258, 3) := by decide +kernel
theorem dX6_firstBegin_14 : decode cX6_firstBegin 14 = .ok (.if_icmp .le 5, 3) := by decide +kernel
theorem dX6_firstBegin_17 : decode cX6_firstBegin 17 = .ok (.iconst (-1), 1) := by decide +kernel
theorem dX6_firstBegin_18 : decode cX6_firstBegin 18 = .ok (.ireturn, 1) := by decide +kernel
theorem dX6_firstBegin_19 : decode cX6_firstBegin 19 = .ok (.iload_n 2, 1) := by decide +kernel
theorem dX6_firstBegin_20 : decode cX6_firstBegin 20 = .ok (.aload_n 0, 1) := by decide +kernel
theorem dX6_firstBegin_21 : decode cX6_firstBegin 21 = .ok (.aload_n 1, 1) := by decide +kernel
theorem dX6_firstBegin_22 : decode cX6_firstBegin 22 = .ok (.invokevirtual 259, 3) := by decide +kernel
theorem dX6_firstBegin_25 : decode cX6_firstBegin 25 = .ok (.invokestatic 263, 3) := by decide +kernel
theorem dX6_firstBegin_28 : decode cX6_firstBegin 28 = .ok (.istore_n 3, 1) := by decide +kernel
theorem dX6_firstBegin_29 : decode cX6_firstBegin 29 = .ok (.iload_n 3, 1) := by decide +kernel
theorem dX6_firstBegin_30 : decode cX6_firstBegin 30 = .ok (.istore 4, 2) := by decide +kernel
theorem dX6_firstBegin_32 : decode cX6_firstBegin 32 = .ok (.iload 4, 2) := by decide +kernel
theorem dX6_firstBegin_34 : decode cX6_firstBegin 34 = .ok (.bipush 60, 2) := by decide +kernel
theorem dX6_firstBegin_36 : decode cX6_firstBegin 36 = .ok (.iadd, 1) := by decide +kernel
theorem dX6_firstBegin_37 : decode cX6_firstBegin 37 = .ok (.sipush 2879, 3) := by decide +kernel
theorem dX6_firstBegin_40 : decode cX6_firstBegin 40 = .ok (.if_icmp .gt 22, 3) := by decide +kernel
theorem dX6_firstBegin_43 : decode cX6_firstBegin 43 = .ok (.aload_n 0, 1) := by decide +kernel
theorem dX6_firstBegin_44 : decode cX6_firstBegin 44 = .ok (.aload_n 1, 1) := by decide +kernel
theorem dX6_firstBegin_45 : decode cX6_firstBegin 45 = .ok (.iload 4, 2) := by decide +kernel
theorem dX6_firstBegin_47 : decode cX6_firstBegin 47 = .ok (.invokevirtual 266, 3) := by decide +kernel
theorem dX6_firstBegin_50 : decode cX6_firstBegin 50 = .ok (.ifCond .eq 6, 3) := by decide +kernel
theorem dX6_firstBegin_53 : decode cX6_firstBegin 53 = .ok (.iload 4, 2) := by decide +kernel
theorem dX6_firstBegin_55 : decode cX6_firstBegin 55 = .ok (.ireturn, 1) := by decide +kernel
theorem dX6_firstBegin_56 : decode cX6_firstBegin 56 = .ok (.iinc 4 1, 3) := by decide +kernel
theorem dX6_firstBegin_59 : decode cX6_firstBegin 59 = .ok (.goto (-27), 3) := by decide +kernel
theorem dX6_firstBegin_62 : decode cX6_firstBegin 62 = .ok (.iconst (-1), 1) := by decide +kernel
theorem dX6_firstBegin_63 : decode cX6_firstBegin 63 = .ok (.ireturn, 1) := by decide +kernel
set_option maxRecDepth 20000 in
theorem ggX6_freeFrom_X1_end : GoodIn wsX6_freeFrom wsX1_end := goodIn_r _ [11, 12, 52, 53, 54, 55, 56, 57, 58] (by decide +kernel) (by decide +kernel)
set_option maxRecDepth 20000 in
theorem gX6_freeFrom_X1_end : GoodIn wsX6_freeFrom (wsV RX6 150 RX1 yX1_end wsX1_end) := goodIn_app (goodIn_of _ (by decide +kernel)) ggX6_freeFrom_X1_end
set_option maxRecDepth 20000 in
theorem ggX6_freeFrom_Jx4a65c_size_8abf5 : GoodIn wsX6_freeFrom wsJx4a65c_size_8abf5 := goodIn_r _ [17, 18, 62, 63, 64] (by decide +kernel) (by decide +kernel)
set_option maxRecDepth 20000 in
theorem gX6_freeFrom_Jx4a65c_size_8abf5 : GoodIn wsX6_freeFrom (wsV RX6 76 RJx4a65c yJx4a65c_size_8abf5 wsJx4a65c_size_8abf5) := goodIn_app (goodIn_of _ (by decide +kernel)) ggX6_freeFrom_Jx4a65c_size_8abf5
set_option maxRecDepth 20000 in
theorem ggX6_freeFrom_Jx4a65c_get_915e3 : GoodIn wsX6_freeFrom wsJx4a65c_get_915e3 := goodIn_r _ [22, 18, 23, 24, 25, 26, 27, 28, 29, 30, 31, 32, 33, 16, 34, 35, 62, 63, 64] (by decide +kernel) (by decide +kernel)
set_option maxRecDepth 20000 in
theorem gX6_freeFrom_Jx4a65c_get_915e3 : GoodIn wsX6_freeFrom (wsV RX6 96 RJx4a65c yJx4a65c_get_915e3 wsJx4a65c_get_915e3) := goodIn_app (goodIn_of _ (by decide +kernel)) ggX6_freeFrom_Jx4a65c_get_915e3
theorem dX6_freeFrom_0 : decode cX6_freeFrom 0 = .ok (.aload_n 1, 1) := by decide +kernel
theorem dX6_freeFrom_1 : decode cX6_freeFrom 1 = .ok (.getfield 188, 3) := by decide +kernel
theorem dX6_freeFrom_4 : decode cX6_freeFrom 4 = .ok (.getfield 129, 3) := by decide +kernel
theorem dX6_freeFrom_7 : decode cX6_freeFrom 7 = .ok (.astore_n 2, 1) := by decide +kernel
theorem dX6_freeFrom_8 : decode cX6_freeFrom 8 = .ok (.aload_n 2, 1) := by decide +kernel
theorem dX6_freeFrom_9 : decode cX6_freeFrom 9 = .ok (.ifnonnull 7, 3) := by decide +kernel
theorem dX6_freeFrom_12 : decode cX6_freeFrom 12 = .ok (.iconst 0, 1) := by decide +kernel
theorem dX6_freeFrom_13 : decode cX6_freeFrom 13 = .ok (.goto 7, 3) := by decide +kernel
theorem dX6_freeFrom_16 : decode cX6_freeFrom 16 = .ok (.aload_n 2, 1) := by decide +kernel
theorem dX6_freeFrom_17 : decode cX6_freeFrom 17 = .ok (.invokevirtual 150, 3) := by decide +kernel
theorem dX6_freeFrom_20 : decode cX6_freeFrom 20 = .ok (.istore_n 3, 1) := by decide +kernel
theorem dX6_freeFrom_21 : decode cX6_freeFrom 21 = .ok (.aload_n 1, 1) := by decide +kernel
theorem dX6_freeFrom_22 : decode cX6_freeFrom 22 = .ok (.getfield 139, 3) := by decide +kernel
theorem dX6_freeFrom_25 : decode cX6_freeFrom 25 = .ok (.ifCond .eq 5, 3) := by decide +kernel
theorem dX6_freeFrom_28 : decode cX6_freeFrom 28 = .ok (.iload_n 3, 1) := by decide +kernel
theorem dX6_freeFrom_29 : decode cX6_freeFrom 29 = .ok (.ireturn, 1) := by decide +kernel
theorem dX6_freeFrom_30 : decode cX6_freeFrom 30 = .ok (.iconst 0, 1) := by decide +kernel
theorem dX6_freeFrom_31 : decode cX6_freeFrom 31 = .ok (.istore 4, 2) := by decide +kernel
theorem dX6_freeFrom_33 : decode cX6_freeFrom 33 = .ok (.iload 4, 2) := by decide +kernel
theorem dX6_freeFrom_35 : decode cX6_freeFrom 35 = .ok (.aload_n 0, 1) := by decide +kernel
theorem dX6_freeFrom_36 : decode cX6_freeFrom 36 = .ok (.getfield 29, 3) := by decide +kernel
theorem dX6_freeFrom_39 : decode cX6_freeFrom 39 = .ok (.invokevirtual 76, 3) := by decide +kernel
theorem dX6_freeFrom_42 : decode cX6_freeFrom 42 = .ok (.if_icmp .ge 54, 3) := by decide +kernel
theorem dX6_freeFrom_45 : decode cX6_freeFrom 45 = .ok (.aload_n 0, 1) := by decide +kernel
theorem dX6_freeFrom_46 : decode cX6_freeFrom 46 = .ok (.getfield 29, 3) := by decide +kernel
theorem dX6_freeFrom_49 : decode cX6_freeFrom 49 = .ok (.iload 4, 2) := by decide +kernel
theorem dX6_freeFrom_51 : decode cX6_freeFrom 51 = .ok (.invokevirtual 96, 3) := by decide +kernel
theorem dX6_freeFrom_54 : decode cX6_freeFrom 54 = .ok (.checkcast 134, 3) := by decide +kernel
theorem dX6_freeFrom_57 : decode cX6_freeFrom 57 = .ok (.astore 5, 2) := by decide +kernel
theorem dX6_freeFrom_59 : decode cX6_freeFrom 59 = .ok (.aload 5, 2) := by decide +kernel
theorem dX6_freeFrom_61 : decode cX6_freeFrom 61 = .ok (.getfield 133, 3) := by decide +kernel
theorem dX6_freeFrom_64 : decode cX6_freeFrom 64 = .ok (.getfield 208, 3) := by decide +kernel
theorem dX6_freeFrom_67 : decode cX6_freeFrom 67 = .ok (.getfield 212, 3) := by decide +kernel
theorem dX6_freeFrom_70 : decode cX6_freeFrom 70 = .ok (.aload_n 1, 1) := by decide +kernel
theorem dX6_freeFrom_71 : decode cX6_freeFrom 71 = .ok (.getfield 208, 3) := by decide +kernel
theorem dX6_freeFrom_74 : decode cX6_freeFrom 74 = .ok (.getfield 212, 3) := by decide +kernel
theorem dX6_freeFrom_77 : decode cX6_freeFrom 77 = .ok (.if_icmp .ne 13, 3) := by decide +kernel
theorem dX6_freeFrom_80 : decode cX6_freeFrom 80 = .ok (.iload_n 3, 1) := by decide +kernel
theorem dX6_freeFrom_81 : decode cX6_freeFrom 81 = .ok (.aload 5, 2) := by decide +kernel
theorem dX6_freeFrom_83 : decode cX6_freeFrom 83 = .ok (.getfield 200, 3) := by decide +kernel
theorem dX6_freeFrom_86 : decode cX6_freeFrom 86 = .ok (.invokestatic 263, 3) := by decide +kernel
theorem dX6_freeFrom_89 : decode cX6_freeFrom 89 = .ok (.istore_n 3, 1) := by decide +kernel
theorem dX6_freeFrom_90 : decode cX6_freeFrom 90 = .ok (.iinc 4 1, 3) := by decide +kernel
theorem dX6_freeFrom_93 : decode cX6_freeFrom 93 = .ok (.goto (-60), 3) := by decide +kernel
theorem dX6_freeFrom_96 : decode cX6_freeFrom 96 = .ok (.iload_n 3, 1) := by decide +kernel
theorem dX6_freeFrom_97 : decode cX6_freeFrom 97 = .ok (.ireturn, 1) := by decide +kernel
set_option maxRecDepth 20000 in
theorem ggX6_canBegin_X6_hasClearWay : GoodIn wsX6_canBegin wsX6_hasClearWay := goodIn_r _ [6, 7, 8, 9, 10, 11, 12, 13, 14, 15, 16, 17, 18, 19, 20, 21, 22, 23, 24, 25, 26, 27, 28, 29, 30, 31, 32, 33, 34, 35, 119, 120, 121, 122, 123, 124, 125, 126, 130, 131, 132, 133, 134, 135, 136, 115, 116, 117, 118, 137, 138, 139] (by decide +kernel) (by decide +kernel)
set_option maxRecDepth 20000 in
theorem gX6_canBegin_X6_hasClearWay : GoodIn wsX6_canBegin (wsV RX6 270 RX6 yX6_hasClearWay wsX6_hasClearWay) := goodIn_app (goodIn_of _ (by decide +kernel)) ggX6_canBegin_X6_hasClearWay
set_option maxRecDepth 20000 in
theorem ggX6_canBegin_X3_barMinute : GoodIn wsX6_canBegin wsX3_barMinute := goodIn_r _ [40, 41, 115, 116, 117, 118] (by decide +kernel) (by decide +kernel)
set_option maxRecDepth 20000 in
theorem gX6_canBegin_X3_barMinute : GoodIn wsX6_canBegin (wsV RX6 273 RX3 yX3_barMinute wsX3_barMinute) := goodIn_app (goodIn_of _ (by decide +kernel)) ggX6_canBegin_X3_barMinute
set_option maxRecDepth 20000 in
theorem ggX6_canBegin_X6_hasWater : GoodIn wsX6_canBegin wsX6_hasWater := goodIn_r _ [45, 46, 47, 48, 49, 50, 51, 52, 53, 54, 55, 56, 57, 58, 59, 60, 61, 5, 62, 63, 119, 120, 121, 122, 123, 124, 125, 126, 140, 141, 142, 143, 144, 145, 146] (by decide +kernel) (by decide +kernel)
set_option maxRecDepth 20000 in
theorem gX6_canBegin_X6_hasWater : GoodIn wsX6_canBegin (wsV RX6 125 RX6 yX6_hasWater wsX6_hasWater) := goodIn_app (goodIn_of _ (by decide +kernel)) ggX6_canBegin_X6_hasWater
set_option maxRecDepth 20000 in
theorem ggX6_canBegin_X3_berthMinute : GoodIn wsX6_canBegin wsX3_berthMinute := goodIn_r _ [67, 41, 115, 116, 117, 118] (by decide +kernel) (by decide +kernel)
set_option maxRecDepth 20000 in
theorem gX6_canBegin_X3_berthMinute : GoodIn wsX6_canBegin (wsV RX6 276 RX3 yX3_berthMinute wsX3_berthMinute) := goodIn_app (goodIn_of _ (by decide +kernel)) ggX6_canBegin_X3_berthMinute
set_option maxRecDepth 20000 in
theorem ggX6_canBegin_X6_hasTugs : GoodIn wsX6_canBegin wsX6_hasTugs := goodIn_r _ [71, 72, 7, 8, 73, 74, 75, 39, 76, 41, 77, 78, 79, 5, 80, 13, 14, 15, 16, 17, 18, 19, 20, 21, 22, 23, 24, 25, 26, 27, 28, 29, 30, 31, 32, 33, 34, 35, 81, 82, 83, 84, 85, 86, 87, 88, 119, 120, 121, 122, 123, 124, 125, 126, 115, 116, 117, 118, 130, 131, 132, 133, 134, 135, 136, 137, 138, 139] (by decide +kernel) (by decide +kernel)
set_option maxRecDepth 20000 in
theorem gX6_canBegin_X6_hasTugs : GoodIn wsX6_canBegin (wsV RX6 279 RX6 yX6_hasTugs wsX6_hasTugs) := goodIn_app (goodIn_of _ (by decide +kernel)) ggX6_canBegin_X6_hasTugs
set_option maxRecDepth 20000 in
theorem ggX6_canBegin_X6_pilotFor : GoodIn wsX6_canBegin wsX6_pilotFor := goodIn_r _ [92, 93, 94, 13, 14, 15, 16, 17, 18, 19, 20, 21, 22, 23, 24, 25, 26, 27, 28, 29, 30, 31, 32, 33, 34, 35, 95, 96, 97, 98, 99, 100, 101, 102, 103, 104, 105, 106, 107, 108, 109, 84, 110, 87, 111, 112, 113, 114, 119, 120, 121, 122, 123, 124, 125, 126, 137, 138, 139, 147, 148, 149, 150, 115, 116, 117, 118, 143, 144, 145, 146, 130, 131, 132, 133, 134, 135, 136] (by decide +kernel) (by decide +kernel)
set_option maxRecDepth 20000 in
theorem gX6_canBegin_X6_pilotFor : GoodIn wsX6_canBegin (wsV RX6 170 RX6 yX6_pilotFor wsX6_pilotFor) := goodIn_app (goodIn_of _ (by decide +kernel)) ggX6_canBegin_X6_pilotFor
theorem dX6_canBegin_0 : decode cX6_canBegin 0 = .ok (.aload_n 0, 1) := by decide +kernel
theorem dX6_canBegin_1 : decode cX6_canBegin 1 = .ok (.aload_n 1, 1) := by decide +kernel
theorem dX6_canBegin_2 : decode cX6_canBegin 2 = .ok (.iload_n 2, 1) := by decide +kernel
theorem dX6_canBegin_3 : decode cX6_canBegin 3 = .ok (.invokevirtual 270, 3) := by decide +kernel
theorem dX6_canBegin_6 : decode cX6_canBegin 6 = .ok (.ifCond .eq 68, 3) := by decide +kernel
theorem dX6_canBegin_9 : decode cX6_canBegin 9 = .ok (.aload_n 0, 1) := by decide +kernel
theorem dX6_canBegin_10 : decode cX6_canBegin 10 = .ok (.aload_n 1, 1) := by decide +kernel
theorem dX6_canBegin_11 : decode cX6_canBegin 11 = .ok (.getfield 188, 3) := by decide +kernel
theorem dX6_canBegin_14 : decode cX6_canBegin 14 = .ok (.aload_n 0, 1) := by decide +kernel
theorem dX6_canBegin_15 : decode cX6_canBegin 15 = .ok (.getfield 32, 3) := by decide +kernel
theorem dX6_canBegin_18 : decode cX6_canBegin 18 = .ok (.aload_n 1, 1) := by decide +kernel
theorem dX6_canBegin_19 : decode cX6_canBegin 19 = .ok (.iload_n 2, 1) := by decide +kernel
theorem dX6_canBegin_20 : decode cX6_canBegin 20 = .ok (.invokevirtual 273, 3) := by decide +kernel
theorem dX6_canBegin_23 : decode cX6_canBegin 23 = .ok (.invokevirtual 125, 3) := by decide +kernel
theorem dX6_canBegin_26 : decode cX6_canBegin 26 = .ok (.ifCond .eq 48, 3) := by decide +kernel
theorem dX6_canBegin_29 : decode cX6_canBegin 29 = .ok (.aload_n 0, 1) := by decide +kernel
theorem dX6_canBegin_30 : decode cX6_canBegin 30 = .ok (.aload_n 1, 1) := by decide +kernel
theorem dX6_canBegin_31 : decode cX6_canBegin 31 = .ok (.getfield 188, 3) := by decide +kernel
theorem dX6_canBegin_34 : decode cX6_canBegin 34 = .ok (.aload_n 1, 1) := by decide +kernel
theorem dX6_canBegin_35 : decode cX6_canBegin 35 = .ok (.getfield 208, 3) := by decide +kernel
theorem dX6_canBegin_38 : decode cX6_canBegin 38 = .ok (.getfield 122, 3) := by decide +kernel
theorem dX6_canBegin_41 : decode cX6_canBegin 41 = .ok (.aload_n 1, 1) := by decide +kernel
theorem dX6_canBegin_42 : decode cX6_canBegin 42 = .ok (.iload_n 2, 1) := by decide +kernel
theorem dX6_canBegin_43 : decode cX6_canBegin 43 = .ok (.invokevirtual 276, 3) := by decide +kernel
theorem dX6_canBegin_46 : decode cX6_canBegin 46 = .ok (.invokevirtual 125, 3) := by decide +kernel
theorem dX6_canBegin_49 : decode cX6_canBegin 49 = .ok (.ifCond .eq 25, 3) := by decide +kernel
theorem dX6_canBegin_52 : decode cX6_canBegin 52 = .ok (.aload_n 0, 1) := by decide +kernel
theorem dX6_canBegin_53 : decode cX6_canBegin 53 = .ok (.aload_n 1, 1) := by decide +kernel
theorem dX6_canBegin_54 : decode cX6_canBegin 54 = .ok (.iload_n 2, 1) := by decide +kernel
theorem dX6_canBegin_55 : decode cX6_canBegin 55 = .ok (.invokevirtual 279, 3) := by decide +kernel
theorem dX6_canBegin_58 : decode cX6_canBegin 58 = .ok (.ifCond .eq 16, 3) := by decide +kernel
theorem dX6_canBegin_61 : decode cX6_canBegin 61 = .ok (.aload_n 0, 1) := by decide +kernel
theorem dX6_canBegin_62 : decode cX6_canBegin 62 = .ok (.aload_n 1, 1) := by decide +kernel
theorem dX6_canBegin_63 : decode cX6_canBegin 63 = .ok (.iload_n 2, 1) := by decide +kernel
theorem dX6_canBegin_64 : decode cX6_canBegin 64 = .ok (.invokevirtual 170, 3) := by decide +kernel
theorem dX6_canBegin_67 : decode cX6_canBegin 67 = .ok (.ifnull 7, 3) := by decide +kernel
theorem dX6_canBegin_70 : decode cX6_canBegin 70 = .ok (.iconst 1, 1) := by decide +kernel
theorem dX6_canBegin_71 : decode cX6_canBegin 71 = .ok (.goto 4, 3) := by decide +kernel
theorem dX6_canBegin_74 : decode cX6_canBegin 74 = .ok (.iconst 0, 1) := by decide +kernel
theorem dX6_canBegin_75 : decode cX6_canBegin 75 = .ok (.ireturn, 1) := by decide +kernel
set_option maxRecDepth 20000 in
theorem ggX6_hasClearWay_Jx4a65c_size_8abf5 : GoodIn wsX6_hasClearWay wsJx4a65c_size_8abf5 := goodIn_r _ [11, 12, 49, 50, 51] (by decide +kernel) (by decide +kernel)
set_option maxRecDepth 20000 in
theorem gX6_hasClearWay_Jx4a65c_size_8abf5 : GoodIn wsX6_hasClearWay (wsV RX6 76 RJx4a65c yJx4a65c_size_8abf5 wsJx4a65c_size_8abf5) := goodIn_app (goodIn_of _ (by decide +kernel)) ggX6_hasClearWay_Jx4a65c_size_8abf5
set_option maxRecDepth 20000 in
theorem ggX6_hasClearWay_Jx4a65c_get_915e3 : GoodIn wsX6_hasClearWay wsJx4a65c_get_915e3 := goodIn_r _ [16, 12, 17, 18, 19, 20, 21, 22, 23, 24, 25, 26, 27, 10, 28, 29, 49, 50, 51] (by decide +kernel) (by decide +kernel)
set_option maxRecDepth 20000 in
theorem gX6_hasClearWay_Jx4a65c_get_915e3 : GoodIn wsX6_hasClearWay (wsV RX6 96 RJx4a65c yJx4a65c_get_915e3 wsJx4a65c_get_915e3) := goodIn_app (goodIn_of _ (by decide +kernel)) ggX6_hasClearWay_Jx4a65c_get_915e3
theorem dX6_hasClearWay_0 : decode cX6_hasClearWay 0 = .ok (.iconst 0, 1) := by decide +kernel
theorem dX6_hasClearWay_1 : decode cX6_hasClearWay 1 = .ok (.istore_n 3, 1) := by decide +kernel
theorem dX6_hasClearWay_2 : decode cX6_hasClearWay 2 = .ok (.iload_n 3, 1) := by decide +kernel
theorem dX6_hasClearWay_3 : decode cX6_hasClearWay 3 = .ok (.aload_n 0, 1) := by decide +kernel
theorem dX6_hasClearWay_4 : decode cX6_hasClearWay 4 = .ok (.getfield 29, 3) := by decide +kernel
theorem dX6_hasClearWay_7 : decode cX6_hasClearWay 7 = .ok (.invokevirtual 76, 3) := by decide +kernel
theorem dX6_hasClearWay_10 : decode cX6_hasClearWay 10 = .ok (.if_icmp .ge 63, 3) := by decide +kernel
theorem dX6_hasClearWay_13 : decode cX6_hasClearWay 13 = .ok (.aload_n 0, 1) := by decide +kernel
theorem dX6_hasClearWay_14 : decode cX6_hasClearWay 14 = .ok (.getfield 29, 3) := by decide +kernel
theorem dX6_hasClearWay_17 : decode cX6_hasClearWay 17 = .ok (.iload_n 3, 1) := by decide +kernel
theorem dX6_hasClearWay_18 : decode cX6_hasClearWay 18 = .ok (.invokevirtual 96, 3) := by decide +kernel
theorem dX6_hasClearWay_21 : decode cX6_hasClearWay 21 = .ok (.checkcast 134, 3) := by decide +kernel
theorem dX6_hasClearWay_24 : decode cX6_hasClearWay 24 = .ok (.astore 4, 2) := by decide +kernel
theorem dX6_hasClearWay_26 : decode cX6_hasClearWay 26 = .ok (.aload 4, 2) := by decide +kernel
theorem dX6_hasClearWay_28 : decode cX6_hasClearWay 28 = .ok (.getfield 133, 3) := by decide +kernel
theorem dX6_hasClearWay_31 : decode cX6_hasClearWay 31 = .ok (.getfield 139, 3) := by decide +kernel
theorem dX6_hasClearWay_34 : decode cX6_hasClearWay 34 = .ok (.aload_n 1, 1) := by decide +kernel
theorem dX6_hasClearWay_35 : decode cX6_hasClearWay 35 = .ok (.getfield 139, 3) := by decide +kernel
theorem dX6_hasClearWay_38 : decode cX6_hasClearWay 38 = .ok (.if_icmp .ne 8, 3) := by decide +kernel
theorem dX6_hasClearWay_41 : decode cX6_hasClearWay 41 = .ok (.bipush 20, 2) := by decide +kernel
theorem dX6_hasClearWay_43 : decode cX6_hasClearWay 43 = .ok (.goto 5, 3) := by decide +kernel
theorem dX6_hasClearWay_46 : decode cX6_hasClearWay 46 = .ok (.bipush 60, 2) := by decide +kernel
theorem dX6_hasClearWay_48 : decode cX6_hasClearWay 48 = .ok (.istore 5, 2) := by decide +kernel
theorem dX6_hasClearWay_50 : decode cX6_hasClearWay 50 = .ok (.aload 4, 2) := by decide +kernel
theorem dX6_hasClearWay_52 : decode cX6_hasClearWay 52 = .ok (.getfield 153, 3) := by decide +kernel
theorem dX6_hasClearWay_55 : decode cX6_hasClearWay 55 = .ok (.iload_n 2, 1) := by decide +kernel
theorem dX6_hasClearWay_56 : decode cX6_hasClearWay 56 = .ok (.isub, 1) := by decide +kernel
theorem dX6_hasClearWay_57 : decode cX6_hasClearWay 57 = .ok (.invokestatic 282, 3) := by decide +kernel
theorem dX6_hasClearWay_60 : decode cX6_hasClearWay 60 = .ok (.iload 5, 2) := by decide +kernel
theorem dX6_hasClearWay_62 : decode cX6_hasClearWay 62 = .ok (.if_icmp .ge 5, 3) := by decide +kernel
theorem dX6_hasClearWay_65 : decode cX6_hasClearWay 65 = .ok (.iconst 0, 1) := by decide +kernel
theorem dX6_hasClearWay_66 : decode cX6_hasClearWay 66 = .ok (.ireturn, 1) := by decide +kernel
theorem dX6_hasClearWay_67 : decode cX6_hasClearWay 67 = .ok (.iinc 3 1, 3) := by decide +kernel
theorem dX6_hasClearWay_70 : decode cX6_hasClearWay 70 = .ok (.goto (-68), 3) := by decide +kernel
theorem dX6_hasClearWay_73 : decode cX6_hasClearWay 73 = .ok (.iconst 1, 1) := by decide +kernel
theorem dX6_hasClearWay_74 : decode cX6_hasClearWay 74 = .ok (.ireturn, 1) := by decide +kernel
set_option maxRecDepth 20000 in
theorem ggX6_hasTugs_X3_tugsFrom : GoodIn wsX6_hasTugs wsX3_tugsFrom := goodIn_r _ [8, 9, 54, 55, 56, 57] (by decide +kernel) (by decide +kernel)
set_option maxRecDepth 20000 in
theorem gX6_hasTugs_X3_tugsFrom : GoodIn wsX6_hasTugs (wsV RX6 285 RX3 yX3_tugsFrom wsX3_tugsFrom) := goodIn_app (goodIn_of _ (by decide +kernel)) ggX6_hasTugs_X3_tugsFrom
set_option maxRecDepth 20000 in
theorem ggX6_hasTugs_X6_tugsInUse : GoodIn wsX6_hasTugs wsX6_tugsInUse := goodIn_r _ [14, 2, 3, 15, 16, 17, 18, 19, 20, 21, 22, 23, 24, 25, 26, 27, 28, 29, 30, 31, 32, 33, 34, 35, 36, 37, 38, 39, 40, 41, 42, 43, 44, 45, 5, 6, 7, 8, 9, 46, 47, 48, 49, 50, 51, 52, 53, 58, 59, 60, 61, 62, 63, 64, 54, 55, 56, 57, 65, 66, 67] (by decide +kernel) (by decide +kernel)
set_option maxRecDepth 20000 in
theorem gX6_hasTugs_X6_tugsInUse : GoodIn wsX6_hasTugs (wsV RX6 218 RX6 yX6_tugsInUse wsX6_tugsInUse) := goodIn_app (goodIn_of _ (by decide +kernel)) ggX6_hasTugs_X6_tugsInUse
set_option maxRecDepth 20000 in
theorem ggX6_hasTugs_Jx4a65c_size_8abf5 : GoodIn wsX6_hasTugs wsJx4a65c_size_8abf5 := goodIn_r _ [19, 20, 65, 66, 67] (by decide +kernel) (by decide +kernel)
set_option maxRecDepth 20000 in
theorem gX6_hasTugs_Jx4a65c_size_8abf5 : GoodIn wsX6_hasTugs (wsV RX6 76 RJx4a65c yJx4a65c_size_8abf5 wsJx4a65c_size_8abf5) := goodIn_app (goodIn_of _ (by decide +kernel)) ggX6_hasTugs_Jx4a65c_size_8abf5
set_option maxRecDepth 20000 in
theorem ggX6_hasTugs_Jx4a65c_get_915e3 : GoodIn wsX6_hasTugs wsJx4a65c_get_915e3 := goodIn_r _ [24, 20, 25, 26, 27, 28, 29, 30, 31, 32, 33, 34, 35, 18, 36, 37, 65, 66, 67] (by decide +kernel) (by decide +kernel)
set_option maxRecDepth 20000 in
theorem gX6_hasTugs_Jx4a65c_get_915e3 : GoodIn wsX6_hasTugs (wsV RX6 96 RJx4a65c yJx4a65c_get_915e3 wsJx4a65c_get_915e3) := goodIn_app (goodIn_of _ (by decide +kernel)) ggX6_hasTugs_Jx4a65c_get_915e3
set_option maxRecDepth 20000 in
theorem ggX6_hasTugs_X1_tugsFrom : GoodIn wsX6_hasTugs wsX1_tugsFrom := goodIn_r _ [42, 43, 44, 45, 5, 6, 7, 8, 9, 58, 59, 60, 61, 62, 63, 64, 54, 55, 56, 57] (by decide +kernel) (by decide +kernel)
set_option maxRecDepth 20000 in
theorem gX6_hasTugs_X1_tugsFrom : GoodIn wsX6_hasTugs (wsV RX6 288 RX1 yX1_tugsFrom wsX1_tugsFrom) := goodIn_app (goodIn_of _ (by decide +kernel)) ggX6_hasTugs_X1_tugsFrom
theorem dX6_hasTugs_0 : decode cX6_hasTugs 0 = .ok (.aload_n 1, 1) := by decide +kernel
theorem dX6_hasTugs_1 : decode cX6_hasTugs 1 = .ok (.iload_n 2, 1) := by decide +kernel
theorem dX6_hasTugs_2 : decode cX6_hasTugs 2 = .ok (.invokevirtual 285, 3) := by decide +kernel
theorem dX6_hasTugs_5 : decode cX6_hasTugs 5 = .ok (.istore_n 3, 1) := by decide +kernel
theorem dX6_hasTugs_6 : decode cX6_hasTugs 6 = .ok (.aload_n 0, 1) := by decide +kernel
theorem dX6_hasTugs_7 : decode cX6_hasTugs 7 = .ok (.getfield 39, 3) := by decide +kernel
theorem dX6_hasTugs_10 : decode cX6_hasTugs 10 = .ok (.aload_n 1, 1) := by decide +kernel
theorem dX6_hasTugs_11 : decode cX6_hasTugs 11 = .ok (.getfield 207, 3) := by decide +kernel
theorem dX6_hasTugs_14 : decode cX6_hasTugs 14 = .ok (.isub, 1) := by decide +kernel
theorem dX6_hasTugs_15 : decode cX6_hasTugs 15 = .ok (.istore 4, 2) := by decide +kernel
theorem dX6_hasTugs_17 : decode cX6_hasTugs 17 = .ok (.aload_n 0, 1) := by decide +kernel
theorem dX6_hasTugs_18 : decode cX6_hasTugs 18 = .ok (.iload_n 3, 1) := by decide +kernel
theorem dX6_hasTugs_19 : decode cX6_hasTugs 19 = .ok (.invokevirtual 218, 3) := by decide +kernel
theorem dX6_hasTugs_22 : decode cX6_hasTugs 22 = .ok (.iload 4, 2) := by decide +kernel
theorem dX6_hasTugs_24 : decode cX6_hasTugs 24 = .ok (.if_icmp .le 5, 3) := by decide +kernel
theorem dX6_hasTugs_27 : decode cX6_hasTugs 27 = .ok (.iconst 0, 1) := by decide +kernel
theorem dX6_hasTugs_28 : decode cX6_hasTugs 28 = .ok (.ireturn, 1) := by decide +kernel
theorem dX6_hasTugs_29 : decode cX6_hasTugs 29 = .ok (.iconst 0, 1) := by decide +kernel
theorem dX6_hasTugs_30 : decode cX6_hasTugs 30 = .ok (.istore 5, 2) := by decide +kernel
theorem dX6_hasTugs_32 : decode cX6_hasTugs 32 = .ok (.iload 5, 2) := by decide +kernel
theorem dX6_hasTugs_34 : decode cX6_hasTugs 34 = .ok (.aload_n 0, 1) := by decide +kernel
theorem dX6_hasTugs_35 : decode cX6_hasTugs 35 = .ok (.getfield 29, 3) := by decide +kernel
theorem dX6_hasTugs_38 : decode cX6_hasTugs 38 = .ok (.invokevirtual 76, 3) := by decide +kernel
theorem dX6_hasTugs_41 : decode cX6_hasTugs 41 = .ok (.if_icmp .ge 54, 3) := by decide +kernel
theorem dX6_hasTugs_44 : decode cX6_hasTugs 44 = .ok (.aload_n 0, 1) := by decide +kernel
theorem dX6_hasTugs_45 : decode cX6_hasTugs 45 = .ok (.getfield 29, 3) := by decide +kernel
theorem dX6_hasTugs_48 : decode cX6_hasTugs 48 = .ok (.iload 5, 2) := by decide +kernel
theorem dX6_hasTugs_50 : decode cX6_hasTugs 50 = .ok (.invokevirtual 96, 3) := by decide +kernel
theorem dX6_hasTugs_53 : decode cX6_hasTugs 53 = .ok (.checkcast 134, 3) := by decide +kernel
theorem dX6_hasTugs_56 : decode cX6_hasTugs 56 = .ok (.invokevirtual 288, 3) := by decide +kernel
theorem dX6_hasTugs_59 : decode cX6_hasTugs 59 = .ok (.istore 6, 2) := by decide +kernel
theorem dX6_hasTugs_61 : decode cX6_hasTugs 61 = .ok (.iload 6, 2) := by decide +kernel
theorem dX6_hasTugs_63 : decode cX6_hasTugs 63 = .ok (.iload_n 3, 1) := by decide +kernel
theorem dX6_hasTugs_64 : decode cX6_hasTugs 64 = .ok (.if_icmp .le 25, 3) := by decide +kernel
theorem dX6_hasTugs_67 : decode cX6_hasTugs 67 = .ok (.iload 6, 2) := by decide +kernel
theorem dX6_hasTugs_69 : decode cX6_hasTugs 69 = .ok (.iload_n 3, 1) := by decide +kernel
theorem dX6_hasTugs_70 : decode cX6_hasTugs 70 = .ok (.bipush 40, 2) := by decide +kernel
theorem dX6_hasTugs_72 : decode cX6_hasTugs 72 = .ok (.iadd, 1) := by decide +kernel
theorem dX6_hasTugs_73 : decode cX6_hasTugs 73 = .ok (.if_icmp .ge 16, 3) := by decide +kernel
theorem dX6_hasTugs_76 : decode cX6_hasTugs 76 = .ok (.aload_n 0, 1) := by decide +kernel
theorem dX6_hasTugs_77 : decode cX6_hasTugs 77 = .ok (.iload 6, 2) := by decide +kernel
theorem dX6_hasTugs_79 : decode cX6_hasTugs 79 = .ok (.invokevirtual 218, 3) := by decide +kernel
theorem dX6_hasTugs_82 : decode cX6_hasTugs 82 = .ok (.iload 4, 2) := by decide +kernel
theorem dX6_hasTugs_84 : decode cX6_hasTugs 84 = .ok (.if_icmp .le 5, 3) := by decide +kernel
theorem dX6_hasTugs_87 : decode cX6_hasTugs 87 = .ok (.iconst 0, 1) := by decide +kernel
theorem dX6_hasTugs_88 : decode cX6_hasTugs 88 = .ok (.ireturn, 1) := by decide +kernel
theorem dX6_hasTugs_89 : decode cX6_hasTugs 89 = .ok (.iinc 5 1, 3) := by decide +kernel
theorem dX6_hasTugs_92 : decode cX6_hasTugs 92 = .ok (.goto (-60), 3) := by decide +kernel
theorem dX6_hasTugs_95 : decode cX6_hasTugs 95 = .ok (.iconst 1, 1) := by decide +kernel
theorem dX6_hasTugs_96 : decode cX6_hasTugs 96 = .ok (.ireturn, 1) := by decide +kernel
set_option maxRecDepth 20000 in
theorem ggX6_tugsInUse_Jx4a65c_size_8abf5 : GoodIn wsX6_tugsInUse wsJx4a65c_size_8abf5 := goodIn_r _ [7, 8, 58, 59, 60] (by decide +kernel) (by decide +kernel)
set_option maxRecDepth 20000 in
theorem gX6_tugsInUse_Jx4a65c_size_8abf5 : GoodIn wsX6_tugsInUse (wsV RX6 76 RJx4a65c yJx4a65c_size_8abf5 wsJx4a65c_size_8abf5) := goodIn_app (goodIn_of _ (by decide +kernel)) ggX6_tugsInUse_Jx4a65c_size_8abf5
set_option maxRecDepth 20000 in
theorem ggX6_tugsInUse_Jx4a65c_get_915e3 : GoodIn wsX6_tugsInUse wsJx4a65c_get_915e3 := goodIn_r _ [12, 8, 13, 14, 15, 16, 17, 18, 19, 20, 21, 22, 23, 6, 24, 25, 58, 59, 60] (by decide +kernel) (by decide +kernel)
set_option maxRecDepth 20000 in
theorem gX6_tugsInUse_Jx4a65c_get_915e3 : GoodIn wsX6_tugsInUse (wsV RX6 96 RJx4a65c yJx4a65c_get_915e3 wsJx4a65c_get_915e3) := goodIn_app (goodIn_of _ (by decide +kernel)) ggX6_tugsInUse_Jx4a65c_get_915e3
set_option maxRecDepth 20000 in
theorem ggX6_tugsInUse_X1_tugsFrom : GoodIn wsX6_tugsInUse wsX1_tugsFrom := goodIn_r _ [30, 31, 32, 33, 34, 35, 36, 37, 38, 47, 48, 49, 50, 51, 52, 53, 54, 55, 56, 57] (by decide +kernel) (by decide +kernel)
set_option maxRecDepth 20000 in
theorem gX6_tugsInUse_X1_tugsFrom : GoodIn wsX6_tugsInUse (wsV RX6 288 RX1 yX1_tugsFrom wsX1_tugsFrom) := goodIn_app (goodIn_of _ (by decide +kernel)) ggX6_tugsInUse_X1_tugsFrom
theorem dX6_tugsInUse_0 : decode cX6_tugsInUse 0 = .ok (.iconst 0, 1) := by decide +kernel
theorem dX6_tugsInUse_1 : decode cX6_tugsInUse 1 = .ok (.istore_n 2, 1) := by decide +kernel
theorem dX6_tugsInUse_2 : decode cX6_tugsInUse 2 = .ok (.iconst 0, 1) := by decide +kernel
theorem dX6_tugsInUse_3 : decode cX6_tugsInUse 3 = .ok (.istore_n 3, 1) := by decide +kernel
theorem dX6_tugsInUse_4 : decode cX6_tugsInUse 4 = .ok (.iload_n 3, 1) := by decide +kernel
theorem dX6_tugsInUse_5 : decode cX6_tugsInUse 5 = .ok (.aload_n 0, 1) := by decide +kernel
theorem dX6_tugsInUse_6 : decode cX6_tugsInUse 6 = .ok (.getfield 29, 3) := by decide +kernel
theorem dX6_tugsInUse_9 : decode cX6_tugsInUse 9 = .ok (.invokevirtual 76, 3) := by decide +kernel
theorem dX6_tugsInUse_12 : decode cX6_tugsInUse 12 = .ok (.if_icmp .ge 55, 3) := by decide +kernel
theorem dX6_tugsInUse_15 : decode cX6_tugsInUse 15 = .ok (.aload_n 0, 1) := by decide +kernel
theorem dX6_tugsInUse_16 : decode cX6_tugsInUse 16 = .ok (.getfield 29, 3) := by decide +kernel
theorem dX6_tugsInUse_19 : decode cX6_tugsInUse 19 = .ok (.iload_n 3, 1) := by decide +kernel
theorem dX6_tugsInUse_20 : decode cX6_tugsInUse 20 = .ok (.invokevirtual 96, 3) := by decide +kernel
theorem dX6_tugsInUse_23 : decode cX6_tugsInUse 23 = .ok (.checkcast 134, 3) := by decide +kernel
theorem dX6_tugsInUse_26 : decode cX6_tugsInUse 26 = .ok (.astore 4, 2) := by decide +kernel
theorem dX6_tugsInUse_28 : decode cX6_tugsInUse 28 = .ok (.aload 4, 2) := by decide +kernel
theorem dX6_tugsInUse_30 : decode cX6_tugsInUse 30 = .ok (.invokevirtual 288, 3) := by decide +kernel
theorem dX6_tugsInUse_33 : decode cX6_tugsInUse 33 = .ok (.istore 5, 2) := by decide +kernel
theorem dX6_tugsInUse_35 : decode cX6_tugsInUse 35 = .ok (.iload_n 1, 1) := by decide +kernel
theorem dX6_tugsInUse_36 : decode cX6_tugsInUse 36 = .ok (.iload 5, 2) := by decide +kernel
theorem dX6_tugsInUse_38 : decode cX6_tugsInUse 38 = .ok (.if_icmp .lt 23, 3) := by decide +kernel
theorem dX6_tugsInUse_41 : decode cX6_tugsInUse 41 = .ok (.iload_n 1, 1) := by decide +kernel
theorem dX6_tugsInUse_42 : decode cX6_tugsInUse 42 = .ok (.iload 5, 2) := by decide +kernel
theorem dX6_tugsInUse_44 : decode cX6_tugsInUse 44 = .ok (.bipush 40, 2) := by decide +kernel
theorem dX6_tugsInUse_46 : decode cX6_tugsInUse 46 = .ok (.iadd, 1) := by decide +kernel
theorem dX6_tugsInUse_47 : decode cX6_tugsInUse 47 = .ok (.if_icmp .ge 14, 3) := by decide +kernel
theorem dX6_tugsInUse_50 : decode cX6_tugsInUse 50 = .ok (.iload_n 2, 1) := by decide +kernel
theorem dX6_tugsInUse_51 : decode cX6_tugsInUse 51 = .ok (.aload 4, 2) := by decide +kernel
theorem dX6_tugsInUse_53 : decode cX6_tugsInUse 53 = .ok (.getfield 133, 3) := by decide +kernel
theorem dX6_tugsInUse_56 : decode cX6_tugsInUse 56 = .ok (.getfield 207, 3) := by decide +kernel
theorem dX6_tugsInUse_59 : decode cX6_tugsInUse 59 = .ok (.iadd, 1) := by decide +kernel
theorem dX6_tugsInUse_60 : decode cX6_tugsInUse 60 = .ok (.istore_n 2, 1) := by decide +kernel
theorem dX6_tugsInUse_61 : decode cX6_tugsInUse 61 = .ok (.iinc 3 1, 3) := by decide +kernel
theorem dX6_tugsInUse_64 : decode cX6_tugsInUse 64 = .ok (.goto (-60), 3) := by decide +kernel
theorem dX6_tugsInUse_67 : decode cX6_tugsInUse 67 = .ok (.iload_n 2, 1) := by decide +kernel
theorem dX6_tugsInUse_68 : decode cX6_tugsInUse 68 = .ok (.ireturn, 1) := by decide +kernel
set_option maxRecDepth 20000 in
theorem ggX6_pilotFor_Jx4a65c_size_8abf5 : GoodIn wsX6_pilotFor wsJx4a65c_size_8abf5 := goodIn_r _ [7, 8, 56, 57, 58] (by decide +kernel) (by decide +kernel)
set_option maxRecDepth 20000 in
theorem gX6_pilotFor_Jx4a65c_size_8abf5 : GoodIn wsX6_pilotFor (wsV RX6 76 RJx4a65c yJx4a65c_size_8abf5 wsJx4a65c_size_8abf5) := goodIn_app (goodIn_of _ (by decide +kernel)) ggX6_pilotFor_Jx4a65c_size_8abf5
set_option maxRecDepth 20000 in
theorem ggX6_pilotFor_Jx4a65c_get_915e3 : GoodIn wsX6_pilotFor wsJx4a65c_get_915e3 := goodIn_r _ [12, 8, 13, 14, 15, 16, 17, 18, 19, 20, 21, 22, 23, 6, 24, 25, 56, 57, 58] (by decide +kernel) (by decide +kernel)
set_option maxRecDepth 20000 in
theorem gX6_pilotFor_Jx4a65c_get_915e3 : GoodIn wsX6_pilotFor (wsV RX6 96 RJx4a65c yJx4a65c_get_915e3 wsJx4a65c_get_915e3) := goodIn_app (goodIn_of _ (by decide +kernel)) ggX6_pilotFor_Jx4a65c_get_915e3
set_option maxRecDepth 20000 in
theorem ggX6_pilotFor_X2_canTake : GoodIn wsX6_pilotFor wsX2_canTake := goodIn_r _ [30, 31, 32, 33, 34, 35, 29, 36, 37, 38, 39, 40, 41, 42, 43, 59, 60, 61, 62, 63, 64, 65, 66, 67, 68, 69, 70, 71, 72, 73, 74, 75, 76, 77] (by decide +kernel) (by decide +kernel)
set_option maxRecDepth 20000 in
theorem gX6_pilotFor_X2_canTake : GoodIn wsX6_pilotFor (wsV RX6 290 RX2 yX2_canTake wsX2_canTake) := goodIn_app (goodIn_of _ (by decide +kernel)) ggX6_pilotFor_X2_canTake
set_option maxRecDepth 20000 in
theorem ggX6_pilotFor_X2_latestEnd : GoodIn wsX6_pilotFor wsX2_latestEnd := goodIn_r _ [47, 32, 38, 39, 40, 41, 42, 43, 59, 60, 61, 62, 71, 72, 73, 74, 75, 76, 77] (by decide +kernel) (by decide +kernel)
set_option maxRecDepth 20000 in
theorem gX6_pilotFor_X2_latestEnd : GoodIn wsX6_pilotFor (wsV RX6 293 RX2 yX2_latestEnd wsX2_latestEnd) := goodIn_app (goodIn_of _ (by decide +kernel)) ggX6_pilotFor_X2_latestEnd
theorem dX6_pilotFor_0 : decode cX6_pilotFor 0 = .ok (.aconst_null, 1) := by decide +kernel
theorem dX6_pilotFor_1 : decode cX6_pilotFor 1 = .ok (.astore_n 3, 1) := by decide +kernel
theorem dX6_pilotFor_2 : decode cX6_pilotFor 2 = .ok (.iconst 0, 1) := by decide +kernel
theorem dX6_pilotFor_3 : decode cX6_pilotFor 3 = .ok (.istore 4, 2) := by decide +kernel
theorem dX6_pilotFor_5 : decode cX6_pilotFor 5 = .ok (.iload 4, 2) := by decide +kernel
theorem dX6_pilotFor_7 : decode cX6_pilotFor 7 = .ok (.aload_n 0, 1) := by decide +kernel
theorem dX6_pilotFor_8 : decode cX6_pilotFor 8 = .ok (.getfield 26, 3) := by decide +kernel
theorem dX6_pilotFor_11 : decode cX6_pilotFor 11 = .ok (.invokevirtual 76, 3) := by decide +kernel
theorem dX6_pilotFor_14 : decode cX6_pilotFor 14 = .ok (.if_icmp .ge 52, 3) := by decide +kernel
theorem dX6_pilotFor_17 : decode cX6_pilotFor 17 = .ok (.aload_n 0, 1) := by decide +kernel
theorem dX6_pilotFor_18 : decode cX6_pilotFor 18 = .ok (.getfield 26, 3) := by decide +kernel
theorem dX6_pilotFor_21 : decode cX6_pilotFor 21 = .ok (.iload 4, 2) := by decide +kernel
theorem dX6_pilotFor_23 : decode cX6_pilotFor 23 = .ok (.invokevirtual 96, 3) := by decide +kernel
theorem dX6_pilotFor_26 : decode cX6_pilotFor 26 = .ok (.checkcast 103, 3) := by decide +kernel
theorem dX6_pilotFor_29 : decode cX6_pilotFor 29 = .ok (.astore 5, 2) := by decide +kernel
theorem dX6_pilotFor_31 : decode cX6_pilotFor 31 = .ok (.aload 5, 2) := by decide +kernel
theorem dX6_pilotFor_33 : decode cX6_pilotFor 33 = .ok (.aload_n 1, 1) := by decide +kernel
theorem dX6_pilotFor_34 : decode cX6_pilotFor 34 = .ok (.iload_n 2, 1) := by decide +kernel
theorem dX6_pilotFor_35 : decode cX6_pilotFor 35 = .ok (.invokevirtual 290, 3) := by decide +kernel
theorem dX6_pilotFor_38 : decode cX6_pilotFor 38 = .ok (.ifCond .eq 22, 3) := by decide +kernel
theorem dX6_pilotFor_41 : decode cX6_pilotFor 41 = .ok (.aload_n 3, 1) := by decide +kernel
theorem dX6_pilotFor_42 : decode cX6_pilotFor 42 = .ok (.ifnull 15, 3) := by decide +kernel
theorem dX6_pilotFor_45 : decode cX6_pilotFor 45 = .ok (.aload 5, 2) := by decide +kernel
theorem dX6_pilotFor_47 : decode cX6_pilotFor 47 = .ok (.invokevirtual 293, 3) := by decide +kernel
theorem dX6_pilotFor_50 : decode cX6_pilotFor 50 = .ok (.aload_n 3, 1) := by decide +kernel
theorem dX6_pilotFor_51 : decode cX6_pilotFor 51 = .ok (.invokevirtual 293, 3) := by decide +kernel
theorem dX6_pilotFor_54 : decode cX6_pilotFor 54 = .ok (.if_icmp .ge 6, 3) := by decide +kernel
theorem dX6_pilotFor_57 : decode cX6_pilotFor 57 = .ok (.aload 5, 2) := by decide +kernel
theorem dX6_pilotFor_59 : decode cX6_pilotFor 59 = .ok (.astore_n 3, 1) := by decide +kernel
theorem dX6_pilotFor_60 : decode cX6_pilotFor 60 = .ok (.iinc 4 1, 3) := by decide +kernel
theorem dX6_pilotFor_63 : decode cX6_pilotFor 63 = .ok (.goto (-58), 3) := by decide +kernel
theorem dX6_pilotFor_66 : decode cX6_pilotFor 66 = .ok (.aload_n 3, 1) := by decide +kernel
theorem dX6_pilotFor_67 : decode cX6_pilotFor 67 = .ok (.areturn, 1) := by decide +kernel
set_option maxRecDepth 20000 in
theorem ggX6_enter_Jx4a65c_add_9ea2d : GoodIn wsX6_enter wsJx4a65c_add_9ea2d := goodIn_r _ [6, 7, 8, 9, 10, 11, 12, 13, 5, 14, 15, 16, 17, 18, 19, 20, 21, 22, 23, 24, 25, 26, 27, 28, 29, 30, 31, 32, 33, 34, 35, 36, 37, 38, 39, 40, 41, 42, 43, 44, 45, 46, 47, 48, 49, 50, 51, 52, 53, 54, 55, 56, 57, 91, 92, 93] (by decide +kernel) (by decide +kernel)
set_option maxRecDepth 20000 in
theorem gX6_enter_Jx4a65c_add_9ea2d : GoodIn wsX6_enter (wsV RX6 86 RJx4a65c yJx4a65c_add_9ea2d wsJx4a65c_add_9ea2d) := goodIn_app (goodIn_of _ (by decide +kernel)) ggX6_enter_Jx4a65c_add_9ea2d
set_option maxRecDepth 20000 in
theorem ggX6_enter_X1_end : GoodIn wsX6_enter wsX1_end := goodIn_r _ [62, 63, 72, 73, 74, 75, 76, 77, 78] (by decide +kernel) (by decide +kernel)
set_option maxRecDepth 20000 in
theorem gX6_enter_X1_end : GoodIn wsX6_enter (wsV RX6 150 RX1 yX1_end wsX1_end) := goodIn_app (goodIn_of _ (by decide +kernel)) ggX6_enter_X1_end
theorem dX6_enter_0 : decode cX6_enter 0 = .ok (.aload_n 0, 1) := by decide +kernel
theorem dX6_enter_1 : decode cX6_enter 1 = .ok (.getfield 29, 3) := by decide +kernel
theorem dX6_enter_4 : decode cX6_enter 4 = .ok (.aload_n 1, 1) := by decide +kernel
theorem dX6_enter_5 : decode cX6_enter 5 = .ok (.invokevirtual 86, 3) := by decide +kernel
theorem dX6_enter_8 : decode cX6_enter 8 = .ok (.pop, 1) := by decide +kernel
theorem dX6_enter_9 : decode cX6_enter 9 = .ok (.aload_n 1, 1) := by decide +kernel
theorem dX6_enter_10 : decode cX6_enter 10 = .ok (.getfield 133, 3) := by decide +kernel
theorem dX6_enter_13 : decode cX6_enter 13 = .ok (.getfield 139, 3) := by decide +kernel
theorem dX6_enter_16 : decode cX6_enter 16 = .ok (.ifCond .eq 21, 3) := by decide +kernel
theorem dX6_enter_19 : decode cX6_enter 19 = .ok (.aload_n 1, 1) := by decide +kernel
theorem dX6_enter_20 : decode cX6_enter 20 = .ok (.getfield 145, 3) := by decide +kernel
theorem dX6_enter_23 : decode cX6_enter 23 = .ok (.ifnull 14, 3) := by decide +kernel
theorem dX6_enter_26 : decode cX6_enter 26 = .ok (.aload_n 1, 1) := by decide +kernel
theorem dX6_enter_27 : decode cX6_enter 27 = .ok (.getfield 145, 3) := by decide +kernel
theorem dX6_enter_30 : decode cX6_enter 30 = .ok (.aload_n 1, 1) := by decide +kernel
theorem dX6_enter_31 : decode cX6_enter 31 = .ok (.invokevirtual 150, 3) := by decide +kernel
theorem dX6_enter_34 : decode cX6_enter 34 = .ok (.putfield 200, 3) := by decide +kernel
theorem dX6_enter_37 : decode cX6_enter 37 = .ok (.aload_n 1, 1) := by decide +kernel
theorem dX6_enter_38 : decode cX6_enter 38 = .ok (.getfield 133, 3) := by decide +kernel
theorem dX6_enter_41 : decode cX6_enter 41 = .ok (.getfield 188, 3) := by decide +kernel
theorem dX6_enter_44 : decode cX6_enter 44 = .ok (.aload_n 1, 1) := by decide +kernel
theorem dX6_enter_45 : decode cX6_enter 45 = .ok (.putfield 129, 3) := by decide +kernel
theorem dX6_enter_48 : decode cX6_enter 48 = .ok (.aload_n 1, 1) := by decide +kernel
theorem dX6_enter_49 : decode cX6_enter 49 = .ok (.getfield 192, 3) := by decide +kernel
theorem dX6_enter_52 : decode cX6_enter 52 = .ok (.aload_n 1, 1) := by decide +kernel
theorem dX6_enter_53 : decode cX6_enter 53 = .ok (.putfield 199, 3) := by decide +kernel
theorem dX6_enter_56 : decode cX6_enter 56 = .ok (.return_, 1) := by decide +kernel
theorem dX7_init_0 : decode cX7_init 0 = .ok (.aload_n 0, 1) := by decide +kernel
theorem dX7_init_1 : decode cX7_init 1 = .ok (.invokespecial 1, 3) := by decide +kernel
theorem dX7_init_4 : decode cX7_init 4 = .ok (.aload_n 0, 1) := by decide +kernel
theorem dX7_init_5 : decode cX7_init 5 = .ok (.bipush 30, 2) := by decide +kernel
theorem dX7_init_7 : decode cX7_init 7 = .ok (.newarray .int, 2) := by decide +kernel
theorem dX7_init_9 : decode cX7_init 9 = .ok (.putfield 9, 3) := by decide +kernel
theorem dX7_init_12 : decode cX7_init 12 = .ok (.aload_n 0, 1) := by decide +kernel
theorem dX7_init_13 : decode cX7_init 13 = .ok (.bipush 30, 2) := by decide +kernel
theorem dX7_init_15 : decode cX7_init 15 = .ok (.newarray .int, 2) := by decide +kernel
theorem dX7_init_17 : decode cX7_init 17 = .ok (.putfield 13, 3) := by decide +kernel
theorem dX7_init_20 : decode cX7_init 20 = .ok (.aload_n 0, 1) := by decide +kernel
theorem dX7_init_21 : decode cX7_init 21 = .ok (.sipush 1000, 3) := by decide +kernel
theorem dX7_init_24 : decode cX7_init 24 = .ok (.putfield 16, 3) := by decide +kernel
theorem dX7_init_27 : decode cX7_init 27 = .ok (.aload_n 0, 1) := by decide +kernel
theorem dX7_init_28 : decode cX7_init 28 = .ok (.bipush 50, 2) := by decide +kernel
theorem dX7_init_30 : decode cX7_init 30 = .ok (.putfield 20, 3) := by decide +kernel
theorem dX7_init_33 : decode cX7_init 33 = .ok (.aload_n 0, 1) := by decide +kernel
theorem dX7_init_34 : decode cX7_init 34 = .ok (.bipush 6, 2) := by decide +kernel
theorem dX7_init_36 : decode cX7_init 36 = .ok (.newarray .int, 2) := by decide +kernel
theorem dX7_init_38 : decode cX7_init 38 = .ok (.putfield 23, 3) := by decide +kernel
theorem dX7_init_41 : decode cX7_init 41 = .ok (.aload_n 0, 1) := by decide +kernel
theorem dX7_init_42 : decode cX7_init 42 = .ok (.bipush 6, 2) := by decide +kernel
theorem dX7_init_44 : decode cX7_init 44 = .ok (.newarray .int, 2) := by decide +kernel
theorem dX7_init_46 : decode cX7_init 46 = .ok (.putfield 26, 3) := by decide +kernel
theorem dX7_init_49 : decode cX7_init 49 = .ok (.aload_n 0, 1) := by decide +kernel
theorem dX7_init_50 : decode cX7_init 50 = .ok (.bipush 16, 2) := by decide +kernel
theorem dX7_init_52 : decode cX7_init 52 = .ok (.newarray .int, 2) := by decide +kernel
theorem dX7_init_54 : decode cX7_init 54 = .ok (.putfield 29, 3) := by decide +kernel
theorem dX7_init_57 : decode cX7_init 57 = .ok (.aload_n 0, 1) := by decide +kernel
theorem dX7_init_58 : decode cX7_init 58 = .ok (.bipush 16, 2) := by decide +kernel
theorem dX7_init_60 : decode cX7_init 60 = .ok (.newarray .int, 2) := by decide +kernel
theorem dX7_init_62 : decode cX7_init 62 = .ok (.putfield 32, 3) := by decide +kernel
theorem dX7_init_65 : decode cX7_init 65 = .ok (.aload_n 0, 1) := by decide +kernel
theorem dX7_init_66 : decode cX7_init 66 = .ok (.bipush 6, 2) := by decide +kernel
theorem dX7_init_68 : decode cX7_init 68 = .ok (.newarray .int, 2) := by decide +kernel
theorem dX7_init_70 : decode cX7_init 70 = .ok (.putfield 35, 3) := by decide +kernel
theorem dX7_init_73 : decode cX7_init 73 = .ok (.aload_n 0, 1) := by decide +kernel
theorem dX7_init_74 : decode cX7_init 74 = .ok (.bipush 6, 2) := by decide +kernel
theorem dX7_init_76 : decode cX7_init 76 = .ok (.newarray .boolean, 2) := by decide +kernel
theorem dX7_init_78 : decode cX7_init 78 = .ok (.putfield 38, 3) := by decide +kernel
theorem dX7_init_81 : decode cX7_init 81 = .ok (.aload_n 0, 1) := by decide +kernel
theorem dX7_init_82 : decode cX7_init 82 = .ok (.iconst 4, 1) := by decide +kernel
theorem dX7_init_83 : decode cX7_init 83 = .ok (.putfield 42, 3) := by decide +kernel
theorem dX7_init_86 : decode cX7_init 86 = .ok (.aload_n 0, 1) := by decide +kernel
theorem dX7_init_87 : decode cX7_init 87 = .ok (.sipush 280, 3) := by decide +kernel
theorem dX7_init_90 : decode cX7_init 90 = .ok (.newarray .int, 2) := by decide +kernel
theorem dX7_init_92 : decode cX7_init 92 = .ok (.putfield 45, 3) := by decide +kernel
theorem dX7_init_95 : decode cX7_init 95 = .ok (.return_, 1) := by decide +kernel
theorem dX7_thrown_0 : decode cX7_thrown 0 = .ok (.aload_n 0, 1) := by decide +kernel
theorem dX7_thrown_1 : decode cX7_thrown 1 = .ok (.getfield 48, 3) := by decide +kernel
theorem dX7_thrown_4 : decode cX7_thrown 4 = .ok (.ireturn, 1) := by decide +kernel
theorem dX7_fail_0 : decode cX7_fail 0 = .ok (.aload_n 0, 1) := by decide +kernel
theorem dX7_fail_1 : decode cX7_fail 1 = .ok (.iload_n 1, 1) := by decide +kernel
theorem dX7_fail_2 : decode cX7_fail 2 = .ok (.putfield 48, 3) := by decide +kernel
theorem dX7_fail_5 : decode cX7_fail 5 = .ok (.iconst 0, 1) := by decide +kernel
theorem dX7_fail_6 : decode cX7_fail 6 = .ok (.ireturn, 1) := by decide +kernel
theorem dX7_isIn_0 : decode cX7_isIn 0 = .ok (.iload_n 0, 1) := by decide +kernel
theorem dX7_isIn_1 : decode cX7_isIn 1 = .ok (.iload_n 1, 1) := by decide +kernel
theorem dX7_isIn_2 : decode cX7_isIn 2 = .ok (.if_icmp .lt 12, 3) := by decide +kernel
theorem dX7_isIn_5 : decode cX7_isIn 5 = .ok (.iload_n 0, 1) := by decide +kernel
theorem dX7_isIn_6 : decode cX7_isIn 6 = .ok (.iload_n 2, 1) := by decide +kernel
theorem dX7_isIn_7 : decode cX7_isIn 7 = .ok (.if_icmp .gt 7, 3) := by decide +kernel
theorem dX7_isIn_10 : decode cX7_isIn 10 = .ok (.iconst 1, 1) := by decide +kernel
theorem dX7_isIn_11 : decode cX7_isIn 11 = .ok (.goto 4, 3) := by decide +kernel
theorem dX7_isIn_14 : decode cX7_isIn 14 = .ok (.iconst 0, 1) := by decide +kernel
theorem dX7_isIn_15 : decode cX7_isIn 15 = .ok (.ireturn, 1) := by decide +kernel
set_option maxRecDepth 20000 in
theorem ggX7_isTime_X7_isIn : GoodIn wsX7_isTime wsX7_isIn := goodIn_r _ [4] (by decide +kernel) (by decide +kernel)
set_option maxRecDepth 20000 in
theorem gX7_isTime_X7_isIn : GoodIn wsX7_isTime (va_wsS RX7 51 yX7_isIn wsX7_isIn) := goodIn_app (goodIn_of _ (by decide +kernel)) ggX7_isTime_X7_isIn
theorem dX7_isTime_0 : decode cX7_isTime 0 = .ok (.iload_n 0, 1) := by decide +kernel
theorem dX7_isTime_1 : decode cX7_isTime 1 = .ok (.iconst 0, 1) := by decide +kernel
theorem dX7_isTime_2 : decode cX7_isTime 2 = .ok (.sipush 2879, 3) := by decide +kernel
theorem dX7_isTime_5 : decode cX7_isTime 5 = .ok (.invokestatic 51, 3) := by decide +kernel
theorem dX7_isTime_8 : decode cX7_isTime 8 = .ok (.ireturn, 1) := by decide +kernel
set_option maxRecDepth 20000 in
theorem ggX7_isShip_X7_isIn : GoodIn wsX7_isShip wsX7_isIn := goodIn_r _ [5] (by decide +kernel) (by decide +kernel)
set_option maxRecDepth 20000 in
theorem gX7_isShip_X7_isIn : GoodIn wsX7_isShip (va_wsS RX7 51 yX7_isIn wsX7_isIn) := goodIn_app (goodIn_of _ (by decide +kernel)) ggX7_isShip_X7_isIn
theorem dX7_isShip_0 : decode cX7_isShip 0 = .ok (.iload_n 1, 1) := by decide +kernel
theorem dX7_isShip_1 : decode cX7_isShip 1 = .ok (.iconst 0, 1) := by decide +kernel
theorem dX7_isShip_2 : decode cX7_isShip 2 = .ok (.aload_n 0, 1) := by decide +kernel
theorem dX7_isShip_3 : decode cX7_isShip 3 = .ok (.getfield 55, 3) := by decide +kernel
theorem dX7_isShip_6 : decode cX7_isShip 6 = .ok (.iconst 1, 1) := by decide +kernel
theorem dX7_isShip_7 : decode cX7_isShip 7 = .ok (.isub, 1) := by decide +kernel
theorem dX7_isShip_8 : decode cX7_isShip 8 = .ok (.invokestatic 51, 3) := by decide +kernel
theorem dX7_isShip_11 : decode cX7_isShip 11 = .ok (.ireturn, 1) := by decide +kernel
set_option maxRecDepth 20000 in
theorem ggX7_isBerth_X7_isIn : GoodIn wsX7_isBerth wsX7_isIn := goodIn_r _ [5] (by decide +kernel) (by decide +kernel)
set_option maxRecDepth 20000 in
theorem gX7_isBerth_X7_isIn : GoodIn wsX7_isBerth (va_wsS RX7 51 yX7_isIn wsX7_isIn) := goodIn_app (goodIn_of _ (by decide +kernel)) ggX7_isBerth_X7_isIn
theorem dX7_isBerth_0 : decode cX7_isBerth 0 = .ok (.iload_n 1, 1) := by decide +kernel
theorem dX7_isBerth_1 : decode cX7_isBerth 1 = .ok (.iconst 0, 1) := by decide +kernel
theorem dX7_isBerth_2 : decode cX7_isBerth 2 = .ok (.aload_n 0, 1) := by decide +kernel
theorem dX7_isBerth_3 : decode cX7_isBerth 3 = .ok (.getfield 58, 3) := by decide +kernel
theorem dX7_isBerth_6 : decode cX7_isBerth 6 = .ok (.iconst 1, 1) := by decide +kernel
theorem dX7_isBerth_7 : decode cX7_isBerth 7 = .ok (.isub, 1) := by decide +kernel
theorem dX7_isBerth_8 : decode cX7_isBerth 8 = .ok (.invokestatic 51, 3) := by decide +kernel
theorem dX7_isBerth_11 : decode cX7_isBerth 11 = .ok (.ireturn, 1) := by decide +kernel
set_option maxRecDepth 20000 in
theorem ggX7_addTide_X7_isTime : GoodIn wsX7_addTide wsX7_isTime := goodIn_r _ [9, 10, 11, 8, 12] (by decide +kernel) (by decide +kernel)
set_option maxRecDepth 20000 in
theorem gX7_addTide_X7_isTime : GoodIn wsX7_addTide (va_wsS RX7 61 yX7_isTime wsX7_isTime) := goodIn_app (goodIn_of _ (by decide +kernel)) ggX7_addTide_X7_isTime
set_option maxRecDepth 20000 in
theorem ggX7_addTide_X7_isIn : GoodIn wsX7_addTide wsX7_isIn := goodIn_r _ [12] (by decide +kernel) (by decide +kernel)
set_option maxRecDepth 20000 in
theorem gX7_addTide_X7_isIn : GoodIn wsX7_addTide (va_wsS RX7 51 yX7_isIn wsX7_isIn) := goodIn_app (goodIn_of _ (by decide +kernel)) ggX7_addTide_X7_isIn
set_option maxRecDepth 20000 in
theorem ggX7_addTide_X7_fail : GoodIn wsX7_addTide wsX7_fail := goodIn_r _ [16, 1, 17, 18, 19, 20, 21, 22, 23, 24, 25, 26, 27, 28, 29, 30, 31, 32, 33, 34] (by decide +kernel) (by decide +kernel)
set_option maxRecDepth 20000 in
theorem gX7_addTide_X7_fail : GoodIn wsX7_addTide (wsV RX7 65 RX7 yX7_fail wsX7_fail) := goodIn_app (goodIn_of _ (by decide +kernel)) ggX7_addTide_X7_fail
theorem dX7_addTide_0 : decode cX7_addTide 0 = .ok (.aload_n 0, 1) := by decide +kernel
theorem dX7_addTide_1 : decode cX7_addTide 1 = .ok (.iconst 0, 1) := by decide +kernel
theorem dX7_addTide_2 : decode cX7_addTide 2 = .ok (.putfield 48, 3) := by decide +kernel
theorem dX7_addTide_5 : decode cX7_addTide 5 = .ok (.iload_n 1, 1) := by decide +kernel
theorem dX7_addTide_6 : decode cX7_addTide 6 = .ok (.invokestatic 61, 3) := by decide +kernel
theorem dX7_addTide_9 : decode cX7_addTide 9 = .ok (.ifCond .eq 16, 3) := by decide +kernel
theorem dX7_addTide_12 : decode cX7_addTide 12 = .ok (.iload_n 2, 1) := by decide +kernel
theorem dX7_addTide_13 : decode cX7_addTide 13 = .ok (.sipush (-300), 3) := by decide +kernel
theorem dX7_addTide_16 : decode cX7_addTide 16 = .ok (.sipush 900, 3) := by decide +kernel
theorem dX7_addTide_19 : decode cX7_addTide 19 = .ok (.invokestatic 51, 3) := by decide +kernel
theorem dX7_addTide_22 : decode cX7_addTide 22 = .ok (.ifCond .ne 9, 3) := by decide +kernel
theorem dX7_addTide_25 : decode cX7_addTide 25 = .ok (.aload_n 0, 1) := by decide +kernel
theorem dX7_addTide_26 : decode cX7_addTide 26 = .ok (.iconst 1, 1) := by decide +kernel
theorem dX7_addTide_27 : decode cX7_addTide 27 = .ok (.invokevirtual 65, 3) := by decide +kernel
theorem dX7_addTide_30 : decode cX7_addTide 30 = .ok (.ireturn, 1) := by decide +kernel
theorem dX7_addTide_31 : decode cX7_addTide 31 = .ok (.aload_n 0, 1) := by decide +kernel
theorem dX7_addTide_32 : decode cX7_addTide 32 = .ok (.getfield 69, 3) := by decide +kernel
theorem dX7_addTide_35 : decode cX7_addTide 35 = .ok (.bipush 30, 2) := by decide +kernel
theorem dX7_addTide_37 : decode cX7_addTide 37 = .ok (.if_icmp .eq 10, 3) := by decide +kernel
theorem dX7_addTide_40 : decode cX7_addTide 40 = .ok (.aload_n 0, 1) := by decide +kernel
theorem dX7_addTide_41 : decode cX7_addTide 41 = .ok (.getfield 72, 3) := by decide +kernel
theorem dX7_addTide_44 : decode cX7_addTide 44 = .ok (.ifCond .le 7, 3) := by decide +kernel
theorem dX7_addTide_47 : decode cX7_addTide 47 = .ok (.iconst 1, 1) := by decide +kernel
theorem dX7_addTide_48 : decode cX7_addTide 48 = .ok (.goto 4, 3) := by decide +kernel
theorem dX7_addTide_51 : decode cX7_addTide 51 = .ok (.iconst 0, 1) := by decide +kernel
theorem dX7_addTide_52 : decode cX7_addTide 52 = .ok (.istore_n 3, 1) := by decide +kernel
theorem dX7_addTide_53 : decode cX7_addTide 53 = .ok (.iconst 0, 1) := by decide +kernel
theorem dX7_addTide_54 : decode cX7_addTide 54 = .ok (.istore 4, 2) := by decide +kernel
theorem dX7_addTide_56 : decode cX7_addTide 56 = .ok (.iload 4, 2) := by decide +kernel
theorem dX7_addTide_58 : decode cX7_addTide 58 = .ok (.aload_n 0, 1) := by decide +kernel
theorem dX7_addTide_59 : decode cX7_addTide 59 = .ok (.getfield 69, 3) := by decide +kernel
theorem dX7_addTide_62 : decode cX7_addTide 62 = .ok (.if_icmp .ge 30, 3) := by decide +kernel
theorem dX7_addTide_65 : decode cX7_addTide 65 = .ok (.iload_n 3, 1) := by decide +kernel
theorem dX7_addTide_66 : decode cX7_addTide 66 = .ok (.ifCond .ne 14, 3) := by decide +kernel
theorem dX7_addTide_69 : decode cX7_addTide 69 = .ok (.aload_n 0, 1) := by decide +kernel
theorem dX7_addTide_70 : decode cX7_addTide 70 = .ok (.getfield 9, 3) := by decide +kernel
theorem dX7_addTide_73 : decode cX7_addTide 73 = .ok (.iload 4, 2) := by decide +kernel
theorem dX7_addTide_75 : decode cX7_addTide 75 = .ok (.iaload, 1) := by decide +kernel
theorem dX7_addTide_76 : decode cX7_addTide 76 = .ok (.iload_n 1, 1) := by decide +kernel
theorem dX7_addTide_77 : decode cX7_addTide 77 = .ok (.if_icmp .ne 7, 3) := by decide +kernel
theorem dX7_addTide_80 : decode cX7_addTide 80 = .ok (.iconst 1, 1) := by decide +kernel
theorem dX7_addTide_81 : decode cX7_addTide 81 = .ok (.goto 4, 3) := by decide +kernel
theorem dX7_addTide_84 : decode cX7_addTide 84 = .ok (.iconst 0, 1) := by decide +kernel
theorem dX7_addTide_85 : decode cX7_addTide 85 = .ok (.istore_n 3, 1) := by decide +kernel
theorem dX7_addTide_86 : decode cX7_addTide 86 = .ok (.iinc 4 1, 3) := by decide +kernel
theorem dX7_addTide_89 : decode cX7_addTide 89 = .ok (.goto (-33), 3) := by decide +kernel
theorem dX7_addTide_92 : decode cX7_addTide 92 = .ok (.iload_n 3, 1) := by decide +kernel
theorem dX7_addTide_93 : decode cX7_addTide 93 = .ok (.ifCond .eq 9, 3) := by decide +kernel
theorem dX7_addTide_96 : decode cX7_addTide 96 = .ok (.aload_n 0, 1) := by decide +kernel
theorem dX7_addTide_97 : decode cX7_addTide 97 = .ok (.iconst 2, 1) := by decide +kernel
theorem dX7_addTide_98 : decode cX7_addTide 98 = .ok (.invokevirtual 65, 3) := by decide +kernel
theorem dX7_addTide_101 : decode cX7_addTide 101 = .ok (.ireturn, 1) := by decide +kernel
theorem dX7_addTide_102 : decode cX7_addTide 102 = .ok (.aload_n 0, 1) := by decide +kernel
theorem dX7_addTide_103 : decode cX7_addTide 103 = .ok (.getfield 69, 3) := by decide +kernel
theorem dX7_addTide_106 : decode cX7_addTide 106 = .ok (.istore 4, 2) := by decide +kernel
theorem dX7_addTide_108 : decode cX7_addTide 108 = .ok (.iload 4, 2) := by decide +kernel
theorem dX7_addTide_110 : decode cX7_addTide 110 = .ok (.ifCond .le 54, 3) := by decide +kernel
theorem dX7_addTide_113 : decode cX7_addTide 113 = .ok (.aload_n 0, 1) := by decide +kernel
theorem dX7_addTide_114 : decode cX7_addTide 114 = .ok (.getfield 9, 3) := by decide +kernel
theorem dX7_addTide_117 : decode cX7_addTide 117 = .ok (.iload 4, 2) := by decide +kernel
theorem dX7_addTide_119 : decode cX7_addTide 119 = .ok (.iconst 1, 1) := by decide +kernel
theorem dX7_addTide_120 : decode cX7_addTide 120 = .ok (.isub, 1) := by decide +kernel
theorem dX7_addTide_121 : decode cX7_addTide 121 = .ok (.iaload, 1) := by decide +kernel
theorem dX7_addTide_122 : decode cX7_addTide 122 = .ok (.iload_n 1, 1) := by decide +kernel
theorem dX7_addTide_123 : decode cX7_addTide 123 = .ok (.if_icmp .le 41, 3) := by decide +kernel
theorem dX7_addTide_126 : decode cX7_addTide 126 = .ok (.aload_n 0, 1) := by decide +kernel
theorem dX7_addTide_127 : decode cX7_addTide 127 = .ok (.getfield 9, 3) := by decide +kernel
theorem dX7_addTide_130 : decode cX7_addTide 130 = .ok (.iload 4, 2) := by decide +kernel
theorem dX7_addTide_132 : decode cX7_addTide 132 = .ok (.aload_n 0, 1) := by decide +kernel
theorem dX7_addTide_133 : decode cX7_addTide 133 = .ok (.getfield 9, 3) := by decide +kernel
theorem dX7_addTide_136 : decode cX7_addTide 136 = .ok (.iload 4, 2) := by decide +kernel
theorem dX7_addTide_138 : decode cX7_addTide 138 = .ok (.iconst 1, 1) := by decide +kernel
theorem dX7_addTide_139 : decode cX7_addTide 139 = .ok (.isub, 1) := by decide +kernel
theorem dX7_addTide_140 : decode cX7_addTide 140 = .ok (.iaload, 1) := by decide +kernel
theorem dX7_addTide_141 : decode cX7_addTide 141 = .ok (.iastore, 1) := by decide +kernel
theorem dX7_addTide_142 : decode cX7_addTide 142 = .ok (.aload_n 0, 1) := by decide +kernel
theorem dX7_addTide_143 : decode cX7_addTide 143 = .ok (.getfield 13, 3) := by decide +kernel
theorem dX7_addTide_146 : decode cX7_addTide 146 = .ok (.iload 4, 2) := by decide +kernel
theorem dX7_addTide_148 : decode cX7_addTide 148 = .ok (.aload_n 0, 1) := by decide +kernel
theorem dX7_addTide_149 : decode cX7_addTide 149 = .ok (.getfield 13, 3) := by decide +kernel
theorem dX7_addTide_152 : decode cX7_addTide 152 = .ok (.iload 4, 2) := by decide +kernel
theorem dX7_addTide_154 : decode cX7_addTide 154 = .ok (.iconst 1, 1) := by decide +kernel
theorem dX7_addTide_155 : decode cX7_addTide 155 = .ok (.isub, 1) := by decide +kernel
theorem dX7_addTide_156 : decode cX7_addTide 156 = .ok (.iaload, 1) := by decide +kernel
theorem dX7_addTide_157 : decode cX7_addTide 157 = .ok (.iastore, 1) := by decide +kernel
theorem dX7_addTide_158 : decode cX7_addTide 158 = .ok (.iinc 4 (-1), 3) := by decide +kernel
theorem dX7_addTide_161 : decode cX7_addTide 161 = .ok (.goto (-53), 3) := by decide +kernel
theorem dX7_addTide_164 : decode cX7_addTide 164 = .ok (.aload_n 0, 1) := by decide +kernel
theorem dX7_addTide_165 : decode cX7_addTide 165 = .ok (.getfield 9, 3) := by decide +kernel
theorem dX7_addTide_168 : decode cX7_addTide 168 = .ok (.iload 4, 2) := by decide +kernel
theorem dX7_addTide_170 : decode cX7_addTide 170 = .ok (.iload_n 1, 1) := by decide +kernel
theorem dX7_addTide_171 : decode cX7_addTide 171 = .ok (.iastore, 1) := by decide +kernel
theorem dX7_addTide_172 : decode cX7_addTide 172 = .ok (.aload_n 0, 1) := by decide +kernel
theorem dX7_addTide_173 : decode cX7_addTide 173 = .ok (.getfield 13, 3) := by decide +kernel
theorem dX7_addTide_176 : decode cX7_addTide 176 = .ok (.iload 4, 2) := by decide +kernel
theorem dX7_addTide_178 : decode cX7_addTide 178 = .ok (.iload_n 2, 1) := by decide +kernel
theorem dX7_addTide_179 : decode cX7_addTide 179 = .ok (.iastore, 1) := by decide +kernel
theorem dX7_addTide_180 : decode cX7_addTide 180 = .ok (.aload_n 0, 1) := by decide +kernel
theorem dX7_addTide_181 : decode cX7_addTide 181 = .ok (.dup, 1) := by decide +kernel
theorem dX7_addTide_182 : decode cX7_addTide 182 = .ok (.getfield 69, 3) := by decide +kernel
theorem dX7_addTide_185 : decode cX7_addTide 185 = .ok (.iconst 1, 1) := by decide +kernel
theorem dX7_addTide_186 : decode cX7_addTide 186 = .ok (.iadd, 1) := by decide +kernel
theorem dX7_addTide_187 : decode cX7_addTide 187 = .ok (.putfield 69, 3) := by decide +kernel
theorem dX7_addTide_190 : decode cX7_addTide 190 = .ok (.aload_n 0, 1) := by decide +kernel
theorem dX7_addTide_191 : decode cX7_addTide 191 = .ok (.getfield 69, 3) := by decide +kernel
theorem dX7_addTide_194 : decode cX7_addTide 194 = .ok (.ireturn, 1) := by decide +kernel
theorem dX7_heightAt_0 : decode cX7_heightAt 0 = .ok (.aload_n 0, 1) := by decide +kernel
theorem dX7_heightAt_1 : decode cX7_heightAt 1 = .ok (.getfield 69, 3) := by decide +kernel
theorem dX7_heightAt_4 : decode cX7_heightAt 4 = .ok (.ifCond .ne 5, 3) := by decide +kernel
theorem dX7_heightAt_7 : decode cX7_heightAt 7 = .ok (.iconst 0, 1) := by decide +kernel
theorem dX7_heightAt_8 : decode cX7_heightAt 8 = .ok (.ireturn, 1) := by decide +kernel
theorem dX7_heightAt_9 : decode cX7_heightAt 9 = .ok (.iconst 0, 1) := by decide +kernel
theorem dX7_heightAt_10 : decode cX7_heightAt 10 = .ok (.istore_n 2, 1) := by decide +kernel
theorem dX7_heightAt_11 : decode cX7_heightAt 11 = .ok (.iload_n 2, 1) := by decide +kernel
theorem dX7_heightAt_12 : decode cX7_heightAt 12 = .ok (.aload_n 0, 1) := by decide +kernel
theorem dX7_heightAt_13 : decode cX7_heightAt 13 = .ok (.getfield 69, 3) := by decide +kernel
theorem dX7_heightAt_16 : decode cX7_heightAt 16 = .ok (.if_icmp .ge 19, 3) := by decide +kernel
theorem dX7_heightAt_19 : decode cX7_heightAt 19 = .ok (.aload_n 0, 1) := by decide +kernel
theorem dX7_heightAt_20 : decode cX7_heightAt 20 = .ok (.getfield 9, 3) := by decide +kernel
theorem dX7_heightAt_23 : decode cX7_heightAt 23 = .ok (.iload_n 2, 1) := by decide +kernel
theorem dX7_heightAt_24 : decode cX7_heightAt 24 = .ok (.iaload, 1) := by decide +kernel
theorem dX7_heightAt_25 : decode cX7_heightAt 25 = .ok (.iload_n 1, 1) := by decide +kernel
theorem dX7_heightAt_26 : decode cX7_heightAt 26 = .ok (.if_icmp .ge 9, 3) := by decide +kernel
theorem dX7_heightAt_29 : decode cX7_heightAt 29 = .ok (.iinc 2 1, 3) := by decide +kernel
theorem dX7_heightAt_32 : decode cX7_heightAt 32 = .ok (.goto (-21), 3) := by decide +kernel
theorem dX7_heightAt_35 : decode cX7_heightAt 35 = .ok (.iload_n 2, 1) := by decide +kernel
theorem dX7_heightAt_36 : decode cX7_heightAt 36 = .ok (.aload_n 0, 1) := by decide +kernel
theorem dX7_heightAt_37 : decode cX7_heightAt 37 = .ok (.getfield 69, 3) := by decide +kernel
theorem dX7_heightAt_40 : decode cX7_heightAt 40 = .ok (.if_icmp .ne 15, 3) := by decide +kernel
theorem dX7_heightAt_43 : decode cX7_heightAt 43 = .ok (.aload_n 0, 1) := by decide +kernel
theorem dX7_heightAt_44 : decode cX7_heightAt 44 = .ok (.getfield 13, 3) := by decide +kernel
theorem dX7_heightAt_47 : decode cX7_heightAt 47 = .ok (.aload_n 0, 1) := by decide +kernel
theorem dX7_heightAt_48 : decode cX7_heightAt 48 = .ok (.getfield 69, 3) := by decide +kernel
theorem dX7_heightAt_51 : decode cX7_heightAt 51 = .ok (.iconst 1, 1) := by decide +kernel
theorem dX7_heightAt_52 : decode cX7_heightAt 52 = .ok (.isub, 1) := by decide +kernel
theorem dX7_heightAt_53 : decode cX7_heightAt 53 = .ok (.iaload, 1) := by decide +kernel
theorem dX7_heightAt_54 : decode cX7_heightAt 54 = .ok (.ireturn, 1) := by decide +kernel
theorem dX7_heightAt_55 : decode cX7_heightAt 55 = .ok (.iload_n 2, 1) := by decide +kernel
theorem dX7_heightAt_56 : decode cX7_heightAt 56 = .ok (.ifCond .eq 13, 3) := by decide +kernel
theorem dX7_heightAt_59 : decode cX7_heightAt 59 = .ok (.aload_n 0, 1) := by decide +kernel
theorem dX7_heightAt_60 : decode cX7_heightAt 60 = .ok (.getfield 9, 3) := by decide +kernel
theorem dX7_heightAt_63 : decode cX7_heightAt 63 = .ok (.iload_n 2, 1) := by decide +kernel
theorem dX7_heightAt_64 : decode cX7_heightAt 64 = .ok (.iaload, 1) := by decide +kernel
theorem dX7_heightAt_65 : decode cX7_heightAt 65 = .ok (.iload_n 1, 1) := by decide +kernel
theorem dX7_heightAt_66 : decode cX7_heightAt 66 = .ok (.if_icmp .ne 10, 3) := by decide +kernel
theorem dX7_heightAt_69 : decode cX7_heightAt 69 = .ok (.aload_n 0, 1) := by decide +kernel
theorem dX7_heightAt_70 : decode cX7_heightAt 70 = .ok (.getfield 13, 3) := by decide +kernel
theorem dX7_heightAt_73 : decode cX7_heightAt 73 = .ok (.iload_n 2, 1) := by decide +kernel
theorem dX7_heightAt_74 : decode cX7_heightAt 74 = .ok (.iaload, 1) := by decide +kernel
theorem dX7_heightAt_75 : decode cX7_heightAt 75 = .ok (.ireturn, 1) := by decide +kernel
theorem dX7_heightAt_76 : decode cX7_heightAt 76 = .ok (.iload_n 2, 1) := by decide +kernel
theorem dX7_heightAt_77 : decode cX7_heightAt 77 = .ok (.iconst 1, 1) := by decide +kernel
theorem dX7_heightAt_78 : decode cX7_heightAt 78 = .ok (.isub, 1) := by decide +kernel
theorem dX7_heightAt_79 : decode cX7_heightAt 79 = .ok (.istore_n 3, 1) := by decide +kernel
theorem dX7_heightAt_80 : decode cX7_heightAt 80 = .ok (.aload_n 0, 1) := by decide +kernel
theorem dX7_heightAt_81 : decode cX7_heightAt 81 = .ok (.getfield 13, 3) := by decide +kernel
theorem dX7_heightAt_84 : decode cX7_heightAt 84 = .ok (.iload_n 3, 1) := by decide +kernel
theorem dX7_heightAt_85 : decode cX7_heightAt 85 = .ok (.iaload, 1) := by decide +kernel
theorem dX7_heightAt_86 : decode cX7_heightAt 86 = .ok (.aload_n 0, 1) := by decide +kernel
theorem dX7_heightAt_87 : decode cX7_heightAt 87 = .ok (.getfield 13, 3) := by decide +kernel
theorem dX7_heightAt_90 : decode cX7_heightAt 90 = .ok (.iload_n 2, 1) := by decide +kernel
theorem dX7_heightAt_91 : decode cX7_heightAt 91 = .ok (.iaload, 1) := by decide +kernel
theorem dX7_heightAt_92 : decode cX7_heightAt 92 = .ok (.aload_n 0, 1) := by decide +kernel
theorem dX7_heightAt_93 : decode cX7_heightAt 93 = .ok (.getfield 13, 3) := by decide +kernel
theorem dX7_heightAt_96 : decode cX7_heightAt 96 = .ok (.iload_n 3, 1) := by decide +kernel
theorem dX7_heightAt_97 : decode cX7_heightAt 97 = .ok (.iaload, 1) := by decide +kernel
theorem dX7_heightAt_98 : decode cX7_heightAt 98 = .ok (.isub, 1) := by decide +kernel
theorem dX7_heightAt_99 : decode cX7_heightAt 99 = .ok (.iload_n 1, 1) := by decide +kernel
theorem dX7_heightAt_100 : decode cX7_heightAt 100 = .ok (.aload_n 0, 1) := by decide +kernel
theorem dX7_heightAt_101 : decode cX7_heightAt 101 = .ok (.getfield 9, 3) := by decide +kernel
theorem dX7_heightAt_104 : decode cX7_heightAt 104 = .ok (.iload_n 3, 1) := by decide +kernel
theorem dX7_heightAt_105 : decode cX7_heightAt 105 = .ok (.iaload, 1) := by decide +kernel
theorem dX7_heightAt_106 : decode cX7_heightAt 106 = .ok (.isub, 1) := by decide +kernel
theorem dX7_heightAt_107 : decode cX7_heightAt 107 = .ok (.imul, 1) := by decide +kernel
theorem dX7_heightAt_108 : decode cX7_heightAt 108 = .ok (.aload_n 0, 1) := by decide +kernel
theorem dX7_heightAt_109 : decode cX7_heightAt 109 = .ok (.getfield 9, 3) := by decide +kernel
theorem dX7_heightAt_112 : decode cX7_heightAt 112 = .ok (.iload_n 2, 1) := by decide +kernel
theorem dX7_heightAt_113 : decode cX7_heightAt 113 = .ok (.iaload, 1) := by decide +kernel
theorem dX7_heightAt_114 : decode cX7_heightAt 114 = .ok (.aload_n 0, 1) := by decide +kernel
theorem dX7_heightAt_115 : decode cX7_heightAt 115 = .ok (.getfield 9, 3) := by decide +kernel
