theorem dX6_routeOf_4 : decode cX6_routeOf 4 = .ok (.iload_n 1, 1) := by decide +kernel
theorem dX6_routeOf_5 : decode cX6_routeOf 5 = .ok (.invokevirtual 96, 3) := by decide +kernel
theorem dX6_routeOf_8 : decode cX6_routeOf 8 = .ok (.checkcast 90, 3) := by decide +kernel
theorem dX6_routeOf_11 : decode cX6_routeOf 11 = .ok (.astore_n 3, 1) := by decide +kernel
theorem dX6_routeOf_12 : decode cX6_routeOf 12 = .ok (.aload_n 3, 1) := by decide +kernel
theorem dX6_routeOf_13 : decode cX6_routeOf 13 = .ok (.getfield 129, 3) := by decide +kernel
theorem dX6_routeOf_16 : decode cX6_routeOf 16 = .ok (.astore 4, 2) := by decide +kernel
theorem dX6_routeOf_18 : decode cX6_routeOf 18 = .ok (.aload 4, 2) := by decide +kernel
theorem dX6_routeOf_20 : decode cX6_routeOf 20 = .ok (.ifnull 14, 3) := by decide +kernel
theorem dX6_routeOf_23 : decode cX6_routeOf 23 = .ok (.aload 4, 2) := by decide +kernel
theorem dX6_routeOf_25 : decode cX6_routeOf 25 = .ok (.getfield 133, 3) := by decide +kernel
theorem dX6_routeOf_28 : decode cX6_routeOf 28 = .ok (.getfield 139, 3) := by decide +kernel
theorem dX6_routeOf_31 : decode cX6_routeOf 31 = .ok (.ifCond .eq 7, 3) := by decide +kernel
theorem dX6_routeOf_34 : decode cX6_routeOf 34 = .ok (.iconst 1, 1) := by decide +kernel
theorem dX6_routeOf_35 : decode cX6_routeOf 35 = .ok (.goto 4, 3) := by decide +kernel
theorem dX6_routeOf_38 : decode cX6_routeOf 38 = .ok (.iconst 0, 1) := by decide +kernel
theorem dX6_routeOf_39 : decode cX6_routeOf 39 = .ok (.istore 5, 2) := by decide +kernel
theorem dX6_routeOf_41 : decode cX6_routeOf 41 = .ok (.iload_n 2, 1) := by decide +kernel
theorem dX6_routeOf_42 : decode cX6_routeOf 42 = .ok (.iconst (-1), 1) := by decide +kernel
theorem dX6_routeOf_43 : decode cX6_routeOf 43 = .ok (.if_icmp .eq 33, 3) := by decide +kernel
theorem dX6_routeOf_46 : decode cX6_routeOf 46 = .ok (.iload 5, 2) := by decide +kernel
theorem dX6_routeOf_48 : decode cX6_routeOf 48 = .ok (.ifCond .eq 26, 3) := by decide +kernel
theorem dX6_routeOf_51 : decode cX6_routeOf 51 = .ok (.new 140, 3) := by decide +kernel
theorem dX6_routeOf_54 : decode cX6_routeOf 54 = .ok (.dup, 1) := by decide +kernel
theorem dX6_routeOf_55 : decode cX6_routeOf 55 = .ok (.aload_n 3, 1) := by decide +kernel
theorem dX6_routeOf_56 : decode cX6_routeOf 56 = .ok (.aload_n 0, 1) := by decide +kernel
theorem dX6_routeOf_57 : decode cX6_routeOf 57 = .ok (.getfield 19, 3) := by decide +kernel
theorem dX6_routeOf_60 : decode cX6_routeOf 60 = .ok (.iload_n 2, 1) := by decide +kernel
theorem dX6_routeOf_61 : decode cX6_routeOf 61 = .ok (.invokevirtual 96, 3) := by decide +kernel
theorem dX6_routeOf_64 : decode cX6_routeOf 64 = .ok (.checkcast 82, 3) := by decide +kernel
theorem dX6_routeOf_67 : decode cX6_routeOf 67 = .ok (.iconst 0, 1) := by decide +kernel
theorem dX6_routeOf_68 : decode cX6_routeOf 68 = .ok (.invokespecial 252, 3) := by decide +kernel
theorem dX6_routeOf_71 : decode cX6_routeOf 71 = .ok (.goto 4, 3) := by decide +kernel
theorem dX6_routeOf_74 : decode cX6_routeOf 74 = .ok (.aconst_null, 1) := by decide +kernel
theorem dX6_routeOf_75 : decode cX6_routeOf 75 = .ok (.areturn, 1) := by decide +kernel
theorem dX6_routeOf_76 : decode cX6_routeOf 76 = .ok (.iload 5, 2) := by decide +kernel
theorem dX6_routeOf_78 : decode cX6_routeOf 78 = .ok (.ifCond .eq 7, 3) := by decide +kernel
theorem dX6_routeOf_81 : decode cX6_routeOf 81 = .ok (.aconst_null, 1) := by decide +kernel
theorem dX6_routeOf_82 : decode cX6_routeOf 82 = .ok (.goto 20, 3) := by decide +kernel
theorem dX6_routeOf_85 : decode cX6_routeOf 85 = .ok (.new 140, 3) := by decide +kernel
theorem dX6_routeOf_88 : decode cX6_routeOf 88 = .ok (.dup, 1) := by decide +kernel
theorem dX6_routeOf_89 : decode cX6_routeOf 89 = .ok (.aload_n 3, 1) := by decide +kernel
theorem dX6_routeOf_90 : decode cX6_routeOf 90 = .ok (.aload 4, 2) := by decide +kernel
theorem dX6_routeOf_92 : decode cX6_routeOf 92 = .ok (.getfield 133, 3) := by decide +kernel
theorem dX6_routeOf_95 : decode cX6_routeOf 95 = .ok (.getfield 208, 3) := by decide +kernel
theorem dX6_routeOf_98 : decode cX6_routeOf 98 = .ok (.iconst 1, 1) := by decide +kernel
theorem dX6_routeOf_99 : decode cX6_routeOf 99 = .ok (.invokespecial 252, 3) := by decide +kernel
theorem dX6_routeOf_102 : decode cX6_routeOf 102 = .ok (.areturn, 1) := by decide +kernel
set_option maxRecDepth 20000 in
theorem ggX6_firstBegin_X6_freeFrom : GoodIn wsX6_firstBegin wsX6_freeFrom := goodIn_r _ [9, 10, 11, 1, 2, 3, 4, 12, 13, 14, 15, 16, 17, 18, 19, 20, 21, 22, 23, 24, 25, 26, 27, 28, 29, 30, 31, 32, 33, 34, 35, 36, 37, 38, 39, 40, 127, 128, 129, 130, 131, 132, 133, 134, 138, 139, 140, 141, 142, 143, 144, 145, 146, 147, 148, 149, 150, 151, 152, 135, 136, 137, 153, 154, 155] (by decide +kernel) (by decide +kernel)
set_option maxRecDepth 20000 in
theorem gX6_firstBegin_X6_freeFrom : GoodIn wsX6_firstBegin (wsV RX6 259 RX6 yX6_freeFrom wsX6_freeFrom) := goodIn_app (goodIn_of _ (by decide +kernel)) ggX6_firstBegin_X6_freeFrom
set_option maxRecDepth 20000 in
theorem ggX6_firstBegin_X6_canBegin : GoodIn wsX6_firstBegin wsX6_canBegin := goodIn_r _ [44, 45, 46, 47, 48, 8, 49, 10, 11, 50, 51, 3, 52, 18, 19, 20, 21, 22, 23, 24, 25, 26, 27, 28, 29, 30, 31, 32, 33, 34, 35, 36, 37, 38, 39, 40, 53, 54, 55, 56, 57, 58, 59, 60, 61, 62, 63, 64, 65, 66, 67, 68, 69, 70, 71, 72, 73, 74, 75, 76, 77, 78, 79, 80, 81, 82, 83, 84, 85, 86, 87, 88, 89, 90, 91, 92, 93, 94, 95, 96, 97, 98, 99, 100, 15, 101, 102, 17, 103, 104, 105, 106, 107, 108, 109, 110, 111, 112, 113, 114, 115, 116, 117, 118, 119, 120, 121, 122, 13, 14, 16, 123, 124, 125, 126, 127, 128, 129, 130, 138, 139, 140, 141, 142, 143, 144, 145, 135, 136, 137, 146, 147, 148, 149, 150, 151, 152, 153, 154, 155, 156, 157, 158, 131, 132, 133, 134, 159, 160, 161, 162] (by decide +kernel) (by decide +kernel)
set_option maxRecDepth 20000 in
theorem gX6_firstBegin_X6_canBegin : GoodIn wsX6_firstBegin (wsV RX6 266 RX6 yX6_canBegin wsX6_canBegin) := goodIn_app (goodIn_of _ (by decide +kernel)) ggX6_firstBegin_X6_canBegin
theorem dX6_firstBegin_0 : decode cX6_firstBegin 0 = .ok (.aload_n 1, 1) := by decide +kernel
theorem dX6_firstBegin_1 : decode cX6_firstBegin 1 = .ok (.getfield 188, 3) := by decide +kernel
theorem dX6_firstBegin_4 : decode cX6_firstBegin 4 = .ok (.getfield 255, 3) := by decide +kernel
theorem dX6_firstBegin_7 : decode cX6_firstBegin 7 = .ok (.aload_n 1, 1) := by decide +kernel
theorem dX6_firstBegin_8 : decode cX6_firstBegin 8 = .ok (.getfield 208, 3) := by decide +kernel
theorem dX6_firstBegin_11 : decode cX6_firstBegin 11 = .ok (.getfield 258, 3) := by decide +kernel
theorem dX6_firstBegin_14 : decode cX6_firstBegin 14 = .ok (.if_icmp .le 5, 3) := by decide +kernel
theorem dX6_firstBegin_17 : decode cX6_firstBegin 17 = .ok (.iconst (-1), 1) := by decide +kernel
theorem dX6_firstBegin_18 : decode cX6_firstBegin 18 = .ok (.ireturn, 1) := by decide +kernel
theorem dX6_firstBegin_19 : decode cX6_firstBegin 19 = .ok (.iload_n 2, 1) := by decide +kernel
theorem dX6_firstBegin_20 : decode cX6_firstBegin 20 = .ok (.aload_n 0, 1) := by decide +kernel
theorem dX6_firstBegin_21 : decode cX6_firstBegin 21 = .ok (.aload_n 1, 1) := by decide +kernel
theorem dX6_firstBegin_22 : decode cX6_firstBegin 22 = .ok (.invokevirtual 259, 3) := by decide +kernel
theorem dX6_firstBegin_25 : decode cX6_firstBegin 25 = .ok (.invokestatic 263, 3) := by decide +kernel
theorem dX6_firstBegin_28 : decode cX6_firstBegin 28 = .ok (.istore_n 3, 1) := by decide +kernel
theorem dX6_firstBegin_29 : decode cX6_firstBegin 29 = .ok (.iload_n 3, 1) := by decide +kernel
theorem dX6_firstBegin_30 : decode cX6_firstBegin 30 = .ok (.istore 4, 2) := by decide +kernel
theorem dX6_firstBegin_32 : decode cX6_firstBegin 32 = .ok (.iload 4, 2) := by decide +kernel
theorem dX6_firstBegin_34 : decode cX6_firstBegin 34 = .ok (.bipush 60, 2) := by decide +kernel
theorem dX6_firstBegin_36 : decode cX6_firstBegin 36 = .ok (.iadd, 1) := by decide +kernel
theorem dX6_firstBegin_37 : decode cX6_firstBegin 37 = .ok (.sipush 2879, 3) := by decide +kernel
theorem dX6_firstBegin_40 : decode cX6_firstBegin 40 = .ok (.if_icmp .gt 22, 3) := by decide +kernel
theorem dX6_firstBegin_43 : decode cX6_firstBegin 43 = .ok (.aload_n 0, 1) := by decide +kernel
theorem dX6_firstBegin_44 : decode cX6_firstBegin 44 = .ok (.aload_n 1, 1) := by decide +kernel
theorem dX6_firstBegin_45 : decode cX6_firstBegin 45 = .ok (.iload 4, 2) := by decide +kernel
theorem dX6_firstBegin_47 : decode cX6_firstBegin 47 = .ok (.invokevirtual 266, 3) := by decide +kernel
theorem dX6_firstBegin_50 : decode cX6_firstBegin 50 = .ok (.ifCond .eq 6, 3) := by decide +kernel
theorem dX6_firstBegin_53 : decode cX6_firstBegin 53 = .ok (.iload 4, 2) := by decide +kernel
theorem dX6_firstBegin_55 : decode cX6_firstBegin 55 = .ok (.ireturn, 1) := by decide +kernel
theorem dX6_firstBegin_56 : decode cX6_firstBegin 56 = .ok (.iinc 4 1, 3) := by decide +kernel
theorem dX6_firstBegin_59 : decode cX6_firstBegin 59 = .ok (.goto (-27), 3) := by decide +kernel
theorem dX6_firstBegin_62 : decode cX6_firstBegin 62 = .ok (.iconst (-1), 1) := by decide +kernel
theorem dX6_firstBegin_63 : decode cX6_firstBegin 63 = .ok (.ireturn, 1) := by decide +kernel
set_option maxRecDepth 20000 in
theorem ggX6_freeFrom_X1_end : GoodIn wsX6_freeFrom wsX1_end := goodIn_r _ [11, 12, 52, 53, 54, 55, 56, 57, 58] (by decide +kernel) (by decide +kernel)
set_option maxRecDepth 20000 in
theorem gX6_freeFrom_X1_end : GoodIn wsX6_freeFrom (wsV RX6 150 RX1 yX1_end wsX1_end) := goodIn_app (goodIn_of _ (by decide +kernel)) ggX6_freeFrom_X1_end
set_option maxRecDepth 20000 in
theorem ggX6_freeFrom_Jx4a65c_size_8abf5 : GoodIn wsX6_freeFrom wsJx4a65c_size_8abf5 := goodIn_r _ [17, 18, 62, 63, 64] (by decide +kernel) (by decide +kernel)
set_option maxRecDepth 20000 in
theorem gX6_freeFrom_Jx4a65c_size_8abf5 : GoodIn wsX6_freeFrom (wsV RX6 76 RJx4a65c yJx4a65c_size_8abf5 wsJx4a65c_size_8abf5) := goodIn_app (goodIn_of _ (by decide +kernel)) ggX6_freeFrom_Jx4a65c_size_8abf5
set_option maxRecDepth 20000 in
theorem ggX6_freeFrom_Jx4a65c_get_915e3 : GoodIn wsX6_freeFrom wsJx4a65c_get_915e3 := goodIn_r _ [22, 18, 23, 24, 25, 26, 27, 28, 29, 30, 31, 32, 33, 16, 34, 35, 62, 63, 64] (by decide +kernel) (by decide +kernel)
set_option maxRecDepth 20000 in
theorem gX6_freeFrom_Jx4a65c_get_915e3 : GoodIn wsX6_freeFrom (wsV RX6 96 RJx4a65c yJx4a65c_get_915e3 wsJx4a65c_get_915e3) := goodIn_app (goodIn_of _ (by decide +kernel)) ggX6_freeFrom_Jx4a65c_get_915e3
theorem dX6_freeFrom_0 : decode cX6_freeFrom 0 = .ok (.aload_n 1, 1) := by decide +kernel
theorem dX6_freeFrom_1 : decode cX6_freeFrom 1 = .ok (.getfield 188, 3) := by decide +kernel
theorem dX6_freeFrom_4 : decode cX6_freeFrom 4 = .ok (.getfield 129, 3) := by decide +kernel
theorem dX6_freeFrom_7 : decode cX6_freeFrom 7 = .ok (.astore_n 2, 1) := by decide +kernel
theorem dX6_freeFrom_8 : decode cX6_freeFrom 8 = .ok (.aload_n 2, 1) := by decide +kernel
theorem dX6_freeFrom_9 : decode cX6_freeFrom 9 = .ok (.ifnonnull 7, 3) := by decide +kernel
theorem dX6_freeFrom_12 : decode cX6_freeFrom 12 = .ok (.iconst 0, 1) := by decide +kernel
theorem dX6_freeFrom_13 : decode cX6_freeFrom 13 = .ok (.goto 7, 3) := by decide +kernel
theorem dX6_freeFrom_16 : decode cX6_freeFrom 16 = .ok (.aload_n 2, 1) := by decide +kernel
theorem dX6_freeFrom_17 : decode cX6_freeFrom 17 = .ok (.invokevirtual 150, 3) := by decide +kernel
theorem dX6_freeFrom_20 : decode cX6_freeFrom 20 = .ok (.istore_n 3, 1) := by decide +kernel
theorem dX6_freeFrom_21 : decode cX6_freeFrom 21 = .ok (.aload_n 1, 1) := by decide +kernel
theorem dX6_freeFrom_22 : decode cX6_freeFrom 22 = .ok (.getfield 139, 3) := by decide +kernel
theorem dX6_freeFrom_25 : decode cX6_freeFrom 25 = .ok (.ifCond .eq 5, 3) := by decide +kernel
theorem dX6_freeFrom_28 : decode cX6_freeFrom 28 = .ok (.iload_n 3, 1) := by decide +kernel
theorem dX6_freeFrom_29 : decode cX6_freeFrom 29 = .ok (.ireturn, 1) := by decide +kernel
theorem dX6_freeFrom_30 : decode cX6_freeFrom 30 = .ok (.iconst 0, 1) := by decide +kernel
theorem dX6_freeFrom_31 : decode cX6_freeFrom 31 = .ok (.istore 4, 2) := by decide +kernel
theorem dX6_freeFrom_33 : decode cX6_freeFrom 33 = .ok (.iload 4, 2) := by decide +kernel
theorem dX6_freeFrom_35 : decode cX6_freeFrom 35 = .ok (.aload_n 0, 1) := by decide +kernel
theorem dX6_freeFrom_36 : decode cX6_freeFrom 36 = .ok (.getfield 29, 3) := by decide +kernel
theorem dX6_freeFrom_39 : decode cX6_freeFrom 39 = .ok (.invokevirtual 76, 3) := by decide +kernel
theorem dX6_freeFrom_42 : decode cX6_freeFrom 42 = .ok (.if_icmp .ge 54, 3) := by decide +kernel
theorem dX6_freeFrom_45 : decode cX6_freeFrom 45 = .ok (.aload_n 0, 1) := by decide +kernel
theorem dX6_freeFrom_46 : decode cX6_freeFrom 46 = .ok (.getfield 29, 3) := by decide +kernel
theorem dX6_freeFrom_49 : decode cX6_freeFrom 49 = .ok (.iload 4, 2) := by decide +kernel
theorem dX6_freeFrom_51 : decode cX6_freeFrom 51 = .ok (.invokevirtual 96, 3) := by decide +kernel
theorem dX6_freeFrom_54 : decode cX6_freeFrom 54 = .ok (.checkcast 134, 3) := by decide +kernel
theorem dX6_freeFrom_57 : decode cX6_freeFrom 57 = .ok (.astore 5, 2) := by decide +kernel
theorem dX6_freeFrom_59 : decode cX6_freeFrom 59 = .ok (.aload 5, 2) := by decide +kernel
theorem dX6_freeFrom_61 : decode cX6_freeFrom 61 = .ok (.getfield 133, 3) := by decide +kernel
theorem dX6_freeFrom_64 : decode cX6_freeFrom 64 = .ok (.getfield 208, 3) := by decide +kernel
theorem dX6_freeFrom_67 : decode cX6_freeFrom 67 = .ok (.getfield 212, 3) := by decide +kernel
theorem dX6_freeFrom_70 : decode cX6_freeFrom 70 = .ok (.aload_n 1, 1) := by decide +kernel
theorem dX6_freeFrom_71 : decode cX6_freeFrom 71 = .ok (.getfield 208, 3) := by decide +kernel
theorem dX6_freeFrom_74 : decode cX6_freeFrom 74 = .ok (.getfield 212, 3) := by decide +kernel
theorem dX6_freeFrom_77 : decode cX6_freeFrom 77 = .ok (.if_icmp .ne 13, 3) := by decide +kernel
theorem dX6_freeFrom_80 : decode cX6_freeFrom 80 = .ok (.iload_n 3, 1) := by decide +kernel
theorem dX6_freeFrom_81 : decode cX6_freeFrom 81 = .ok (.aload 5, 2) := by decide +kernel
theorem dX6_freeFrom_83 : decode cX6_freeFrom 83 = .ok (.getfield 200, 3) := by decide +kernel
theorem dX6_freeFrom_86 : decode cX6_freeFrom 86 = .ok (.invokestatic 263, 3) := by decide +kernel
theorem dX6_freeFrom_89 : decode cX6_freeFrom 89 = .ok (.istore_n 3, 1) := by decide +kernel
theorem dX6_freeFrom_90 : decode cX6_freeFrom 90 = .ok (.iinc 4 1, 3) := by decide +kernel
theorem dX6_freeFrom_93 : decode cX6_freeFrom 93 = .ok (.goto (-60), 3) := by decide +kernel
theorem dX6_freeFrom_96 : decode cX6_freeFrom 96 = .ok (.iload_n 3, 1) := by decide +kernel
theorem dX6_freeFrom_97 : decode cX6_freeFrom 97 = .ok (.ireturn, 1) := by decide +kernel
set_option maxRecDepth 20000 in
theorem ggX6_canBegin_X6_hasClearWay : GoodIn wsX6_canBegin wsX6_hasClearWay := goodIn_r _ [6, 7, 8, 9, 10, 11, 12, 13, 14, 15, 16, 17, 18, 19, 20, 21, 22, 23, 24, 25, 26, 27, 28, 29, 30, 31, 32, 33, 34, 35, 119, 120, 121, 122, 123, 124, 125, 126, 130, 131, 132, 133, 134, 135, 136, 115, 116, 117, 118, 137, 138, 139] (by decide +kernel) (by decide +kernel)
set_option maxRecDepth 20000 in
theorem gX6_canBegin_X6_hasClearWay : GoodIn wsX6_canBegin (wsV RX6 270 RX6 yX6_hasClearWay wsX6_hasClearWay) := goodIn_app (goodIn_of _ (by decide +kernel)) ggX6_canBegin_X6_hasClearWay
set_option maxRecDepth 20000 in
theorem ggX6_canBegin_X3_barMinute : GoodIn wsX6_canBegin wsX3_barMinute := goodIn_r _ [40, 41, 115, 116, 117, 118] (by decide +kernel) (by decide +kernel)
set_option maxRecDepth 20000 in
theorem gX6_canBegin_X3_barMinute : GoodIn wsX6_canBegin (wsV RX6 273 RX3 yX3_barMinute wsX3_barMinute) := goodIn_app (goodIn_of _ (by decide +kernel)) ggX6_canBegin_X3_barMinute
set_option maxRecDepth 20000 in
theorem ggX6_canBegin_X6_hasWater : GoodIn wsX6_canBegin wsX6_hasWater := goodIn_r _ [45, 46, 47, 48, 49, 50, 51, 52, 53, 54, 55, 56, 57, 58, 59, 60, 61, 5, 62, 63, 119, 120, 121, 122, 123, 124, 125, 126, 140, 141, 142, 143, 144, 145, 146] (by decide +kernel) (by decide +kernel)
set_option maxRecDepth 20000 in
theorem gX6_canBegin_X6_hasWater : GoodIn wsX6_canBegin (wsV RX6 125 RX6 yX6_hasWater wsX6_hasWater) := goodIn_app (goodIn_of _ (by decide +kernel)) ggX6_canBegin_X6_hasWater
set_option maxRecDepth 20000 in
theorem ggX6_canBegin_X3_berthMinute : GoodIn wsX6_canBegin wsX3_berthMinute := goodIn_r _ [67, 41, 115, 116, 117, 118] (by decide +kernel) (by decide +kernel)
set_option maxRecDepth 20000 in
theorem gX6_canBegin_X3_berthMinute : GoodIn wsX6_canBegin (wsV RX6 276 RX3 yX3_berthMinute wsX3_berthMinute) := goodIn_app (goodIn_of _ (by decide +kernel)) ggX6_canBegin_X3_berthMinute
set_option maxRecDepth 20000 in
theorem ggX6_canBegin_X6_hasTugs : GoodIn wsX6_canBegin wsX6_hasTugs := goodIn_r _ [71, 72, 7, 8, 73, 74, 75, 39, 76, 41, 77, 78, 79, 5, 80, 13, 14, 15, 16, 17, 18, 19, 20, 21, 22, 23, 24, 25, 26, 27, 28, 29, 30, 31, 32, 33, 34, 35, 81, 82, 83, 84, 85, 86, 87, 88, 119, 120, 121, 122, 123, 124, 125, 126, 115, 116, 117, 118, 130, 131, 132, 133, 134, 135, 136, 137, 138, 139] (by decide +kernel) (by decide +kernel)
set_option maxRecDepth 20000 in
theorem gX6_canBegin_X6_hasTugs : GoodIn wsX6_canBegin (wsV RX6 279 RX6 yX6_hasTugs wsX6_hasTugs) := goodIn_app (goodIn_of _ (by decide +kernel)) ggX6_canBegin_X6_hasTugs
set_option maxRecDepth 20000 in
theorem ggX6_canBegin_X6_pilotFor : GoodIn wsX6_canBegin wsX6_pilotFor := goodIn_r _ [92, 93, 94, 13, 14, 15, 16, 17, 18, 19, 20, 21, 22, 23, 24, 25, 26, 27, 28, 29, 30, 31, 32, 33, 34, 35, 95, 96, 97, 98, 99, 100, 101, 102, 103, 104, 105, 106, 107, 108, 109, 84, 110, 87, 111, 112, 113, 114, 119, 120, 121, 122, 123, 124, 125, 126, 137, 138, 139, 147, 148, 149, 150, 115, 116, 117, 118, 143, 144, 145, 146, 130, 131, 132, 133, 134, 135, 136] (by decide +kernel) (by decide +kernel)
set_option maxRecDepth 20000 in
theorem gX6_canBegin_X6_pilotFor : GoodIn wsX6_canBegin (wsV RX6 170 RX6 yX6_pilotFor wsX6_pilotFor) := goodIn_app (goodIn_of _ (by decide +kernel)) ggX6_canBegin_X6_pilotFor
theorem dX6_canBegin_0 : decode cX6_canBegin 0 = .ok (.aload_n 0, 1) := by decide +kernel
theorem dX6_canBegin_1 : decode cX6_canBegin 1 = .ok (.aload_n 1, 1) := by decide +kernel
theorem dX6_canBegin_2 : decode cX6_canBegin 2 = .ok (.iload_n 2, 1) := by decide +kernel
theorem dX6_canBegin_3 : decode cX6_canBegin 3 = .ok (.invokevirtual 270, 3) := by decide +kernel
theorem dX6_canBegin_6 : decode cX6_canBegin 6 = .ok (.ifCond .eq 68, 3) := by decide +kernel
theorem dX6_canBegin_9 : decode cX6_canBegin 9 = .ok (.aload_n 0, 1) := by decide +kernel
theorem dX6_canBegin_10 : decode cX6_canBegin 10 = .ok (.aload_n 1, 1) := by decide +kernel
theorem dX6_canBegin_11 : decode cX6_canBegin 11 = .ok (.getfield 188, 3) := by decide +kernel
theorem dX6_canBegin_14 : decode cX6_canBegin 14 = .ok (.aload_n 0, 1) := by decide +kernel
theorem dX6_canBegin_15 : decode cX6_canBegin 15 = .ok (.getfield 32, 3) := by decide +kernel
theorem dX6_canBegin_18 : decode cX6_canBegin 18 = .ok (.aload_n 1, 1) := by decide +kernel
theorem dX6_canBegin_19 : decode cX6_canBegin 19 = .ok (.iload_n 2, 1) := by decide +kernel
theorem dX6_canBegin_20 : decode cX6_canBegin 20 = .ok (.invokevirtual 273, 3) := by decide +kernel
theorem dX6_canBegin_23 : decode cX6_canBegin 23 = .ok (.invokevirtual 125, 3) := by decide +kernel
theorem dX6_canBegin_26 : decode cX6_canBegin 26 = .ok (.ifCond .eq 48, 3) := by decide +kernel
theorem dX6_canBegin_29 : decode cX6_canBegin 29 = .ok (.aload_n 0, 1) := by decide +kernel
theorem dX6_canBegin_30 : decode cX6_canBegin 30 = .ok (.aload_n 1, 1) := by decide +kernel
theorem dX6_canBegin_31 : decode cX6_canBegin 31 = .ok (.getfield 188, 3) := by decide +kernel
theorem dX6_canBegin_34 : decode cX6_canBegin 34 = .ok (.aload_n 1, 1) := by decide +kernel
theorem dX6_canBegin_35 : decode cX6_canBegin 35 = .ok (.getfield 208, 3) := by decide +kernel
theorem dX6_canBegin_38 : decode cX6_canBegin 38 = .ok (.getfield 122, 3) := by decide +kernel
theorem dX6_canBegin_41 : decode cX6_canBegin 41 = .ok (.aload_n 1, 1) := by decide +kernel
theorem dX6_canBegin_42 : decode cX6_canBegin 42 = .ok (.iload_n 2, 1) := by decide +kernel
theorem dX6_canBegin_43 : decode cX6_canBegin 43 = .ok (.invokevirtual 276, 3) := by decide +kernel
theorem dX6_canBegin_46 : decode cX6_canBegin 46 = .ok (.invokevirtual 125, 3) := by decide +kernel
theorem dX6_canBegin_49 : decode cX6_canBegin 49 = .ok (.ifCond .eq 25, 3) := by decide +kernel
theorem dX6_canBegin_52 : decode cX6_canBegin 52 = .ok (.aload_n 0, 1) := by decide +kernel
theorem dX6_canBegin_53 : decode cX6_canBegin 53 = .ok (.aload_n 1, 1) := by decide +kernel
theorem dX6_canBegin_54 : decode cX6_canBegin 54 = .ok (.iload_n 2, 1) := by decide +kernel
theorem dX6_canBegin_55 : decode cX6_canBegin 55 = .ok (.invokevirtual 279, 3) := by decide +kernel
theorem dX6_canBegin_58 : decode cX6_canBegin 58 = .ok (.ifCond .eq 16, 3) := by decide +kernel
theorem dX6_canBegin_61 : decode cX6_canBegin 61 = .ok (.aload_n 0, 1) := by decide +kernel
theorem dX6_canBegin_62 : decode cX6_canBegin 62 = .ok (.aload_n 1, 1) := by decide +kernel
theorem dX6_canBegin_63 : decode cX6_canBegin 63 = .ok (.iload_n 2, 1) := by decide +kernel
theorem dX6_canBegin_64 : decode cX6_canBegin 64 = .ok (.invokevirtual 170, 3) := by decide +kernel
theorem dX6_canBegin_67 : decode cX6_canBegin 67 = .ok (.ifnull 7, 3) := by decide +kernel
theorem dX6_canBegin_70 : decode cX6_canBegin 70 = .ok (.iconst 1, 1) := by decide +kernel
theorem dX6_canBegin_71 : decode cX6_canBegin 71 = .ok (.goto 4, 3) := by decide +kernel
theorem dX6_canBegin_74 : decode cX6_canBegin 74 = .ok (.iconst 0, 1) := by decide +kernel
theorem dX6_canBegin_75 : decode cX6_canBegin 75 = .ok (.ireturn, 1) := by decide +kernel
set_option maxRecDepth 20000 in
theorem ggX6_hasClearWay_Jx4a65c_size_8abf5 : GoodIn wsX6_hasClearWay wsJx4a65c_size_8abf5 := goodIn_r _ [11, 12, 49, 50, 51] (by decide +kernel) (by decide +kernel)
set_option maxRecDepth 20000 in
theorem gX6_hasClearWay_Jx4a65c_size_8abf5 : GoodIn wsX6_hasClearWay (wsV RX6 76 RJx4a65c yJx4a65c_size_8abf5 wsJx4a65c_size_8abf5) := goodIn_app (goodIn_of _ (by decide +kernel)) ggX6_hasClearWay_Jx4a65c_size_8abf5
set_option maxRecDepth 20000 in
theorem ggX6_hasClearWay_Jx4a65c_get_915e3 : GoodIn wsX6_hasClearWay wsJx4a65c_get_915e3 := goodIn_r _ [16, 12, 17, 18, 19, 20, 21, 22, 23, 24, 25, 26, 27, 10, 28, 29, 49, 50, 51] (by decide +kernel) (by decide +kernel)
set_option maxRecDepth 20000 in
theorem gX6_hasClearWay_Jx4a65c_get_915e3 : GoodIn wsX6_hasClearWay (wsV RX6 96 RJx4a65c yJx4a65c_get_915e3 wsJx4a65c_get_915e3) := goodIn_app (goodIn_of _ (by decide +kernel)) ggX6_hasClearWay_Jx4a65c_get_915e3
theorem dX6_hasClearWay_0 : decode cX6_hasClearWay 0 = .ok (.iconst 0, 1) := by decide +kernel
theorem dX6_hasClearWay_1 : decode cX6_hasClearWay 1 = .ok (.istore_n 3, 1) := by decide +kernel
theorem dX6_hasClearWay_2 : decode cX6_hasClearWay 2 = .ok (.iload_n 3, 1) := by decide +kernel
theorem dX6_hasClearWay_3 : decode cX6_hasClearWay 3 = .ok (.aload_n 0, 1) := by decide +kernel
theorem dX6_hasClearWay_4 : decode cX6_hasClearWay 4 = .ok (.getfield 29, 3) := by decide +kernel
theorem dX6_hasClearWay_7 : decode cX6_hasClearWay 7 = .ok (.invokevirtual 76, 3) := by decide +kernel
theorem dX6_hasClearWay_10 : decode cX6_hasClearWay 10 = .ok (.if_icmp .ge 63, 3) := by decide +kernel
theorem dX6_hasClearWay_13 : decode cX6_hasClearWay 13 = .ok (.aload_n 0, 1) := by decide +kernel
theorem dX6_hasClearWay_14 : decode cX6_hasClearWay 14 = .ok (.getfield 29, 3) := by decide +kernel
theorem dX6_hasClearWay_17 : decode cX6_hasClearWay 17 = .ok (.iload_n 3, 1) := by decide +kernel
theorem dX6_hasClearWay_18 : decode cX6_hasClearWay 18 = .ok (.invokevirtual 96, 3) := by decide +kernel
theorem dX6_hasClearWay_21 : decode cX6_hasClearWay 21 = .ok (.checkcast 134, 3) := by decide +kernel
theorem dX6_hasClearWay_24 : decode cX6_hasClearWay 24 = .ok (.astore 4, 2) := by decide +kernel
theorem dX6_hasClearWay_26 : decode cX6_hasClearWay 26 = .ok (.aload 4, 2) := by decide +kernel
theorem dX6_hasClearWay_28 : decode cX6_hasClearWay 28 = .ok (.getfield 133, 3) := by decide +kernel
theorem dX6_hasClearWay_31 : decode cX6_hasClearWay 31 = .ok (.getfield 139, 3) := by decide +kernel
theorem dX6_hasClearWay_34 : decode cX6_hasClearWay 34 = .ok (.aload_n 1, 1) := by decide +kernel
theorem dX6_hasClearWay_35 : decode cX6_hasClearWay 35 = .ok (.getfield 139, 3) := by decide +kernel
theorem dX6_hasClearWay_38 : decode cX6_hasClearWay 38 = .ok (.if_icmp .ne 8, 3) := by decide +kernel
theorem dX6_hasClearWay_41 : decode cX6_hasClearWay 41 = .ok (.bipush 20, 2) := by decide +kernel
theorem dX6_hasClearWay_43 : decode cX6_hasClearWay 43 = .ok (.goto 5, 3) := by decide +kernel
theorem dX6_hasClearWay_46 : decode cX6_hasClearWay 46 = .ok (.bipush 60, 2) := by decide +kernel
theorem dX6_hasClearWay_48 : decode cX6_hasClearWay 48 = .ok (.istore 5, 2) := by decide +kernel
theorem dX6_hasClearWay_50 : decode cX6_hasClearWay 50 = .ok (.aload 4, 2) := by decide +kernel
theorem dX6_hasClearWay_52 : decode cX6_hasClearWay 52 = .ok (.getfield 153, 3) := by decide +kernel
theorem dX6_hasClearWay_55 : decode cX6_hasClearWay 55 = .ok (.iload_n 2, 1) := by decide +kernel
theorem dX6_hasClearWay_56 : decode cX6_hasClearWay 56 = .ok (.isub, 1) := by decide +kernel
theorem dX6_hasClearWay_57 : decode cX6_hasClearWay 57 = .ok (.invokestatic 282, 3) := by decide +kernel
theorem dX6_hasClearWay_60 : decode cX6_hasClearWay 60 = .ok (.iload 5, 2) := by decide +kernel
theorem dX6_hasClearWay_62 : decode cX6_hasClearWay 62 = .ok (.if_icmp .ge 5, 3) := by decide +kernel
theorem dX6_hasClearWay_65 : decode cX6_hasClearWay 65 = .ok (.iconst 0, 1) := by decide +kernel
theorem dX6_hasClearWay_66 : decode cX6_hasClearWay 66 = .ok (.ireturn, 1) := by decide +kernel
theorem dX6_hasClearWay_67 : decode cX6_hasClearWay 67 = .ok (.iinc 3 1, 3) := by decide +kernel
theorem dX6_hasClearWay_70 : decode cX6_hasClearWay 70 = .ok (.goto (-68), 3) := by decide +kernel
theorem dX6_hasClearWay_73 : decode cX6_hasClearWay 73 = .ok (.iconst 1, 1) := by decide +kernel
theorem dX6_hasClearWay_74 : decode cX6_hasClearWay 74 = .ok (.ireturn, 1) := by decide +kernel
set_option maxRecDepth 20000 in
theorem ggX6_hasTugs_X3_tugsFrom : GoodIn wsX6_hasTugs wsX3_tugsFrom := goodIn_r _ [8, 9, 54, 55, 56, 57] (by decide +kernel) (by decide +kernel)
set_option maxRecDepth 20000 in
theorem gX6_hasTugs_X3_tugsFrom : GoodIn wsX6_hasTugs (wsV RX6 285 RX3 yX3_tugsFrom wsX3_tugsFrom) := goodIn_app (goodIn_of _ (by decide +kernel)) ggX6_hasTugs_X3_tugsFrom
set_option maxRecDepth 20000 in
theorem ggX6_hasTugs_X6_tugsInUse : GoodIn wsX6_hasTugs wsX6_tugsInUse := goodIn_r _ [14, 2, 3, 15, 16, 17, 18, 19, 20, 21, 22, 23, 24, 25, 26, 27, 28, 29, 30, 31, 32, 33, 34, 35, 36, 37, 38, 39, 40, 41, 42, 43, 44, 45, 5, 6, 7, 8, 9, 46, 47, 48, 49, 50, 51, 52, 53, 58, 59, 60, 61, 62, 63, 64, 54, 55, 56, 57, 65, 66, 67] (by decide +kernel) (by decide +kernel)
set_option maxRecDepth 20000 in
theorem gX6_hasTugs_X6_tugsInUse : GoodIn wsX6_hasTugs (wsV RX6 218 RX6 yX6_tugsInUse wsX6_tugsInUse) := goodIn_app (goodIn_of _ (by decide +kernel)) ggX6_hasTugs_X6_tugsInUse
set_option maxRecDepth 20000 in
theorem ggX6_hasTugs_Jx4a65c_size_8abf5 : GoodIn wsX6_hasTugs wsJx4a65c_size_8abf5 := goodIn_r _ [19, 20, 65, 66, 67] (by decide +kernel) (by decide +kernel)
set_option maxRecDepth 20000 in
theorem gX6_hasTugs_Jx4a65c_size_8abf5 : GoodIn wsX6_hasTugs (wsV RX6 76 RJx4a65c yJx4a65c_size_8abf5 wsJx4a65c_size_8abf5) := goodIn_app (goodIn_of _ (by decide +kernel)) ggX6_hasTugs_Jx4a65c_size_8abf5
set_option maxRecDepth 20000 in
theorem ggX6_hasTugs_Jx4a65c_get_915e3 : GoodIn wsX6_hasTugs wsJx4a65c_get_915e3 := goodIn_r _ [24, 20, 25, 26, 27, 28, 29, 30, 31, 32, 33, 34, 35, 18, 36, 37, 65, 66, 67] (by decide +kernel) (by decide +kernel)
set_option maxRecDepth 20000 in
theorem gX6_hasTugs_Jx4a65c_get_915e3 : GoodIn wsX6_hasTugs (wsV RX6 96 RJx4a65c yJx4a65c_get_915e3 wsJx4a65c_get_915e3) := goodIn_app (goodIn_of _ (by decide +kernel)) ggX6_hasTugs_Jx4a65c_get_915e3
set_option maxRecDepth 20000 in
theorem ggX6_hasTugs_X1_tugsFrom : GoodIn wsX6_hasTugs wsX1_tugsFrom := goodIn_r _ [42, 43, 44, 45, 5, 6, 7, 8, 9, 58, 59, 60, 61, 62, 63, 64, 54, 55, 56, 57] (by decide +kernel) (by decide +kernel)
set_option maxRecDepth 20000 in
theorem gX6_hasTugs_X1_tugsFrom : GoodIn wsX6_hasTugs (wsV RX6 288 RX1 yX1_tugsFrom wsX1_tugsFrom) := goodIn_app (goodIn_of _ (by decide +kernel)) ggX6_hasTugs_X1_tugsFrom
theorem dX6_hasTugs_0 : decode cX6_hasTugs 0 = .ok (.aload_n 1, 1) := by decide +kernel
theorem dX6_hasTugs_1 : decode cX6_hasTugs 1 = .ok (.iload_n 2, 1) := by decide +kernel
theorem dX6_hasTugs_2 : decode cX6_hasTugs 2 = .ok (.invokevirtual 285, 3) := by decide +kernel
theorem dX6_hasTugs_5 : decode cX6_hasTugs 5 = .ok (.istore_n 3, 1) := by decide +kernel
theorem dX6_hasTugs_6 : decode cX6_hasTugs 6 = .ok (.aload_n 0, 1) := by decide +kernel
theorem dX6_hasTugs_7 : decode cX6_hasTugs 7 = .ok (.getfield 39, 3) := by decide +kernel
theorem dX6_hasTugs_10 : decode cX6_hasTugs 10 = .ok (.aload_n 1, 1) := by decide +kernel
theorem dX6_hasTugs_11 : decode cX6_hasTugs 11 = .ok (.getfield 207, 3) := by decide +kernel
theorem dX6_hasTugs_14 : decode cX6_hasTugs 14 = .ok (.isub, 1) := by decide +kernel
theorem dX6_hasTugs_15 : decode cX6_hasTugs 15 = .ok (.istore 4, 2) := by decide +kernel
theorem dX6_hasTugs_17 : decode cX6_hasTugs 17 = .ok (.aload_n 0, 1) := by decide +kernel
theorem dX6_hasTugs_18 : decode cX6_hasTugs 18 = .ok (.iload_n 3, 1) := by decide +kernel
theorem dX6_hasTugs_19 : decode cX6_hasTugs 19 = .ok (.invokevirtual 218, 3) := by decide +kernel
theorem dX6_hasTugs_22 : decode cX6_hasTugs 22 = .ok (.iload 4, 2) := by decide +kernel
theorem dX6_hasTugs_24 : decode cX6_hasTugs 24 = .ok (.if_icmp .le 5, 3) := by decide +kernel
theorem dX6_hasTugs_27 : decode cX6_hasTugs 27 = .ok (.iconst 0, 1) := by decide +kernel
theorem dX6_hasTugs_28 : decode cX6_hasTugs 28 = .ok (.ireturn, 1) := by decide +kernel
theorem dX6_hasTugs_29 : decode cX6_hasTugs 29 = .ok (.iconst 0, 1) := by decide +kernel
theorem dX6_hasTugs_30 : decode cX6_hasTugs 30 = .ok (.istore 5, 2) := by decide +kernel
theorem dX6_hasTugs_32 : decode cX6_hasTugs 32 = .ok (.iload 5, 2) := by decide +kernel
theorem dX6_hasTugs_34 : decode cX6_hasTugs 34 = .ok (.aload_n 0, 1) := by decide +kernel
theorem dX6_hasTugs_35 : decode cX6_hasTugs 35 = .ok (.getfield 29, 3) := by decide +kernel
theorem dX6_hasTugs_38 : decode cX6_hasTugs 38 = .ok (.invokevirtual 76, 3) := by decide +kernel
theorem dX6_hasTugs_41 : decode cX6_hasTugs 41 = .ok (.if_icmp .ge 54, 3) := by decide +kernel
theorem dX6_hasTugs_44 : decode cX6_hasTugs 44 = .ok (.aload_n 0, 1) := by decide +kernel
theorem dX6_hasTugs_45 : decode cX6_hasTugs 45 = .ok (.getfield 29, 3) := by decide +kernel
theorem dX6_hasTugs_48 : decode cX6_hasTugs 48 = .ok (.iload 5, 2) := by decide +kernel
theorem dX6_hasTugs_50 : decode cX6_hasTugs 50 = .ok (.invokevirtual 96, 3) := by decide +kernel
theorem dX6_hasTugs_53 : decode cX6_hasTugs 53 = .ok (.checkcast 134, 3) := by decide +kernel
theorem dX6_hasTugs_56 : decode cX6_hasTugs 56 = .ok (.invokevirtual 288, 3) := by decide +kernel
theorem dX6_hasTugs_59 : decode cX6_hasTugs 59 = .ok (.istore 6, 2) := by decide +kernel
theorem dX6_hasTugs_61 : decode cX6_hasTugs 61 = .ok (.iload 6, 2) := by decide +kernel
theorem dX6_hasTugs_63 : decode cX6_hasTugs 63 = .ok (.iload_n 3, 1) := by decide +kernel
theorem dX6_hasTugs_64 : decode cX6_hasTugs 64 = .ok (.if_icmp .le 25, 3) := by decide +kernel
theorem dX6_hasTugs_67 : decode cX6_hasTugs 67 = .ok (.iload 6, 2) := by decide +kernel
theorem dX6_hasTugs_69 : decode cX6_hasTugs 69 = .ok (.iload_n 3, 1) := by decide +kernel
theorem dX6_hasTugs_70 : decode cX6_hasTugs 70 = .ok (.bipush 40, 2) := by decide +kernel
theorem dX6_hasTugs_72 : decode cX6_hasTugs 72 = .ok (.iadd, 1) := by decide +kernel
theorem dX6_hasTugs_73 : decode cX6_hasTugs 73 = .ok (.if_icmp .ge 16, 3) := by decide +kernel
theorem dX6_hasTugs_76 : decode cX6_hasTugs 76 = .ok (.aload_n 0, 1) := by decide +kernel
theorem dX6_hasTugs_77 : decode cX6_hasTugs 77 = .ok (.iload 6, 2) := by decide +kernel
theorem dX6_hasTugs_79 : decode cX6_hasTugs 79 = .ok (.invokevirtual 218, 3) := by decide +kernel
theorem dX6_hasTugs_82 : decode cX6_hasTugs 82 = .ok (.iload 4, 2) := by decide +kernel
theorem dX6_hasTugs_84 : decode cX6_hasTugs 84 = .ok (.if_icmp .le 5, 3) := by decide +kernel
theorem dX6_hasTugs_87 : decode cX6_hasTugs 87 = .ok (.iconst 0, 1) := by decide +kernel
theorem dX6_hasTugs_88 : decode cX6_hasTugs 88 = .ok (.ireturn, 1) := by decide +kernel
theorem dX6_hasTugs_89 : decode cX6_hasTugs 89 = .ok (.iinc 5 1, 3) := by decide +kernel
theorem dX6_hasTugs_92 : decode cX6_hasTugs 92 = .ok (.goto (-60), 3) := by decide +kernel
theorem dX6_hasTugs_95 : decode cX6_hasTugs 95 = .ok (.iconst 1, 1) := by decide +kernel
theorem dX6_hasTugs_96 : decode cX6_hasTugs 96 = .ok (.ireturn, 1) := by decide +kernel
set_option maxRecDepth 20000 in
theorem ggX6_tugsInUse_Jx4a65c_size_8abf5 : GoodIn wsX6_tugsInUse wsJx4a65c_size_8abf5 := goodIn_r _ [7, 8, 58, 59, 60] (by decide +kernel) (by decide +kernel)
set_option maxRecDepth 20000 in
theorem gX6_tugsInUse_Jx4a65c_size_8abf5 : GoodIn wsX6_tugsInUse (wsV RX6 76 RJx4a65c yJx4a65c_size_8abf5 wsJx4a65c_size_8abf5) := goodIn_app (goodIn_of _ (by decide +kernel)) ggX6_tugsInUse_Jx4a65c_size_8abf5
set_option maxRecDepth 20000 in
theorem ggX6_tugsInUse_Jx4a65c_get_915e3 : GoodIn wsX6_tugsInUse wsJx4a65c_get_915e3 := goodIn_r _ [12, 8, 13, 14, 15, 16, 17, 18, 19, 20, 21, 22, 23, 6, 24, 25, 58, 59, 60] (by decide +kernel) (by decide +kernel)
set_option maxRecDepth 20000 in
theorem gX6_tugsInUse_Jx4a65c_get_915e3 : GoodIn wsX6_tugsInUse (wsV RX6 96 RJx4a65c yJx4a65c_get_915e3 wsJx4a65c_get_915e3) := goodIn_app (goodIn_of _ (by decide +kernel)) ggX6_tugsInUse_Jx4a65c_get_915e3
set_option maxRecDepth 20000 in
theorem ggX6_tugsInUse_X1_tugsFrom : GoodIn wsX6_tugsInUse wsX1_tugsFrom := goodIn_r _ [30, 31, 32, 33, 34, 35, 36, 37, 38, 47, 48, 49, 50, 51, 52, 53, 54, 55, 56, 57] (by decide +kernel) (by decide +kernel)
set_option maxRecDepth 20000 in
theorem gX6_tugsInUse_X1_tugsFrom : GoodIn wsX6_tugsInUse (wsV RX6 288 RX1 yX1_tugsFrom wsX1_tugsFrom) := goodIn_app (goodIn_of _ (by decide +kernel)) ggX6_tugsInUse_X1_tugsFrom
theorem dX6_tugsInUse_0 : decode cX6_tugsInUse 0 = .ok (.iconst 0, 1) := by decide +kernel
theorem dX6_tugsInUse_1 : decode cX6_tugsInUse 1 = .ok (.istore_n 2, 1) := by decide +kernel
theorem dX6_tugsInUse_2 : decode cX6_tugsInUse 2 = .ok (.iconst 0, 1) := by decide +kernel
theorem dX6_tugsInUse_3 : decode cX6_tugsInUse 3 = .ok (.istore_n 3, 1) := by decide +kernel
theorem dX6_tugsInUse_4 : decode cX6_tugsInUse 4 = .ok (.iload_n 3, 1) := by decide +kernel
theorem dX6_tugsInUse_5 : decode cX6_tugsInUse 5 = .ok (.aload_n 0, 1) := by decide +kernel
theorem dX6_tugsInUse_6 : decode cX6_tugsInUse 6 = .ok (.getfield 29, 3) := by decide +kernel
theorem dX6_tugsInUse_9 : decode cX6_tugsInUse 9 = .ok (.invokevirtual 76, 3) := by decide +kernel
theorem dX6_tugsInUse_12 : decode cX6_tugsInUse 12 = .ok (.if_icmp .ge 55, 3) := by decide +kernel
theorem dX6_tugsInUse_15 : decode cX6_tugsInUse 15 = .ok (.aload_n 0, 1) := by decide +kernel
theorem dX6_tugsInUse_16 : decode cX6_tugsInUse 16 = .ok (.getfield 29, 3) := by decide +kernel
theorem dX6_tugsInUse_19 : decode cX6_tugsInUse 19 = .ok (.iload_n 3, 1) := by decide +kernel
theorem dX6_tugsInUse_20 : decode cX6_tugsInUse 20 = .ok (.invokevirtual 96, 3) := by decide +kernel
theorem dX6_tugsInUse_23 : decode cX6_tugsInUse 23 = .ok (.checkcast 134, 3) := by decide +kernel
theorem dX6_tugsInUse_26 : decode cX6_tugsInUse 26 = .ok (.astore 4, 2) := by decide +kernel
theorem dX6_tugsInUse_28 : decode cX6_tugsInUse 28 = .ok (.aload 4, 2) := by decide +kernel
theorem dX6_tugsInUse_30 : decode cX6_tugsInUse 30 = .ok (.invokevirtual 288, 3) := by decide +kernel
theorem dX6_tugsInUse_33 : decode cX6_tugsInUse 33 = .ok (.istore 5, 2) := by decide +kernel
theorem dX6_tugsInUse_35 : decode cX6_tugsInUse 35 = .ok (.iload_n 1, 1) := by decide +kernel
theorem dX6_tugsInUse_36 : decode cX6_tugsInUse 36 = .ok (.iload 5, 2) := by decide +kernel
theorem dX6_tugsInUse_38 : decode cX6_tugsInUse 38 = .ok (.if_icmp .lt 23, 3) := by decide +kernel
theorem dX6_tugsInUse_41 : decode cX6_tugsInUse 41 = .ok (.iload_n 1, 1) := by decide +kernel
theorem dX6_tugsInUse_42 : decode cX6_tugsInUse 42 = .ok (.iload 5, 2) := by decide +kernel
theorem dX6_tugsInUse_44 : decode cX6_tugsInUse 44 = .ok (.bipush 40, 2) := by decide +kernel
theorem dX6_tugsInUse_46 : decode cX6_tugsInUse 46 = .ok (.iadd, 1) := by decide +kernel
theorem dX6_tugsInUse_47 : decode cX6_tugsInUse 47 = .ok (.if_icmp .ge 14, 3) := by decide +kernel
theorem dX6_tugsInUse_50 : decode cX6_tugsInUse 50 = .ok (.iload_n 2, 1) := by decide +kernel
theorem dX6_tugsInUse_51 : decode cX6_tugsInUse 51 = .ok (.aload 4, 2) := by decide +kernel
theorem dX6_tugsInUse_53 : decode cX6_tugsInUse 53 = .ok (.getfield 133, 3) := by decide +kernel
theorem dX6_tugsInUse_56 : decode cX6_tugsInUse 56 = .ok (.getfield 207, 3) := by decide +kernel
theorem dX6_tugsInUse_59 : decode cX6_tugsInUse 59 = .ok (.iadd, 1) := by decide +kernel
theorem dX6_tugsInUse_60 : decode cX6_tugsInUse 60 = .ok (.istore_n 2, 1) := by decide +kernel
theorem dX6_tugsInUse_61 : decode cX6_tugsInUse 61 = .ok (.iinc 3 1, 3) := by decide +kernel
theorem dX6_tugsInUse_64 : decode cX6_tugsInUse 64 = .ok (.goto (-60), 3) := by decide +kernel
theorem dX6_tugsInUse_67 : decode cX6_tugsInUse 67 = .ok (.iload_n 2, 1) := by decide +kernel
theorem dX6_tugsInUse_68 : decode cX6_tugsInUse 68 = .ok (.ireturn, 1) := by decide +kernel
set_option maxRecDepth 20000 in
theorem ggX6_pilotFor_Jx4a65c_size_8abf5 : GoodIn wsX6_pilotFor wsJx4a65c_size_8abf5 := goodIn_r _ [7, 8, 56, 57, 58] (by decide +kernel) (by decide +kernel)
set_option maxRecDepth 20000 in
theorem gX6_pilotFor_Jx4a65c_size_8abf5 : GoodIn wsX6_pilotFor (wsV RX6 76 RJx4a65c yJx4a65c_size_8abf5 wsJx4a65c_size_8abf5) := goodIn_app (goodIn_of _ (by decide +kernel)) ggX6_pilotFor_Jx4a65c_size_8abf5
set_option maxRecDepth 20000 in
theorem ggX6_pilotFor_Jx4a65c_get_915e3 : GoodIn wsX6_pilotFor wsJx4a65c_get_915e3 := goodIn_r _ [12, 8, 13, 14, 15, 16, 17, 18, 19, 20, 21, 22, 23, 6, 24, 25, 56, 57, 58] (by decide +kernel) (by decide +kernel)
set_option maxRecDepth 20000 in
theorem gX6_pilotFor_Jx4a65c_get_915e3 : GoodIn wsX6_pilotFor (wsV RX6 96 RJx4a65c yJx4a65c_get_915e3 wsJx4a65c_get_915e3) := goodIn_app (goodIn_of _ (by decide +kernel)) ggX6_pilotFor_Jx4a65c_get_915e3
set_option maxRecDepth 20000 in
theorem ggX6_pilotFor_X2_canTake : GoodIn wsX6_pilotFor wsX2_canTake := goodIn_r _ [30, 31, 32, 33, 34, 35, 29, 36, 37, 38, 39, 40, 41, 42, 43, 59, 60, 61, 62, 63, 64, 65, 66, 67, 68, 69, 70, 71, 72, 73, 74, 75, 76, 77] (by decide +kernel) (by decide +kernel)
set_option maxRecDepth 20000 in
theorem gX6_pilotFor_X2_canTake : GoodIn wsX6_pilotFor (wsV RX6 290 RX2 yX2_canTake wsX2_canTake) := goodIn_app (goodIn_of _ (by decide +kernel)) ggX6_pilotFor_X2_canTake
set_option maxRecDepth 20000 in
theorem ggX6_pilotFor_X2_latestEnd : GoodIn wsX6_pilotFor wsX2_latestEnd := goodIn_r _ [47, 32, 38, 39, 40, 41, 42, 43, 59, 60, 61, 62, 71, 72, 73, 74, 75, 76, 77] (by decide +kernel) (by decide +kernel)
set_option maxRecDepth 20000 in
theorem gX6_pilotFor_X2_latestEnd : GoodIn wsX6_pilotFor (wsV RX6 293 RX2 yX2_latestEnd wsX2_latestEnd) := goodIn_app (goodIn_of _ (by decide +kernel)) ggX6_pilotFor_X2_latestEnd
theorem dX6_pilotFor_0 : decode cX6_pilotFor 0 = .ok (.aconst_null, 1) := by decide +kernel
theorem dX6_pilotFor_1 : decode cX6_pilotFor 1 = .ok (.astore_n 3, 1) := by decide +kernel
theorem dX6_pilotFor_2 : decode cX6_pilotFor 2 = .ok (.iconst 0, 1) := by decide +kernel
theorem dX6_pilotFor_3 : decode cX6_pilotFor 3 = .ok (.istore 4, 2) := by decide +kernel
theorem dX6_pilotFor_5 : decode cX6_pilotFor 5 = .ok (.iload 4, 2) := by decide +kernel
theorem dX6_pilotFor_7 : decode cX6_pilotFor 7 = .ok (.aload_n 0, 1) := by decide +kernel
theorem dX6_pilotFor_8 : decode cX6_pilotFor 8 = .ok (.getfield 26, 3) := by decide +kernel
theorem dX6_pilotFor_11 : decode cX6_pilotFor 11 = .ok (.invokevirtual 76, 3) := by decide +kernel
theorem dX6_pilotFor_14 : decode cX6_pilotFor 14 = .ok (.if_icmp .ge 52, 3) := by decide +kernel
theorem dX6_pilotFor_17 : decode cX6_pilotFor 17 = .ok (.aload_n 0, 1) := by decide +kernel
theorem dX6_pilotFor_18 : decode cX6_pilotFor 18 = .ok (.getfield 26, 3) := by decide +kernel
theorem dX6_pilotFor_21 : decode cX6_pilotFor 21 = .ok (.iload 4, 2) := by decide +kernel
theorem dX6_pilotFor_23 : decode cX6_pilotFor 23 = .ok (.invokevirtual 96, 3) := by decide +kernel
theorem dX6_pilotFor_26 : decode cX6_pilotFor 26 = .ok (.checkcast 103, 3) := by decide +kernel
theorem dX6_pilotFor_29 : decode cX6_pilotFor 29 = .ok (.astore 5, 2) := by decide +kernel
theorem dX6_pilotFor_31 : decode cX6_pilotFor 31 = .ok (.aload 5, 2) := by decide +kernel
theorem dX6_pilotFor_33 : decode cX6_pilotFor 33 = .ok (.aload_n 1, 1) := by decide +kernel
theorem dX6_pilotFor_34 : decode cX6_pilotFor 34 = .ok (.iload_n 2, 1) := by decide +kernel
theorem dX6_pilotFor_35 : decode cX6_pilotFor 35 = .ok (.invokevirtual 290, 3) := by decide +kernel
theorem dX6_pilotFor_38 : decode cX6_pilotFor 38 = .ok (.ifCond .eq 22, 3) := by decide +kernel
theorem dX6_pilotFor_41 : decode cX6_pilotFor 41 = .ok (.aload_n 3, 1) := by decide +kernel
theorem dX6_pilotFor_42 : decode cX6_pilotFor 42 = .ok (.ifnull 15, 3) := by decide +kernel
theorem dX6_pilotFor_45 : decode cX6_pilotFor 45 = .ok (.aload 5, 2) := by decide +kernel
theorem dX6_pilotFor_47 : decode cX6_pilotFor 47 = .ok (.invokevirtual 293, 3) := by decide +kernel
theorem dX6_pilotFor_50 : decode cX6_pilotFor 50 = .ok (.aload_n 3, 1) := by decide +kernel
theorem dX6_pilotFor_51 : decode cX6_pilotFor 51 = .ok (.invokevirtual 293, 3) := by decide +kernel
theorem dX6_pilotFor_54 : decode cX6_pilotFor 54 = .ok (.if_icmp .ge 6, 3) := by decide +kernel
theorem dX6_pilotFor_57 : decode cX6_pilotFor 57 = .ok (.aload 5, 2) := by decide +kernel
theorem dX6_pilotFor_59 : decode cX6_pilotFor 59 = .ok (.astore_n 3, 1) := by decide +kernel
theorem dX6_pilotFor_60 : decode cX6_pilotFor 60 = .ok (.iinc 4 1, 3) := by decide +kernel
theorem dX6_pilotFor_63 : decode cX6_pilotFor 63 = .ok (.goto (-58), 3) := by decide +kernel
theorem dX6_pilotFor_66 : decode cX6_pilotFor 66 = .ok (.aload_n 3, 1) := by decide +kernel
theorem dX6_pilotFor_67 : decode cX6_pilotFor 67 = .ok (.areturn, 1) := by decide +kernel
set_option maxRecDepth 20000 in
theorem ggX6_enter_Jx4a65c_add_9ea2d : GoodIn wsX6_enter wsJx4a65c_add_9ea2d := goodIn_r _ [6, 7, 8, 9, 10, 11, 12, 13, 5, 14, 15, 16, 17, 18, 19, 20, 21, 22, 23, 24, 25, 26, 27, 28, 29, 30, 31, 32, 33, 34, 35, 36, 37, 38, 39, 40, 41, 42, 43, 44, 45, 46, 47, 48, 49, 50, 51, 52, 53, 54, 55, 56, 57, 91, 92, 93] (by decide +kernel) (by decide +kernel)
set_option maxRecDepth 20000 in
theorem gX6_enter_Jx4a65c_add_9ea2d : GoodIn wsX6_enter (wsV RX6 86 RJx4a65c yJx4a65c_add_9ea2d wsJx4a65c_add_9ea2d) := goodIn_app (goodIn_of _ (by decide +kernel)) ggX6_enter_Jx4a65c_add_9ea2d
set_option maxRecDepth 20000 in
theorem ggX6_enter_X1_end : GoodIn wsX6_enter wsX1_end := goodIn_r _ [62, 63, 72, 73, 74, 75, 76, 77, 78] (by decide +kernel) (by decide +kernel)
set_option maxRecDepth 20000 in
theorem gX6_enter_X1_end : GoodIn wsX6_enter (wsV RX6 150 RX1 yX1_end wsX1_end) := goodIn_app (goodIn_of _ (by decide +kernel)) ggX6_enter_X1_end
theorem dX6_enter_0 : decode cX6_enter 0 = .ok (.aload_n 0, 1) := by decide +kernel
theorem dX6_enter_1 : decode cX6_enter 1 = .ok (.getfield 29, 3) := by decide +kernel
theorem dX6_enter_4 : decode cX6_enter 4 = .ok (.aload_n 1, 1) := by decide +kernel
theorem dX6_enter_5 : decode cX6_enter 5 = .ok (.invokevirtual 86, 3) := by decide +kernel
theorem dX6_enter_8 : decode cX6_enter 8 = .ok (.pop, 1) := by decide +kernel
theorem dX6_enter_9 : decode cX6_enter 9 = .ok (.aload_n 1, 1) := by decide +kernel
theorem dX6_enter_10 : decode cX6_enter 10 = .ok (.getfield 133, 3) := by decide +kernel
theorem dX6_enter_13 : decode cX6_enter 13 = .ok (.getfield 139, 3) := by decide +kernel
theorem dX6_enter_16 : decode cX6_enter 16 = .ok (.ifCond .eq 21, 3) := by decide +kernel
theorem dX6_enter_19 : decode cX6_enter 19 = .ok (.aload_n 1, 1) := by decide +kernel
theorem dX6_enter_20 : decode cX6_enter 20 = .ok (.getfield 145, 3) := by decide +kernel
theorem dX6_enter_23 : decode cX6_enter 23 = .ok (.ifnull 14, 3) := by decide +kernel
theorem dX6_enter_26 : decode cX6_enter 26 = .ok (.aload_n 1, 1) := by decide +kernel
theorem dX6_enter_27 : decode cX6_enter 27 = .ok (.getfield 145, 3) := by decide +kernel
theorem dX6_enter_30 : decode cX6_enter 30 = .ok (.aload_n 1, 1) := by decide +kernel
theorem dX6_enter_31 : decode cX6_enter 31 = .ok (.invokevirtual 150, 3) := by decide +kernel
theorem dX6_enter_34 : decode cX6_enter 34 = .ok (.putfield 200, 3) := by decide +kernel
theorem dX6_enter_37 : decode cX6_enter 37 = .ok (.aload_n 1, 1) := by decide +kernel
theorem dX6_enter_38 : decode cX6_enter 38 = .ok (.getfield 133, 3) := by decide +kernel
theorem dX6_enter_41 : decode cX6_enter 41 = .ok (.getfield 188, 3) := by decide +kernel
theorem dX6_enter_44 : decode cX6_enter 44 = .ok (.aload_n 1, 1) := by decide +kernel
theorem dX6_enter_45 : decode cX6_enter 45 = .ok (.putfield 129, 3) := by decide +kernel
theorem dX6_enter_48 : decode cX6_enter 48 = .ok (.aload_n 1, 1) := by decide +kernel
theorem dX6_enter_49 : decode cX6_enter 49 = .ok (.getfield 192, 3) := by decide +kernel
theorem dX6_enter_52 : decode cX6_enter 52 = .ok (.aload_n 1, 1) := by decide +kernel
theorem dX6_enter_53 : decode cX6_enter 53 = .ok (.putfield 199, 3) := by decide +kernel
theorem dX6_enter_56 : decode cX6_enter 56 = .ok (.return_, 1) := by decide +kernel
theorem dJ9_abs_0f7a4_0 : decode cJ9_abs_0f7a4 0 = .ok (.iload_n 0, 1) := by decide +kernel
theorem dJ9_abs_0f7a4_1 : decode cJ9_abs_0f7a4 1 = .ok (.ifCond .ge 8, 3) := by decide +kernel
theorem dJ9_abs_0f7a4_4 : decode cJ9_abs_0f7a4 4 = .ok (.iload_n 0, 1) := by decide +kernel
theorem dJ9_abs_0f7a4_5 : decode cJ9_abs_0f7a4 5 = .ok (.ineg, 1) := by decide +kernel
theorem dJ9_abs_0f7a4_6 : decode cJ9_abs_0f7a4 6 = .ok (.goto 4, 3) := by decide +kernel
theorem dJ9_abs_0f7a4_9 : decode cJ9_abs_0f7a4 9 = .ok (.iload_n 0, 1) := by decide +kernel
theorem dJ9_abs_0f7a4_10 : decode cJ9_abs_0f7a4 10 = .ok (.ireturn, 1) := by decide +kernel
theorem dJ9_max_7cf53_0 : decode cJ9_max_7cf53 0 = .ok (.iload_n 0, 1) := by decide +kernel
theorem dJ9_max_7cf53_1 : decode cJ9_max_7cf53 1 = .ok (.iload_n 1, 1) := by decide +kernel
theorem dJ9_max_7cf53_2 : decode cJ9_max_7cf53 2 = .ok (.if_icmp .lt 7, 3) := by decide +kernel
theorem dJ9_max_7cf53_5 : decode cJ9_max_7cf53 5 = .ok (.iload_n 0, 1) := by decide +kernel
theorem dJ9_max_7cf53_6 : decode cJ9_max_7cf53 6 = .ok (.goto 4, 3) := by decide +kernel
theorem dJ9_max_7cf53_9 : decode cJ9_max_7cf53 9 = .ok (.iload_n 1, 1) := by decide +kernel
theorem dJ9_max_7cf53_10 : decode cJ9_max_7cf53 10 = .ok (.ireturn, 1) := by decide +kernel
theorem dJ9_min_7cf53_0 : decode cJ9_min_7cf53 0 = .ok (.iload_n 0, 1) := by decide +kernel
theorem dJ9_min_7cf53_1 : decode cJ9_min_7cf53 1 = .ok (.iload_n 1, 1) := by decide +kernel
theorem dJ9_min_7cf53_2 : decode cJ9_min_7cf53 2 = .ok (.if_icmp .gt 7, 3) := by decide +kernel
theorem dJ9_min_7cf53_5 : decode cJ9_min_7cf53 5 = .ok (.iload_n 0, 1) := by decide +kernel
theorem dJ9_min_7cf53_6 : decode cJ9_min_7cf53 6 = .ok (.goto 4, 3) := by decide +kernel
theorem dJ9_min_7cf53_9 : decode cJ9_min_7cf53 9 = .ok (.iload_n 1, 1) := by decide +kernel
theorem dJ9_min_7cf53_10 : decode cJ9_min_7cf53 10 = .ok (.ireturn, 1) := by decide +kernel
theorem dJxa1e45_init_da8c8_0 : decode cJxa1e45_init_da8c8 0 = .ok (.aload_n 0, 1) := by decide +kernel
theorem dJxa1e45_init_da8c8_1 : decode cJxa1e45_init_da8c8 1 = .ok (.invokespecial 1, 3) := by decide +kernel
theorem dJxa1e45_init_da8c8_4 : decode cJxa1e45_init_da8c8 4 = .ok (.return_, 1) := by decide +kernel
set_option maxRecDepth 20000 in
theorem ggJxc12de_init_da8c8_Jxa1e45_init_da8c8 : GoodIn wsJxc12de_init_da8c8 wsJxa1e45_init_da8c8 := goodIn_r _ [5, 6, 7, 8] (by decide +kernel) (by decide +kernel)
set_option maxRecDepth 20000 in
theorem gJxc12de_init_da8c8_Jxa1e45_init_da8c8 : GoodIn wsJxc12de_init_da8c8 (wsJxa1e45_init_da8c8) := ggJxc12de_init_da8c8_Jxa1e45_init_da8c8
theorem dJxc12de_init_da8c8_0 : decode cJxc12de_init_da8c8 0 = .ok (.aload_n 0, 1) := by decide +kernel
theorem dJxc12de_init_da8c8_1 : decode cJxc12de_init_da8c8 1 = .ok (.invokespecial 1, 3) := by decide +kernel
theorem dJxc12de_init_da8c8_4 : decode cJxc12de_init_da8c8 4 = .ok (.aload_n 0, 1) := by decide +kernel
theorem dJxc12de_init_da8c8_5 : decode cJxc12de_init_da8c8 5 = .ok (.iconst 0, 1) := by decide +kernel
theorem dJxc12de_init_da8c8_6 : decode cJxc12de_init_da8c8 6 = .ok (.putfield 7, 3) := by decide +kernel
theorem dJxc12de_init_da8c8_9 : decode cJxc12de_init_da8c8 9 = .ok (.return_, 1) := by decide +kernel
set_option maxRecDepth 20000 in
theorem ggJx4a65c_init_da8c8_Jxc12de_init_da8c8 : GoodIn wsJx4a65c_init_da8c8 wsJxc12de_init_da8c8 := goodIn_r _ [6, 7, 8, 9, 10, 11, 12, 13, 14, 15, 16, 17] (by decide +kernel) (by decide +kernel)
set_option maxRecDepth 20000 in
theorem gJx4a65c_init_da8c8_Jxc12de_init_da8c8 : GoodIn wsJx4a65c_init_da8c8 (wsJxc12de_init_da8c8) := ggJx4a65c_init_da8c8_Jxc12de_init_da8c8
theorem dJx4a65c_init_da8c8_0 : decode cJx4a65c_init_da8c8 0 = .ok (.aload_n 0, 1) := by decide +kernel
theorem dJx4a65c_init_da8c8_1 : decode cJx4a65c_init_da8c8 1 = .ok (.invokespecial 1, 3) := by decide +kernel
theorem dJx4a65c_init_da8c8_4 : decode cJx4a65c_init_da8c8 4 = .ok (.aload_n 0, 1) := by decide +kernel
theorem dJx4a65c_init_da8c8_5 : decode cJx4a65c_init_da8c8 5 = .ok (.getstatic 39, 3) := by decide +kernel
theorem dJx4a65c_init_da8c8_8 : decode cJx4a65c_init_da8c8 8 = .ok (.putfield 9, 3) := by decide +kernel
theorem dJx4a65c_init_da8c8_11 : decode cJx4a65c_init_da8c8 11 = .ok (.return_, 1) := by decide +kernel
set_option maxRecDepth 20000 in
theorem ggJx4a65c_grow_92f84_J8_newLength_cabcc : GoodIn wsJx4a65c_grow_92f84 wsJ8_newLength_cabcc := goodIn_r _ [11, 12, 4, 5, 6, 13, 14, 15, 10, 16] (by decide +kernel) (by decide +kernel)
set_option maxRecDepth 20000 in
theorem gJx4a65c_grow_92f84_J8_newLength_cabcc : GoodIn wsJx4a65c_grow_92f84 (va_wsS RJx4a65c 73 yJ8_newLength_cabcc wsJ8_newLength_cabcc) := goodIn_app (goodIn_of _ (by decide +kernel)) ggJx4a65c_grow_92f84_J8_newLength_cabcc
set_option maxRecDepth 20000 in
theorem ggJx4a65c_grow_92f84_J7_copyOf_1904c : GoodIn wsJx4a65c_grow_92f84 wsJ7_copyOf_1904c := goodIn_r _ [20, 21, 22, 23, 24, 25, 26, 19, 27, 28, 29, 30, 31, 5, 32, 33, 34, 35, 36] (by decide +kernel) (by decide +kernel)
set_option maxRecDepth 20000 in
theorem gJx4a65c_grow_92f84_J7_copyOf_1904c : GoodIn wsJx4a65c_grow_92f84 (va_wsS RJx4a65c 66 yJ7_copyOf_1904c wsJ7_copyOf_1904c) := goodIn_app (goodIn_of _ (by decide +kernel)) ggJx4a65c_grow_92f84_J7_copyOf_1904c
theorem dJx4a65c_grow_92f84_0 : decode cJx4a65c_grow_92f84 0 = .ok (.aload_n 0, 1) := by decide +kernel
theorem dJx4a65c_grow_92f84_1 : decode cJx4a65c_grow_92f84 1 = .ok (.getfield 9, 3) := by decide +kernel
theorem dJx4a65c_grow_92f84_4 : decode cJx4a65c_grow_92f84 4 = .ok (.arraylength, 1) := by decide +kernel
theorem dJx4a65c_grow_92f84_5 : decode cJx4a65c_grow_92f84 5 = .ok (.istore_n 2, 1) := by decide +kernel
theorem dJx4a65c_grow_92f84_6 : decode cJx4a65c_grow_92f84 6 = .ok (.iload_n 2, 1) := by decide +kernel
theorem dJx4a65c_grow_92f84_7 : decode cJx4a65c_grow_92f84 7 = .ok (.ifCond .gt 13, 3) := by decide +kernel
theorem dJx4a65c_grow_92f84_10 : decode cJx4a65c_grow_92f84 10 = .ok (.aload_n 0, 1) := by decide +kernel
theorem dJx4a65c_grow_92f84_11 : decode cJx4a65c_grow_92f84 11 = .ok (.getfield 9, 3) := by decide +kernel
theorem dJx4a65c_grow_92f84_14 : decode cJx4a65c_grow_92f84 14 = .ok (.getstatic 39, 3) := by decide +kernel
theorem dJx4a65c_grow_92f84_17 : decode cJx4a65c_grow_92f84 17 = .ok (.if_acmp .eq 28, 3) := by decide +kernel
theorem dJx4a65c_grow_92f84_20 : decode cJx4a65c_grow_92f84 20 = .ok (.iload_n 2, 1) := by decide +kernel
theorem dJx4a65c_grow_92f84_21 : decode cJx4a65c_grow_92f84 21 = .ok (.iload_n 1, 1) := by decide +kernel
theorem dJx4a65c_grow_92f84_22 : decode cJx4a65c_grow_92f84 22 = .ok (.iload_n 2, 1) := by decide +kernel
theorem dJx4a65c_grow_92f84_23 : decode cJx4a65c_grow_92f84 23 = .ok (.isub, 1) := by decide +kernel
theorem dJx4a65c_grow_92f84_24 : decode cJx4a65c_grow_92f84 24 = .ok (.iload_n 2, 1) := by decide +kernel
theorem dJx4a65c_grow_92f84_25 : decode cJx4a65c_grow_92f84 25 = .ok (.iconst 1, 1) := by decide +kernel
theorem dJx4a65c_grow_92f84_26 : decode cJx4a65c_grow_92f84 26 = .ok (.ishr, 1) := by decide +kernel
theorem dJx4a65c_grow_92f84_27 : decode cJx4a65c_grow_92f84 27 = .ok (.invokestatic 73, 3) := by decide +kernel
theorem dJx4a65c_grow_92f84_30 : decode cJx4a65c_grow_92f84 30 = .ok (.istore_n 3, 1) := by decide +kernel
theorem dJx4a65c_grow_92f84_31 : decode cJx4a65c_grow_92f84 31 = .ok (.aload_n 0, 1) := by decide +kernel
theorem dJx4a65c_grow_92f84_32 : decode cJx4a65c_grow_92f84 32 = .ok (.aload_n 0, 1) := by decide +kernel
theorem dJx4a65c_grow_92f84_33 : decode cJx4a65c_grow_92f84 33 = .ok (.getfield 9, 3) := by decide +kernel
theorem dJx4a65c_grow_92f84_36 : decode cJx4a65c_grow_92f84 36 = .ok (.iload_n 3, 1) := by decide +kernel
theorem dJx4a65c_grow_92f84_37 : decode cJx4a65c_grow_92f84 37 = .ok (.invokestatic 66, 3) := by decide +kernel
theorem dJx4a65c_grow_92f84_40 : decode cJx4a65c_grow_92f84 40 = .ok (.dup_x1, 1) := by decide +kernel
theorem dJx4a65c_grow_92f84_41 : decode cJx4a65c_grow_92f84 41 = .ok (.putfield 9, 3) := by decide +kernel
theorem dJx4a65c_grow_92f84_44 : decode cJx4a65c_grow_92f84 44 = .ok (.areturn, 1) := by decide +kernel
theorem dJx4a65c_grow_92f84_45 : decode cJx4a65c_grow_92f84 45 = .ok (.aload_n 0, 1) := by decide +kernel
theorem dJx4a65c_grow_92f84_46 : decode cJx4a65c_grow_92f84 46 = .ok (.bipush 10, 2) := by decide +kernel
theorem dJx4a65c_grow_92f84_48 : decode cJx4a65c_grow_92f84 48 = .ok (.iload_n 1, 1) := by decide +kernel
theorem dJx4a65c_grow_92f84_49 : decode cJx4a65c_grow_92f84 49 = .ok (.invokestatic 79, 3) := by decide +kernel
theorem dJx4a65c_grow_92f84_52 : decode cJx4a65c_grow_92f84 52 = .ok (.anewarray 7, 3) := by decide +kernel
theorem dJx4a65c_grow_92f84_55 : decode cJx4a65c_grow_92f84 55 = .ok (.dup_x1, 1) := by decide +kernel
theorem dJx4a65c_grow_92f84_56 : decode cJx4a65c_grow_92f84 56 = .ok (.putfield 9, 3) := by decide +kernel
theorem dJx4a65c_grow_92f84_59 : decode cJx4a65c_grow_92f84 59 = .ok (.areturn, 1) := by decide +kernel
set_option maxRecDepth 20000 in
theorem ggJx4a65c_grow_d5877_Jx4a65c_grow_92f84 : GoodIn wsJx4a65c_grow_d5877 wsJx4a65c_grow_92f84 := goodIn_r _ [6, 7, 8, 9, 10, 11, 12, 13, 14, 15, 16, 17, 18, 19, 20, 21, 22, 23, 24, 25, 26, 27, 28, 29, 30, 31, 32, 33, 34, 35, 36, 37, 38, 39, 40, 41, 42, 43, 44, 45] (by decide +kernel) (by decide +kernel)
set_option maxRecDepth 20000 in
theorem gJx4a65c_grow_d5877_Jx4a65c_grow_92f84 : GoodIn wsJx4a65c_grow_d5877 (wsV RJx4a65c 69 RJx4a65c yJx4a65c_grow_92f84 wsJx4a65c_grow_92f84) := goodIn_app (goodIn_of _ (by decide +kernel)) ggJx4a65c_grow_d5877_Jx4a65c_grow_92f84
theorem dJx4a65c_grow_d5877_0 : decode cJx4a65c_grow_d5877 0 = .ok (.aload_n 0, 1) := by decide +kernel
theorem dJx4a65c_grow_d5877_1 : decode cJx4a65c_grow_d5877 1 = .ok (.aload_n 0, 1) := by decide +kernel
