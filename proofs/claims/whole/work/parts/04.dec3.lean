theorem dX7_heightAt_118 : decode cX7_heightAt 118 = .ok (.iload_n 3, 1) := by decide +kernel
theorem dX7_heightAt_119 : decode cX7_heightAt 119 = .ok (.iaload, 1) := by decide +kernel
theorem dX7_heightAt_120 : decode cX7_heightAt 120 = .ok (.isub, 1) := by decide +kernel
theorem dX7_heightAt_121 : decode cX7_heightAt 121 = .ok (.idiv, 1) := by decide +kernel
theorem dX7_heightAt_122 : decode cX7_heightAt 122 = .ok (.iadd, 1) := by decide +kernel
theorem dX7_heightAt_123 : decode cX7_heightAt 123 = .ok (.ireturn, 1) := by decide +kernel
set_option maxRecDepth 20000 in
theorem ggX7_height_X7_isTime : GoodIn wsX7_height wsX7_isTime := goodIn_r _ [5, 6, 7, 4, 8] (by decide +kernel) (by decide +kernel)
set_option maxRecDepth 20000 in
theorem gX7_height_X7_isTime : GoodIn wsX7_height (va_wsS RX7 61 yX7_isTime wsX7_isTime) := goodIn_app (goodIn_of _ (by decide +kernel)) ggX7_height_X7_isTime
set_option maxRecDepth 20000 in
theorem ggX7_height_X7_heightAt : GoodIn wsX7_height wsX7_heightAt := goodIn_r _ [12, 13, 14, 15, 20, 21, 22, 23, 24, 25, 26, 27, 28, 29, 30, 31, 32, 33, 34, 35, 36, 37] (by decide +kernel) (by decide +kernel)
set_option maxRecDepth 20000 in
theorem gX7_height_X7_heightAt : GoodIn wsX7_height (wsV RX7 75 RX7 yX7_heightAt wsX7_heightAt) := goodIn_app (goodIn_of _ (by decide +kernel)) ggX7_height_X7_heightAt
set_option maxRecDepth 20000 in
theorem ggX7_height_X7_fail : GoodIn wsX7_height wsX7_fail := goodIn_r _ [19, 1, 20, 21, 22, 23, 24, 25, 26, 27, 28, 29, 30, 31, 32, 33, 34, 35, 36, 37] (by decide +kernel) (by decide +kernel)
set_option maxRecDepth 20000 in
theorem gX7_height_X7_fail : GoodIn wsX7_height (wsV RX7 65 RX7 yX7_fail wsX7_fail) := goodIn_app (goodIn_of _ (by decide +kernel)) ggX7_height_X7_fail
theorem dX7_height_0 : decode cX7_height 0 = .ok (.aload_n 0, 1) := by decide +kernel
theorem dX7_height_1 : decode cX7_height 1 = .ok (.iconst 0, 1) := by decide +kernel
theorem dX7_height_2 : decode cX7_height 2 = .ok (.putfield 48, 3) := by decide +kernel
theorem dX7_height_5 : decode cX7_height 5 = .ok (.iload_n 1, 1) := by decide +kernel
theorem dX7_height_6 : decode cX7_height 6 = .ok (.invokestatic 61, 3) := by decide +kernel
theorem dX7_height_9 : decode cX7_height 9 = .ok (.ifCond .eq 11, 3) := by decide +kernel
theorem dX7_height_12 : decode cX7_height 12 = .ok (.aload_n 0, 1) := by decide +kernel
theorem dX7_height_13 : decode cX7_height 13 = .ok (.iload_n 1, 1) := by decide +kernel
theorem dX7_height_14 : decode cX7_height 14 = .ok (.invokevirtual 75, 3) := by decide +kernel
theorem dX7_height_17 : decode cX7_height 17 = .ok (.goto 8, 3) := by decide +kernel
theorem dX7_height_20 : decode cX7_height 20 = .ok (.aload_n 0, 1) := by decide +kernel
theorem dX7_height_21 : decode cX7_height 21 = .ok (.iconst 1, 1) := by decide +kernel
theorem dX7_height_22 : decode cX7_height 22 = .ok (.invokevirtual 65, 3) := by decide +kernel
theorem dX7_height_25 : decode cX7_height 25 = .ok (.ireturn, 1) := by decide +kernel
set_option maxRecDepth 20000 in
theorem ggX7_setWater_X7_isIn : GoodIn wsX7_setWater wsX7_isIn := goodIn_r _ [7] (by decide +kernel) (by decide +kernel)
set_option maxRecDepth 20000 in
theorem gX7_setWater_X7_isIn : GoodIn wsX7_setWater (va_wsS RX7 51 yX7_isIn wsX7_isIn) := goodIn_app (goodIn_of _ (by decide +kernel)) ggX7_setWater_X7_isIn
set_option maxRecDepth 20000 in
theorem ggX7_setWater_X7_fail : GoodIn wsX7_setWater wsX7_fail := goodIn_r _ [11, 1, 12, 13, 14, 15, 16, 17, 18, 19, 20, 21, 22, 23, 24, 25, 26, 27, 28, 29] (by decide +kernel) (by decide +kernel)
set_option maxRecDepth 20000 in
theorem gX7_setWater_X7_fail : GoodIn wsX7_setWater (wsV RX7 65 RX7 yX7_fail wsX7_fail) := goodIn_app (goodIn_of _ (by decide +kernel)) ggX7_setWater_X7_fail
theorem dX7_setWater_0 : decode cX7_setWater 0 = .ok (.aload_n 0, 1) := by decide +kernel
theorem dX7_setWater_1 : decode cX7_setWater 1 = .ok (.iconst 0, 1) := by decide +kernel
theorem dX7_setWater_2 : decode cX7_setWater 2 = .ok (.putfield 48, 3) := by decide +kernel
theorem dX7_setWater_5 : decode cX7_setWater 5 = .ok (.iload_n 1, 1) := by decide +kernel
theorem dX7_setWater_6 : decode cX7_setWater 6 = .ok (.sipush 300, 3) := by decide +kernel
theorem dX7_setWater_9 : decode cX7_setWater 9 = .ok (.sipush 2500, 3) := by decide +kernel
theorem dX7_setWater_12 : decode cX7_setWater 12 = .ok (.invokestatic 51, 3) := by decide +kernel
theorem dX7_setWater_15 : decode cX7_setWater 15 = .ok (.ifCond .eq 14, 3) := by decide +kernel
theorem dX7_setWater_18 : decode cX7_setWater 18 = .ok (.iload_n 2, 1) := by decide +kernel
theorem dX7_setWater_19 : decode cX7_setWater 19 = .ok (.iconst 0, 1) := by decide +kernel
theorem dX7_setWater_20 : decode cX7_setWater 20 = .ok (.sipush 500, 3) := by decide +kernel
theorem dX7_setWater_23 : decode cX7_setWater 23 = .ok (.invokestatic 51, 3) := by decide +kernel
theorem dX7_setWater_26 : decode cX7_setWater 26 = .ok (.ifCond .ne 9, 3) := by decide +kernel
theorem dX7_setWater_29 : decode cX7_setWater 29 = .ok (.aload_n 0, 1) := by decide +kernel
theorem dX7_setWater_30 : decode cX7_setWater 30 = .ok (.iconst 1, 1) := by decide +kernel
theorem dX7_setWater_31 : decode cX7_setWater 31 = .ok (.invokevirtual 65, 3) := by decide +kernel
theorem dX7_setWater_34 : decode cX7_setWater 34 = .ok (.ireturn, 1) := by decide +kernel
theorem dX7_setWater_35 : decode cX7_setWater 35 = .ok (.aload_n 0, 1) := by decide +kernel
theorem dX7_setWater_36 : decode cX7_setWater 36 = .ok (.getfield 16, 3) := by decide +kernel
theorem dX7_setWater_39 : decode cX7_setWater 39 = .ok (.istore_n 3, 1) := by decide +kernel
theorem dX7_setWater_40 : decode cX7_setWater 40 = .ok (.aload_n 0, 1) := by decide +kernel
theorem dX7_setWater_41 : decode cX7_setWater 41 = .ok (.iload_n 1, 1) := by decide +kernel
theorem dX7_setWater_42 : decode cX7_setWater 42 = .ok (.putfield 16, 3) := by decide +kernel
theorem dX7_setWater_45 : decode cX7_setWater 45 = .ok (.aload_n 0, 1) := by decide +kernel
theorem dX7_setWater_46 : decode cX7_setWater 46 = .ok (.iload_n 2, 1) := by decide +kernel
theorem dX7_setWater_47 : decode cX7_setWater 47 = .ok (.putfield 20, 3) := by decide +kernel
theorem dX7_setWater_50 : decode cX7_setWater 50 = .ok (.iload_n 3, 1) := by decide +kernel
theorem dX7_setWater_51 : decode cX7_setWater 51 = .ok (.ireturn, 1) := by decide +kernel
set_option maxRecDepth 20000 in
theorem ggX7_addBerth_X7_isIn : GoodIn wsX7_addBerth wsX7_isIn := goodIn_r _ [8] (by decide +kernel) (by decide +kernel)
set_option maxRecDepth 20000 in
theorem gX7_addBerth_X7_isIn : GoodIn wsX7_addBerth (va_wsS RX7 51 yX7_isIn wsX7_isIn) := goodIn_app (goodIn_of _ (by decide +kernel)) ggX7_addBerth_X7_isIn
set_option maxRecDepth 20000 in
theorem ggX7_addBerth_X7_fail : GoodIn wsX7_addBerth wsX7_fail := goodIn_r _ [12, 1, 13, 14, 15, 16, 17, 18, 19, 20, 21, 22, 23, 24, 25, 26, 27, 28, 29, 30] (by decide +kernel) (by decide +kernel)
set_option maxRecDepth 20000 in
theorem gX7_addBerth_X7_fail : GoodIn wsX7_addBerth (wsV RX7 65 RX7 yX7_fail wsX7_fail) := goodIn_app (goodIn_of _ (by decide +kernel)) ggX7_addBerth_X7_fail
theorem dX7_addBerth_0 : decode cX7_addBerth 0 = .ok (.aload_n 0, 1) := by decide +kernel
theorem dX7_addBerth_1 : decode cX7_addBerth 1 = .ok (.iconst 0, 1) := by decide +kernel
theorem dX7_addBerth_2 : decode cX7_addBerth 2 = .ok (.putfield 48, 3) := by decide +kernel
theorem dX7_addBerth_5 : decode cX7_addBerth 5 = .ok (.iload_n 1, 1) := by decide +kernel
theorem dX7_addBerth_6 : decode cX7_addBerth 6 = .ok (.bipush 20, 2) := by decide +kernel
theorem dX7_addBerth_8 : decode cX7_addBerth 8 = .ok (.sipush 400, 3) := by decide +kernel
theorem dX7_addBerth_11 : decode cX7_addBerth 11 = .ok (.invokestatic 51, 3) := by decide +kernel
theorem dX7_addBerth_14 : decode cX7_addBerth 14 = .ok (.ifCond .eq 16, 3) := by decide +kernel
theorem dX7_addBerth_17 : decode cX7_addBerth 17 = .ok (.iload_n 2, 1) := by decide +kernel
theorem dX7_addBerth_18 : decode cX7_addBerth 18 = .ok (.sipush 300, 3) := by decide +kernel
theorem dX7_addBerth_21 : decode cX7_addBerth 21 = .ok (.sipush 2500, 3) := by decide +kernel
theorem dX7_addBerth_24 : decode cX7_addBerth 24 = .ok (.invokestatic 51, 3) := by decide +kernel
theorem dX7_addBerth_27 : decode cX7_addBerth 27 = .ok (.ifCond .ne 9, 3) := by decide +kernel
theorem dX7_addBerth_30 : decode cX7_addBerth 30 = .ok (.aload_n 0, 1) := by decide +kernel
theorem dX7_addBerth_31 : decode cX7_addBerth 31 = .ok (.iconst 1, 1) := by decide +kernel
theorem dX7_addBerth_32 : decode cX7_addBerth 32 = .ok (.invokevirtual 65, 3) := by decide +kernel
theorem dX7_addBerth_35 : decode cX7_addBerth 35 = .ok (.ireturn, 1) := by decide +kernel
theorem dX7_addBerth_36 : decode cX7_addBerth 36 = .ok (.aload_n 0, 1) := by decide +kernel
theorem dX7_addBerth_37 : decode cX7_addBerth 37 = .ok (.getfield 58, 3) := by decide +kernel
theorem dX7_addBerth_40 : decode cX7_addBerth 40 = .ok (.bipush 6, 2) := by decide +kernel
theorem dX7_addBerth_42 : decode cX7_addBerth 42 = .ok (.if_icmp .ne 9, 3) := by decide +kernel
theorem dX7_addBerth_45 : decode cX7_addBerth 45 = .ok (.aload_n 0, 1) := by decide +kernel
theorem dX7_addBerth_46 : decode cX7_addBerth 46 = .ok (.iconst 2, 1) := by decide +kernel
theorem dX7_addBerth_47 : decode cX7_addBerth 47 = .ok (.invokevirtual 65, 3) := by decide +kernel
theorem dX7_addBerth_50 : decode cX7_addBerth 50 = .ok (.ireturn, 1) := by decide +kernel
theorem dX7_addBerth_51 : decode cX7_addBerth 51 = .ok (.aload_n 0, 1) := by decide +kernel
theorem dX7_addBerth_52 : decode cX7_addBerth 52 = .ok (.getfield 23, 3) := by decide +kernel
theorem dX7_addBerth_55 : decode cX7_addBerth 55 = .ok (.aload_n 0, 1) := by decide +kernel
theorem dX7_addBerth_56 : decode cX7_addBerth 56 = .ok (.getfield 58, 3) := by decide +kernel
theorem dX7_addBerth_59 : decode cX7_addBerth 59 = .ok (.iload_n 1, 1) := by decide +kernel
theorem dX7_addBerth_60 : decode cX7_addBerth 60 = .ok (.iastore, 1) := by decide +kernel
theorem dX7_addBerth_61 : decode cX7_addBerth 61 = .ok (.aload_n 0, 1) := by decide +kernel
theorem dX7_addBerth_62 : decode cX7_addBerth 62 = .ok (.getfield 26, 3) := by decide +kernel
theorem dX7_addBerth_65 : decode cX7_addBerth 65 = .ok (.aload_n 0, 1) := by decide +kernel
theorem dX7_addBerth_66 : decode cX7_addBerth 66 = .ok (.getfield 58, 3) := by decide +kernel
theorem dX7_addBerth_69 : decode cX7_addBerth 69 = .ok (.iload_n 2, 1) := by decide +kernel
theorem dX7_addBerth_70 : decode cX7_addBerth 70 = .ok (.iastore, 1) := by decide +kernel
theorem dX7_addBerth_71 : decode cX7_addBerth 71 = .ok (.aload_n 0, 1) := by decide +kernel
theorem dX7_addBerth_72 : decode cX7_addBerth 72 = .ok (.dup, 1) := by decide +kernel
theorem dX7_addBerth_73 : decode cX7_addBerth 73 = .ok (.getfield 58, 3) := by decide +kernel
theorem dX7_addBerth_76 : decode cX7_addBerth 76 = .ok (.iconst 1, 1) := by decide +kernel
theorem dX7_addBerth_77 : decode cX7_addBerth 77 = .ok (.iadd, 1) := by decide +kernel
theorem dX7_addBerth_78 : decode cX7_addBerth 78 = .ok (.putfield 58, 3) := by decide +kernel
theorem dX7_addBerth_81 : decode cX7_addBerth 81 = .ok (.aload_n 0, 1) := by decide +kernel
theorem dX7_addBerth_82 : decode cX7_addBerth 82 = .ok (.getfield 58, 3) := by decide +kernel
theorem dX7_addBerth_85 : decode cX7_addBerth 85 = .ok (.iconst 1, 1) := by decide +kernel
theorem dX7_addBerth_86 : decode cX7_addBerth 86 = .ok (.isub, 1) := by decide +kernel
theorem dX7_addBerth_87 : decode cX7_addBerth 87 = .ok (.ireturn, 1) := by decide +kernel
set_option maxRecDepth 20000 in
theorem ggX7_addShip_X7_isIn : GoodIn wsX7_addShip wsX7_isIn := goodIn_r _ [8] (by decide +kernel) (by decide +kernel)
set_option maxRecDepth 20000 in
theorem gX7_addShip_X7_isIn : GoodIn wsX7_addShip (va_wsS RX7 51 yX7_isIn wsX7_isIn) := goodIn_app (goodIn_of _ (by decide +kernel)) ggX7_addShip_X7_isIn
set_option maxRecDepth 20000 in
theorem ggX7_addShip_X7_fail : GoodIn wsX7_addShip wsX7_fail := goodIn_r _ [12, 1, 13, 14, 15, 16, 17, 18, 19, 20, 21, 22, 23, 24, 25, 26, 27, 28, 29, 30] (by decide +kernel) (by decide +kernel)
set_option maxRecDepth 20000 in
theorem gX7_addShip_X7_fail : GoodIn wsX7_addShip (wsV RX7 65 RX7 yX7_fail wsX7_fail) := goodIn_app (goodIn_of _ (by decide +kernel)) ggX7_addShip_X7_fail
theorem dX7_addShip_0 : decode cX7_addShip 0 = .ok (.aload_n 0, 1) := by decide +kernel
theorem dX7_addShip_1 : decode cX7_addShip 1 = .ok (.iconst 0, 1) := by decide +kernel
theorem dX7_addShip_2 : decode cX7_addShip 2 = .ok (.putfield 48, 3) := by decide +kernel
theorem dX7_addShip_5 : decode cX7_addShip 5 = .ok (.iload_n 1, 1) := by decide +kernel
theorem dX7_addShip_6 : decode cX7_addShip 6 = .ok (.bipush 20, 2) := by decide +kernel
theorem dX7_addShip_8 : decode cX7_addShip 8 = .ok (.sipush 400, 3) := by decide +kernel
theorem dX7_addShip_11 : decode cX7_addShip 11 = .ok (.invokestatic 51, 3) := by decide +kernel
theorem dX7_addShip_14 : decode cX7_addShip 14 = .ok (.ifCond .eq 15, 3) := by decide +kernel
theorem dX7_addShip_17 : decode cX7_addShip 17 = .ok (.iload_n 2, 1) := by decide +kernel
theorem dX7_addShip_18 : decode cX7_addShip 18 = .ok (.bipush 100, 2) := by decide +kernel
theorem dX7_addShip_20 : decode cX7_addShip 20 = .ok (.sipush 2000, 3) := by decide +kernel
theorem dX7_addShip_23 : decode cX7_addShip 23 = .ok (.invokestatic 51, 3) := by decide +kernel
theorem dX7_addShip_26 : decode cX7_addShip 26 = .ok (.ifCond .ne 9, 3) := by decide +kernel
theorem dX7_addShip_29 : decode cX7_addShip 29 = .ok (.aload_n 0, 1) := by decide +kernel
theorem dX7_addShip_30 : decode cX7_addShip 30 = .ok (.iconst 1, 1) := by decide +kernel
theorem dX7_addShip_31 : decode cX7_addShip 31 = .ok (.invokevirtual 65, 3) := by decide +kernel
theorem dX7_addShip_34 : decode cX7_addShip 34 = .ok (.ireturn, 1) := by decide +kernel
theorem dX7_addShip_35 : decode cX7_addShip 35 = .ok (.aload_n 0, 1) := by decide +kernel
theorem dX7_addShip_36 : decode cX7_addShip 36 = .ok (.getfield 55, 3) := by decide +kernel
theorem dX7_addShip_39 : decode cX7_addShip 39 = .ok (.bipush 16, 2) := by decide +kernel
theorem dX7_addShip_41 : decode cX7_addShip 41 = .ok (.if_icmp .ne 9, 3) := by decide +kernel
theorem dX7_addShip_44 : decode cX7_addShip 44 = .ok (.aload_n 0, 1) := by decide +kernel
theorem dX7_addShip_45 : decode cX7_addShip 45 = .ok (.iconst 2, 1) := by decide +kernel
theorem dX7_addShip_46 : decode cX7_addShip 46 = .ok (.invokevirtual 65, 3) := by decide +kernel
theorem dX7_addShip_49 : decode cX7_addShip 49 = .ok (.ireturn, 1) := by decide +kernel
theorem dX7_addShip_50 : decode cX7_addShip 50 = .ok (.aload_n 0, 1) := by decide +kernel
theorem dX7_addShip_51 : decode cX7_addShip 51 = .ok (.getfield 29, 3) := by decide +kernel
theorem dX7_addShip_54 : decode cX7_addShip 54 = .ok (.aload_n 0, 1) := by decide +kernel
theorem dX7_addShip_55 : decode cX7_addShip 55 = .ok (.getfield 55, 3) := by decide +kernel
theorem dX7_addShip_58 : decode cX7_addShip 58 = .ok (.iload_n 1, 1) := by decide +kernel
theorem dX7_addShip_59 : decode cX7_addShip 59 = .ok (.iastore, 1) := by decide +kernel
theorem dX7_addShip_60 : decode cX7_addShip 60 = .ok (.aload_n 0, 1) := by decide +kernel
theorem dX7_addShip_61 : decode cX7_addShip 61 = .ok (.getfield 32, 3) := by decide +kernel
theorem dX7_addShip_64 : decode cX7_addShip 64 = .ok (.aload_n 0, 1) := by decide +kernel
theorem dX7_addShip_65 : decode cX7_addShip 65 = .ok (.getfield 55, 3) := by decide +kernel
theorem dX7_addShip_68 : decode cX7_addShip 68 = .ok (.iload_n 2, 1) := by decide +kernel
theorem dX7_addShip_69 : decode cX7_addShip 69 = .ok (.iastore, 1) := by decide +kernel
theorem dX7_addShip_70 : decode cX7_addShip 70 = .ok (.aload_n 0, 1) := by decide +kernel
theorem dX7_addShip_71 : decode cX7_addShip 71 = .ok (.dup, 1) := by decide +kernel
theorem dX7_addShip_72 : decode cX7_addShip 72 = .ok (.getfield 55, 3) := by decide +kernel
theorem dX7_addShip_75 : decode cX7_addShip 75 = .ok (.iconst 1, 1) := by decide +kernel
theorem dX7_addShip_76 : decode cX7_addShip 76 = .ok (.iadd, 1) := by decide +kernel
theorem dX7_addShip_77 : decode cX7_addShip 77 = .ok (.putfield 55, 3) := by decide +kernel
theorem dX7_addShip_80 : decode cX7_addShip 80 = .ok (.aload_n 0, 1) := by decide +kernel
theorem dX7_addShip_81 : decode cX7_addShip 81 = .ok (.getfield 55, 3) := by decide +kernel
theorem dX7_addShip_84 : decode cX7_addShip 84 = .ok (.iconst 1, 1) := by decide +kernel
theorem dX7_addShip_85 : decode cX7_addShip 85 = .ok (.isub, 1) := by decide +kernel
theorem dX7_addShip_86 : decode cX7_addShip 86 = .ok (.ireturn, 1) := by decide +kernel
set_option maxRecDepth 20000 in
theorem ggX7_load_X7_isShip : GoodIn wsX7_load wsX7_isShip := goodIn_r _ [7, 8, 9, 10, 6, 11, 16, 17, 18, 19, 20, 21, 22, 23, 24, 25, 26, 27, 28, 29, 30, 31, 32, 33] (by decide +kernel) (by decide +kernel)
set_option maxRecDepth 20000 in
theorem gX7_load_X7_isShip : GoodIn wsX7_load (wsV RX7 78 RX7 yX7_isShip wsX7_isShip) := goodIn_app (goodIn_of _ (by decide +kernel)) ggX7_load_X7_isShip
set_option maxRecDepth 20000 in
theorem ggX7_load_X7_fail : GoodIn wsX7_load wsX7_fail := goodIn_r _ [15, 1, 16, 17, 18, 19, 20, 21, 22, 23, 24, 25, 26, 27, 28, 29, 30, 31, 32, 33] (by decide +kernel) (by decide +kernel)
set_option maxRecDepth 20000 in
theorem gX7_load_X7_fail : GoodIn wsX7_load (wsV RX7 65 RX7 yX7_fail wsX7_fail) := goodIn_app (goodIn_of _ (by decide +kernel)) ggX7_load_X7_fail
set_option maxRecDepth 20000 in
theorem ggX7_load_X7_isIn : GoodIn wsX7_load wsX7_isIn := goodIn_r _ [11] (by decide +kernel) (by decide +kernel)
set_option maxRecDepth 20000 in
theorem gX7_load_X7_isIn : GoodIn wsX7_load (va_wsS RX7 51 yX7_isIn wsX7_isIn) := goodIn_app (goodIn_of _ (by decide +kernel)) ggX7_load_X7_isIn
theorem dX7_load_0 : decode cX7_load 0 = .ok (.aload_n 0, 1) := by decide +kernel
theorem dX7_load_1 : decode cX7_load 1 = .ok (.iconst 0, 1) := by decide +kernel
theorem dX7_load_2 : decode cX7_load 2 = .ok (.putfield 48, 3) := by decide +kernel
theorem dX7_load_5 : decode cX7_load 5 = .ok (.aload_n 0, 1) := by decide +kernel
theorem dX7_load_6 : decode cX7_load 6 = .ok (.iload_n 1, 1) := by decide +kernel
theorem dX7_load_7 : decode cX7_load 7 = .ok (.invokevirtual 78, 3) := by decide +kernel
theorem dX7_load_10 : decode cX7_load 10 = .ok (.ifCond .ne 9, 3) := by decide +kernel
theorem dX7_load_13 : decode cX7_load 13 = .ok (.aload_n 0, 1) := by decide +kernel
theorem dX7_load_14 : decode cX7_load 14 = .ok (.iconst 1, 1) := by decide +kernel
theorem dX7_load_15 : decode cX7_load 15 = .ok (.invokevirtual 65, 3) := by decide +kernel
theorem dX7_load_18 : decode cX7_load 18 = .ok (.ireturn, 1) := by decide +kernel
theorem dX7_load_19 : decode cX7_load 19 = .ok (.iload_n 2, 1) := by decide +kernel
theorem dX7_load_20 : decode cX7_load 20 = .ok (.bipush 100, 2) := by decide +kernel
theorem dX7_load_22 : decode cX7_load 22 = .ok (.sipush 2000, 3) := by decide +kernel
theorem dX7_load_25 : decode cX7_load 25 = .ok (.invokestatic 51, 3) := by decide +kernel
theorem dX7_load_28 : decode cX7_load 28 = .ok (.ifCond .ne 9, 3) := by decide +kernel
theorem dX7_load_31 : decode cX7_load 31 = .ok (.aload_n 0, 1) := by decide +kernel
theorem dX7_load_32 : decode cX7_load 32 = .ok (.iconst 2, 1) := by decide +kernel
theorem dX7_load_33 : decode cX7_load 33 = .ok (.invokevirtual 65, 3) := by decide +kernel
theorem dX7_load_36 : decode cX7_load 36 = .ok (.ireturn, 1) := by decide +kernel
theorem dX7_load_37 : decode cX7_load 37 = .ok (.aload_n 0, 1) := by decide +kernel
theorem dX7_load_38 : decode cX7_load 38 = .ok (.getfield 32, 3) := by decide +kernel
theorem dX7_load_41 : decode cX7_load 41 = .ok (.iload_n 1, 1) := by decide +kernel
theorem dX7_load_42 : decode cX7_load 42 = .ok (.iaload, 1) := by decide +kernel
theorem dX7_load_43 : decode cX7_load 43 = .ok (.istore_n 3, 1) := by decide +kernel
theorem dX7_load_44 : decode cX7_load 44 = .ok (.aload_n 0, 1) := by decide +kernel
theorem dX7_load_45 : decode cX7_load 45 = .ok (.getfield 32, 3) := by decide +kernel
theorem dX7_load_48 : decode cX7_load 48 = .ok (.iload_n 1, 1) := by decide +kernel
theorem dX7_load_49 : decode cX7_load 49 = .ok (.iload_n 2, 1) := by decide +kernel
theorem dX7_load_50 : decode cX7_load 50 = .ok (.iastore, 1) := by decide +kernel
theorem dX7_load_51 : decode cX7_load 51 = .ok (.iload_n 3, 1) := by decide +kernel
theorem dX7_load_52 : decode cX7_load 52 = .ok (.ireturn, 1) := by decide +kernel
set_option maxRecDepth 20000 in
theorem ggX7_addPilot_X7_isIn : GoodIn wsX7_addPilot wsX7_isIn := goodIn_r _ [8] (by decide +kernel) (by decide +kernel)
set_option maxRecDepth 20000 in
theorem gX7_addPilot_X7_isIn : GoodIn wsX7_addPilot (va_wsS RX7 51 yX7_isIn wsX7_isIn) := goodIn_app (goodIn_of _ (by decide +kernel)) ggX7_addPilot_X7_isIn
set_option maxRecDepth 20000 in
theorem ggX7_addPilot_X7_fail : GoodIn wsX7_addPilot wsX7_fail := goodIn_r _ [12, 1, 13, 14, 15, 16, 17, 18, 19, 20, 21, 22, 23, 24, 25, 26, 27, 28, 29, 30] (by decide +kernel) (by decide +kernel)
set_option maxRecDepth 20000 in
theorem gX7_addPilot_X7_fail : GoodIn wsX7_addPilot (wsV RX7 65 RX7 yX7_fail wsX7_fail) := goodIn_app (goodIn_of _ (by decide +kernel)) ggX7_addPilot_X7_fail
theorem dX7_addPilot_0 : decode cX7_addPilot 0 = .ok (.aload_n 0, 1) := by decide +kernel
theorem dX7_addPilot_1 : decode cX7_addPilot 1 = .ok (.iconst 0, 1) := by decide +kernel
theorem dX7_addPilot_2 : decode cX7_addPilot 2 = .ok (.putfield 48, 3) := by decide +kernel
theorem dX7_addPilot_5 : decode cX7_addPilot 5 = .ok (.iload_n 1, 1) := by decide +kernel
theorem dX7_addPilot_6 : decode cX7_addPilot 6 = .ok (.bipush 20, 2) := by decide +kernel
theorem dX7_addPilot_8 : decode cX7_addPilot 8 = .ok (.sipush 400, 3) := by decide +kernel
theorem dX7_addPilot_11 : decode cX7_addPilot 11 = .ok (.invokestatic 51, 3) := by decide +kernel
theorem dX7_addPilot_14 : decode cX7_addPilot 14 = .ok (.ifCond .ne 9, 3) := by decide +kernel
theorem dX7_addPilot_17 : decode cX7_addPilot 17 = .ok (.aload_n 0, 1) := by decide +kernel
theorem dX7_addPilot_18 : decode cX7_addPilot 18 = .ok (.iconst 1, 1) := by decide +kernel
theorem dX7_addPilot_19 : decode cX7_addPilot 19 = .ok (.invokevirtual 65, 3) := by decide +kernel
theorem dX7_addPilot_22 : decode cX7_addPilot 22 = .ok (.ireturn, 1) := by decide +kernel
theorem dX7_addPilot_23 : decode cX7_addPilot 23 = .ok (.aload_n 0, 1) := by decide +kernel
theorem dX7_addPilot_24 : decode cX7_addPilot 24 = .ok (.getfield 81, 3) := by decide +kernel
theorem dX7_addPilot_27 : decode cX7_addPilot 27 = .ok (.bipush 6, 2) := by decide +kernel
theorem dX7_addPilot_29 : decode cX7_addPilot 29 = .ok (.if_icmp .ne 9, 3) := by decide +kernel
theorem dX7_addPilot_32 : decode cX7_addPilot 32 = .ok (.aload_n 0, 1) := by decide +kernel
theorem dX7_addPilot_33 : decode cX7_addPilot 33 = .ok (.iconst 2, 1) := by decide +kernel
theorem dX7_addPilot_34 : decode cX7_addPilot 34 = .ok (.invokevirtual 65, 3) := by decide +kernel
theorem dX7_addPilot_37 : decode cX7_addPilot 37 = .ok (.ireturn, 1) := by decide +kernel
theorem dX7_addPilot_38 : decode cX7_addPilot 38 = .ok (.aload_n 0, 1) := by decide +kernel
theorem dX7_addPilot_39 : decode cX7_addPilot 39 = .ok (.getfield 35, 3) := by decide +kernel
theorem dX7_addPilot_42 : decode cX7_addPilot 42 = .ok (.aload_n 0, 1) := by decide +kernel
theorem dX7_addPilot_43 : decode cX7_addPilot 43 = .ok (.getfield 81, 3) := by decide +kernel
theorem dX7_addPilot_46 : decode cX7_addPilot 46 = .ok (.iload_n 1, 1) := by decide +kernel
theorem dX7_addPilot_47 : decode cX7_addPilot 47 = .ok (.iastore, 1) := by decide +kernel
theorem dX7_addPilot_48 : decode cX7_addPilot 48 = .ok (.aload_n 0, 1) := by decide +kernel
theorem dX7_addPilot_49 : decode cX7_addPilot 49 = .ok (.getfield 38, 3) := by decide +kernel
theorem dX7_addPilot_52 : decode cX7_addPilot 52 = .ok (.aload_n 0, 1) := by decide +kernel
theorem dX7_addPilot_53 : decode cX7_addPilot 53 = .ok (.getfield 81, 3) := by decide +kernel
theorem dX7_addPilot_56 : decode cX7_addPilot 56 = .ok (.iload_n 2, 1) := by decide +kernel
theorem dX7_addPilot_57 : decode cX7_addPilot 57 = .ok (.bastore, 1) := by decide +kernel
theorem dX7_addPilot_58 : decode cX7_addPilot 58 = .ok (.aload_n 0, 1) := by decide +kernel
theorem dX7_addPilot_59 : decode cX7_addPilot 59 = .ok (.dup, 1) := by decide +kernel
theorem dX7_addPilot_60 : decode cX7_addPilot 60 = .ok (.getfield 81, 3) := by decide +kernel
theorem dX7_addPilot_63 : decode cX7_addPilot 63 = .ok (.iconst 1, 1) := by decide +kernel
theorem dX7_addPilot_64 : decode cX7_addPilot 64 = .ok (.iadd, 1) := by decide +kernel
theorem dX7_addPilot_65 : decode cX7_addPilot 65 = .ok (.putfield 81, 3) := by decide +kernel
theorem dX7_addPilot_68 : decode cX7_addPilot 68 = .ok (.aload_n 0, 1) := by decide +kernel
theorem dX7_addPilot_69 : decode cX7_addPilot 69 = .ok (.getfield 81, 3) := by decide +kernel
theorem dX7_addPilot_72 : decode cX7_addPilot 72 = .ok (.iconst 1, 1) := by decide +kernel
theorem dX7_addPilot_73 : decode cX7_addPilot 73 = .ok (.isub, 1) := by decide +kernel
theorem dX7_addPilot_74 : decode cX7_addPilot 74 = .ok (.ireturn, 1) := by decide +kernel
set_option maxRecDepth 20000 in
theorem ggX7_setTugs_X7_isIn : GoodIn wsX7_setTugs wsX7_isIn := goodIn_r _ [7] (by decide +kernel) (by decide +kernel)
set_option maxRecDepth 20000 in
theorem gX7_setTugs_X7_isIn : GoodIn wsX7_setTugs (va_wsS RX7 51 yX7_isIn wsX7_isIn) := goodIn_app (goodIn_of _ (by decide +kernel)) ggX7_setTugs_X7_isIn
set_option maxRecDepth 20000 in
theorem ggX7_setTugs_X7_fail : GoodIn wsX7_setTugs wsX7_fail := goodIn_r _ [11, 1, 12, 13, 14, 15, 16, 17, 18, 19, 20, 21, 22, 23, 24, 25, 26, 27, 28, 29] (by decide +kernel) (by decide +kernel)
set_option maxRecDepth 20000 in
theorem gX7_setTugs_X7_fail : GoodIn wsX7_setTugs (wsV RX7 65 RX7 yX7_fail wsX7_fail) := goodIn_app (goodIn_of _ (by decide +kernel)) ggX7_setTugs_X7_fail
theorem dX7_setTugs_0 : decode cX7_setTugs 0 = .ok (.aload_n 0, 1) := by decide +kernel
theorem dX7_setTugs_1 : decode cX7_setTugs 1 = .ok (.iconst 0, 1) := by decide +kernel
theorem dX7_setTugs_2 : decode cX7_setTugs 2 = .ok (.putfield 48, 3) := by decide +kernel
theorem dX7_setTugs_5 : decode cX7_setTugs 5 = .ok (.iload_n 1, 1) := by decide +kernel
theorem dX7_setTugs_6 : decode cX7_setTugs 6 = .ok (.iconst 0, 1) := by decide +kernel
theorem dX7_setTugs_7 : decode cX7_setTugs 7 = .ok (.bipush 8, 2) := by decide +kernel
theorem dX7_setTugs_9 : decode cX7_setTugs 9 = .ok (.invokestatic 51, 3) := by decide +kernel
theorem dX7_setTugs_12 : decode cX7_setTugs 12 = .ok (.ifCond .ne 9, 3) := by decide +kernel
theorem dX7_setTugs_15 : decode cX7_setTugs 15 = .ok (.aload_n 0, 1) := by decide +kernel
theorem dX7_setTugs_16 : decode cX7_setTugs 16 = .ok (.iconst 1, 1) := by decide +kernel
theorem dX7_setTugs_17 : decode cX7_setTugs 17 = .ok (.invokevirtual 65, 3) := by decide +kernel
theorem dX7_setTugs_20 : decode cX7_setTugs 20 = .ok (.ireturn, 1) := by decide +kernel
theorem dX7_setTugs_21 : decode cX7_setTugs 21 = .ok (.aload_n 0, 1) := by decide +kernel
theorem dX7_setTugs_22 : decode cX7_setTugs 22 = .ok (.getfield 72, 3) := by decide +kernel
theorem dX7_setTugs_25 : decode cX7_setTugs 25 = .ok (.ifCond .le 9, 3) := by decide +kernel
theorem dX7_setTugs_28 : decode cX7_setTugs 28 = .ok (.aload_n 0, 1) := by decide +kernel
theorem dX7_setTugs_29 : decode cX7_setTugs 29 = .ok (.iconst 2, 1) := by decide +kernel
theorem dX7_setTugs_30 : decode cX7_setTugs 30 = .ok (.invokevirtual 65, 3) := by decide +kernel
theorem dX7_setTugs_33 : decode cX7_setTugs 33 = .ok (.ireturn, 1) := by decide +kernel
theorem dX7_setTugs_34 : decode cX7_setTugs 34 = .ok (.aload_n 0, 1) := by decide +kernel
theorem dX7_setTugs_35 : decode cX7_setTugs 35 = .ok (.getfield 42, 3) := by decide +kernel
theorem dX7_setTugs_38 : decode cX7_setTugs 38 = .ok (.istore_n 2, 1) := by decide +kernel
theorem dX7_setTugs_39 : decode cX7_setTugs 39 = .ok (.aload_n 0, 1) := by decide +kernel
theorem dX7_setTugs_40 : decode cX7_setTugs 40 = .ok (.iload_n 1, 1) := by decide +kernel
theorem dX7_setTugs_41 : decode cX7_setTugs 41 = .ok (.putfield 42, 3) := by decide +kernel
theorem dX7_setTugs_44 : decode cX7_setTugs 44 = .ok (.iload_n 2, 1) := by decide +kernel
theorem dX7_setTugs_45 : decode cX7_setTugs 45 = .ok (.ireturn, 1) := by decide +kernel
theorem dX7_counted_0 : decode cX7_counted 0 = .ok (.iload_n 1, 1) := by decide +kernel
theorem dX7_counted_1 : decode cX7_counted 1 = .ok (.tableswitch 51 0 3 #[31, 36, 41, 46], 31) := by decide +kernel
theorem dX7_counted_32 : decode cX7_counted 32 = .ok (.aload_n 0, 1) := by decide +kernel
theorem dX7_counted_33 : decode cX7_counted 33 = .ok (.getfield 69, 3) := by decide +kernel
theorem dX7_counted_36 : decode cX7_counted 36 = .ok (.ireturn, 1) := by decide +kernel
theorem dX7_counted_37 : decode cX7_counted 37 = .ok (.aload_n 0, 1) := by decide +kernel
theorem dX7_counted_38 : decode cX7_counted 38 = .ok (.getfield 58, 3) := by decide +kernel
theorem dX7_counted_41 : decode cX7_counted 41 = .ok (.ireturn, 1) := by decide +kernel
theorem dX7_counted_42 : decode cX7_counted 42 = .ok (.aload_n 0, 1) := by decide +kernel
theorem dX7_counted_43 : decode cX7_counted 43 = .ok (.getfield 55, 3) := by decide +kernel
theorem dX7_counted_46 : decode cX7_counted 46 = .ok (.ireturn, 1) := by decide +kernel
theorem dX7_counted_47 : decode cX7_counted 47 = .ok (.aload_n 0, 1) := by decide +kernel
theorem dX7_counted_48 : decode cX7_counted 48 = .ok (.getfield 81, 3) := by decide +kernel
theorem dX7_counted_51 : decode cX7_counted 51 = .ok (.ireturn, 1) := by decide +kernel
theorem dX7_counted_52 : decode cX7_counted 52 = .ok (.aload_n 0, 1) := by decide +kernel
theorem dX7_counted_53 : decode cX7_counted 53 = .ok (.getfield 72, 3) := by decide +kernel
theorem dX7_counted_56 : decode cX7_counted 56 = .ok (.ireturn, 1) := by decide +kernel
set_option maxRecDepth 20000 in
theorem ggX7_count_X7_isIn : GoodIn wsX7_count wsX7_isIn := goodIn_r _ [5] (by decide +kernel) (by decide +kernel)
set_option maxRecDepth 20000 in
theorem gX7_count_X7_isIn : GoodIn wsX7_count (va_wsS RX7 51 yX7_isIn wsX7_isIn) := goodIn_app (goodIn_of _ (by decide +kernel)) ggX7_count_X7_isIn
set_option maxRecDepth 20000 in
theorem ggX7_count_X7_counted : GoodIn wsX7_count wsX7_counted := goodIn_r _ [9, 10, 11, 12, 13, 14, 19, 20, 21, 22, 23, 24, 25, 26, 27, 28, 29, 30, 31, 32, 33, 34, 35, 36] (by decide +kernel) (by decide +kernel)
set_option maxRecDepth 20000 in
theorem gX7_count_X7_counted : GoodIn wsX7_count (wsV RX7 84 RX7 yX7_counted wsX7_counted) := goodIn_app (goodIn_of _ (by decide +kernel)) ggX7_count_X7_counted
set_option maxRecDepth 20000 in
theorem ggX7_count_X7_fail : GoodIn wsX7_count wsX7_fail := goodIn_r _ [18, 1, 19, 20, 21, 22, 23, 24, 25, 26, 27, 28, 29, 30, 31, 32, 33, 34, 35, 36] (by decide +kernel) (by decide +kernel)
set_option maxRecDepth 20000 in
theorem gX7_count_X7_fail : GoodIn wsX7_count (wsV RX7 65 RX7 yX7_fail wsX7_fail) := goodIn_app (goodIn_of _ (by decide +kernel)) ggX7_count_X7_fail
theorem dX7_count_0 : decode cX7_count 0 = .ok (.aload_n 0, 1) := by decide +kernel
theorem dX7_count_1 : decode cX7_count 1 = .ok (.iconst 0, 1) := by decide +kernel
theorem dX7_count_2 : decode cX7_count 2 = .ok (.putfield 48, 3) := by decide +kernel
theorem dX7_count_5 : decode cX7_count 5 = .ok (.iload_n 1, 1) := by decide +kernel
theorem dX7_count_6 : decode cX7_count 6 = .ok (.iconst 0, 1) := by decide +kernel
theorem dX7_count_7 : decode cX7_count 7 = .ok (.iconst 4, 1) := by decide +kernel
theorem dX7_count_8 : decode cX7_count 8 = .ok (.invokestatic 51, 3) := by decide +kernel
theorem dX7_count_11 : decode cX7_count 11 = .ok (.ifCond .eq 11, 3) := by decide +kernel
theorem dX7_count_14 : decode cX7_count 14 = .ok (.aload_n 0, 1) := by decide +kernel
theorem dX7_count_15 : decode cX7_count 15 = .ok (.iload_n 1, 1) := by decide +kernel
theorem dX7_count_16 : decode cX7_count 16 = .ok (.invokevirtual 84, 3) := by decide +kernel
theorem dX7_count_19 : decode cX7_count 19 = .ok (.goto 8, 3) := by decide +kernel
theorem dX7_count_22 : decode cX7_count 22 = .ok (.aload_n 0, 1) := by decide +kernel
theorem dX7_count_23 : decode cX7_count 23 = .ok (.iconst 1, 1) := by decide +kernel
theorem dX7_count_24 : decode cX7_count 24 = .ok (.invokevirtual 65, 3) := by decide +kernel
theorem dX7_count_27 : decode cX7_count 27 = .ok (.ireturn, 1) := by decide +kernel
theorem dX7_needOf_0 : decode cX7_needOf 0 = .ok (.aload_n 0, 1) := by decide +kernel
theorem dX7_needOf_1 : decode cX7_needOf 1 = .ok (.getfield 32, 3) := by decide +kernel
theorem dX7_needOf_4 : decode cX7_needOf 4 = .ok (.iload_n 1, 1) := by decide +kernel
theorem dX7_needOf_5 : decode cX7_needOf 5 = .ok (.iaload, 1) := by decide +kernel
theorem dX7_needOf_6 : decode cX7_needOf 6 = .ok (.aload_n 0, 1) := by decide +kernel
theorem dX7_needOf_7 : decode cX7_needOf 7 = .ok (.getfield 32, 3) := by decide +kernel
theorem dX7_needOf_10 : decode cX7_needOf 10 = .ok (.iload_n 1, 1) := by decide +kernel
theorem dX7_needOf_11 : decode cX7_needOf 11 = .ok (.iaload, 1) := by decide +kernel
theorem dX7_needOf_12 : decode cX7_needOf 12 = .ok (.bipush 10, 2) := by decide +kernel
theorem dX7_needOf_14 : decode cX7_needOf 14 = .ok (.idiv, 1) := by decide +kernel
theorem dX7_needOf_15 : decode cX7_needOf 15 = .ok (.iadd, 1) := by decide +kernel
theorem dX7_needOf_16 : decode cX7_needOf 16 = .ok (.aload_n 0, 1) := by decide +kernel
theorem dX7_needOf_17 : decode cX7_needOf 17 = .ok (.getfield 20, 3) := by decide +kernel
theorem dX7_needOf_20 : decode cX7_needOf 20 = .ok (.iadd, 1) := by decide +kernel
theorem dX7_needOf_21 : decode cX7_needOf 21 = .ok (.ireturn, 1) := by decide +kernel
set_option maxRecDepth 20000 in
theorem ggX7_need_X7_isShip : GoodIn wsX7_need wsX7_isShip := goodIn_r _ [6, 7, 8, 9, 5, 10, 21, 22, 23, 24, 25, 26, 27, 28, 29, 30, 31, 32, 33, 34, 35, 36, 37, 38] (by decide +kernel) (by decide +kernel)
set_option maxRecDepth 20000 in
theorem gX7_need_X7_isShip : GoodIn wsX7_need (wsV RX7 78 RX7 yX7_isShip wsX7_isShip) := goodIn_app (goodIn_of _ (by decide +kernel)) ggX7_need_X7_isShip
set_option maxRecDepth 20000 in
theorem ggX7_need_X7_needOf : GoodIn wsX7_need wsX7_needOf := goodIn_r _ [14, 15, 16, 21, 22, 23, 24, 25, 26, 27, 28, 29, 30, 31, 32, 33, 34, 35, 36, 37, 38] (by decide +kernel) (by decide +kernel)
set_option maxRecDepth 20000 in
theorem gX7_need_X7_needOf : GoodIn wsX7_need (wsV RX7 87 RX7 yX7_needOf wsX7_needOf) := goodIn_app (goodIn_of _ (by decide +kernel)) ggX7_need_X7_needOf
set_option maxRecDepth 20000 in
theorem ggX7_need_X7_fail : GoodIn wsX7_need wsX7_fail := goodIn_r _ [20, 1, 21, 22, 23, 24, 25, 26, 27, 28, 29, 30, 31, 32, 33, 34, 35, 36, 37, 38] (by decide +kernel) (by decide +kernel)
set_option maxRecDepth 20000 in
theorem gX7_need_X7_fail : GoodIn wsX7_need (wsV RX7 65 RX7 yX7_fail wsX7_fail) := goodIn_app (goodIn_of _ (by decide +kernel)) ggX7_need_X7_fail
theorem dX7_need_0 : decode cX7_need 0 = .ok (.aload_n 0, 1) := by decide +kernel
theorem dX7_need_1 : decode cX7_need 1 = .ok (.iconst 0, 1) := by decide +kernel
theorem dX7_need_2 : decode cX7_need 2 = .ok (.putfield 48, 3) := by decide +kernel
theorem dX7_need_5 : decode cX7_need 5 = .ok (.aload_n 0, 1) := by decide +kernel
theorem dX7_need_6 : decode cX7_need 6 = .ok (.iload_n 1, 1) := by decide +kernel
theorem dX7_need_7 : decode cX7_need 7 = .ok (.invokevirtual 78, 3) := by decide +kernel
theorem dX7_need_10 : decode cX7_need 10 = .ok (.ifCond .eq 11, 3) := by decide +kernel
theorem dX7_need_13 : decode cX7_need 13 = .ok (.aload_n 0, 1) := by decide +kernel
theorem dX7_need_14 : decode cX7_need 14 = .ok (.iload_n 1, 1) := by decide +kernel
theorem dX7_need_15 : decode cX7_need 15 = .ok (.invokevirtual 87, 3) := by decide +kernel
theorem dX7_need_18 : decode cX7_need 18 = .ok (.goto 8, 3) := by decide +kernel
theorem dX7_need_21 : decode cX7_need 21 = .ok (.aload_n 0, 1) := by decide +kernel
theorem dX7_need_22 : decode cX7_need 22 = .ok (.iconst 1, 1) := by decide +kernel
theorem dX7_need_23 : decode cX7_need 23 = .ok (.invokevirtual 65, 3) := by decide +kernel
theorem dX7_need_26 : decode cX7_need 26 = .ok (.ireturn, 1) := by decide +kernel
set_option maxRecDepth 20000 in
theorem ggX7_hasWater_X7_heightAt : GoodIn wsX7_hasWater wsX7_heightAt := goodIn_r _ [7, 8, 9, 10, 17, 18, 19, 20, 21, 22, 23, 24, 25, 26, 27, 28, 29, 30, 31, 32, 33, 34] (by decide +kernel) (by decide +kernel)
set_option maxRecDepth 20000 in
theorem gX7_hasWater_X7_heightAt : GoodIn wsX7_hasWater (wsV RX7 75 RX7 yX7_heightAt wsX7_heightAt) := goodIn_app (goodIn_of _ (by decide +kernel)) ggX7_hasWater_X7_heightAt
set_option maxRecDepth 20000 in
theorem ggX7_hasWater_X7_needOf : GoodIn wsX7_hasWater wsX7_needOf := goodIn_r _ [14, 15, 16, 17, 18, 19, 20, 21, 22, 23, 24, 25, 26, 27, 28, 29, 30, 31, 32, 33, 34] (by decide +kernel) (by decide +kernel)
set_option maxRecDepth 20000 in
theorem gX7_hasWater_X7_needOf : GoodIn wsX7_hasWater (wsV RX7 87 RX7 yX7_needOf wsX7_needOf) := goodIn_app (goodIn_of _ (by decide +kernel)) ggX7_hasWater_X7_needOf
theorem dX7_hasWater_0 : decode cX7_hasWater 0 = .ok (.iload_n 2, 1) := by decide +kernel
theorem dX7_hasWater_1 : decode cX7_hasWater 1 = .ok (.iconst (-1), 1) := by decide +kernel
theorem dX7_hasWater_2 : decode cX7_hasWater 2 = .ok (.if_icmp .ne 10, 3) := by decide +kernel
theorem dX7_hasWater_5 : decode cX7_hasWater 5 = .ok (.aload_n 0, 1) := by decide +kernel
theorem dX7_hasWater_6 : decode cX7_hasWater 6 = .ok (.getfield 16, 3) := by decide +kernel
theorem dX7_hasWater_9 : decode cX7_hasWater 9 = .ok (.goto 9, 3) := by decide +kernel
theorem dX7_hasWater_12 : decode cX7_hasWater 12 = .ok (.aload_n 0, 1) := by decide +kernel
theorem dX7_hasWater_13 : decode cX7_hasWater 13 = .ok (.getfield 26, 3) := by decide +kernel
theorem dX7_hasWater_16 : decode cX7_hasWater 16 = .ok (.iload_n 2, 1) := by decide +kernel
theorem dX7_hasWater_17 : decode cX7_hasWater 17 = .ok (.iaload, 1) := by decide +kernel
theorem dX7_hasWater_18 : decode cX7_hasWater 18 = .ok (.aload_n 0, 1) := by decide +kernel
theorem dX7_hasWater_19 : decode cX7_hasWater 19 = .ok (.iload_n 3, 1) := by decide +kernel
theorem dX7_hasWater_20 : decode cX7_hasWater 20 = .ok (.invokevirtual 75, 3) := by decide +kernel
theorem dX7_hasWater_23 : decode cX7_hasWater 23 = .ok (.iadd, 1) := by decide +kernel
theorem dX7_hasWater_24 : decode cX7_hasWater 24 = .ok (.aload_n 0, 1) := by decide +kernel
theorem dX7_hasWater_25 : decode cX7_hasWater 25 = .ok (.iload_n 1, 1) := by decide +kernel
theorem dX7_hasWater_26 : decode cX7_hasWater 26 = .ok (.invokevirtual 87, 3) := by decide +kernel
theorem dX7_hasWater_29 : decode cX7_hasWater 29 = .ok (.if_icmp .lt 7, 3) := by decide +kernel
theorem dX7_hasWater_32 : decode cX7_hasWater 32 = .ok (.iconst 1, 1) := by decide +kernel
theorem dX7_hasWater_33 : decode cX7_hasWater 33 = .ok (.goto 4, 3) := by decide +kernel
theorem dX7_hasWater_36 : decode cX7_hasWater 36 = .ok (.iconst 0, 1) := by decide +kernel
theorem dX7_hasWater_37 : decode cX7_hasWater 37 = .ok (.ireturn, 1) := by decide +kernel
set_option maxRecDepth 20000 in
theorem ggX7_window_X7_isShip : GoodIn wsX7_window wsX7_isShip := goodIn_r _ [6, 7, 8, 9, 5, 10, 42, 43, 44, 45, 46, 47, 48, 49, 50, 51, 52, 53, 54, 55, 56, 57, 58, 59] (by decide +kernel) (by decide +kernel)
set_option maxRecDepth 20000 in
theorem gX7_window_X7_isShip : GoodIn wsX7_window (wsV RX7 78 RX7 yX7_isShip wsX7_isShip) := goodIn_app (goodIn_of _ (by decide +kernel)) ggX7_window_X7_isShip
set_option maxRecDepth 20000 in
theorem ggX7_window_X7_isBerth : GoodIn wsX7_window wsX7_isBerth := goodIn_r _ [14, 15, 8, 9, 5, 10, 42, 43, 44, 45, 46, 47, 48, 49, 50, 51, 52, 53, 54, 55, 56, 57, 58, 59] (by decide +kernel) (by decide +kernel)
set_option maxRecDepth 20000 in
theorem gX7_window_X7_isBerth : GoodIn wsX7_window (wsV RX7 90 RX7 yX7_isBerth wsX7_isBerth) := goodIn_app (goodIn_of _ (by decide +kernel)) ggX7_window_X7_isBerth
set_option maxRecDepth 20000 in
theorem ggX7_window_X7_fail : GoodIn wsX7_window wsX7_fail := goodIn_r _ [19, 1, 42, 43, 44, 45, 46, 47, 48, 49, 50, 51, 52, 53, 54, 55, 56, 57, 58, 59] (by decide +kernel) (by decide +kernel)
set_option maxRecDepth 20000 in
theorem gX7_window_X7_fail : GoodIn wsX7_window (wsV RX7 65 RX7 yX7_fail wsX7_fail) := goodIn_app (goodIn_of _ (by decide +kernel)) ggX7_window_X7_fail
set_option maxRecDepth 20000 in
theorem ggX7_window_X7_isTime : GoodIn wsX7_window wsX7_isTime := goodIn_r _ [22, 8, 9, 5, 10] (by decide +kernel) (by decide +kernel)
set_option maxRecDepth 20000 in
theorem gX7_window_X7_isTime : GoodIn wsX7_window (va_wsS RX7 61 yX7_isTime wsX7_isTime) := goodIn_app (goodIn_of _ (by decide +kernel)) ggX7_window_X7_isTime
set_option maxRecDepth 20000 in
theorem ggX7_window_X7_hasWater : GoodIn wsX7_window wsX7_hasWater := goodIn_r _ [26, 27, 28, 29, 30, 31, 5, 32, 33, 34, 35, 36, 37, 38, 39, 40, 41, 42, 43, 44, 45, 46, 47, 48, 49, 50, 51, 52, 53, 54, 55, 56, 57, 58, 59] (by decide +kernel) (by decide +kernel)
set_option maxRecDepth 20000 in
theorem gX7_window_X7_hasWater : GoodIn wsX7_window (wsV RX7 93 RX7 yX7_hasWater wsX7_hasWater) := goodIn_app (goodIn_of _ (by decide +kernel)) ggX7_window_X7_hasWater
theorem dX7_window_0 : decode cX7_window 0 = .ok (.aload_n 0, 1) := by decide +kernel
theorem dX7_window_1 : decode cX7_window 1 = .ok (.iconst 0, 1) := by decide +kernel
theorem dX7_window_2 : decode cX7_window 2 = .ok (.putfield 48, 3) := by decide +kernel
theorem dX7_window_5 : decode cX7_window 5 = .ok (.aload_n 0, 1) := by decide +kernel
theorem dX7_window_6 : decode cX7_window 6 = .ok (.iload_n 1, 1) := by decide +kernel
theorem dX7_window_7 : decode cX7_window 7 = .ok (.invokevirtual 78, 3) := by decide +kernel
theorem dX7_window_10 : decode cX7_window 10 = .ok (.ifCond .eq 16, 3) := by decide +kernel
theorem dX7_window_13 : decode cX7_window 13 = .ok (.iload_n 2, 1) := by decide +kernel
theorem dX7_window_14 : decode cX7_window 14 = .ok (.iconst (-1), 1) := by decide +kernel
theorem dX7_window_15 : decode cX7_window 15 = .ok (.if_icmp .eq 17, 3) := by decide +kernel
theorem dX7_window_18 : decode cX7_window 18 = .ok (.aload_n 0, 1) := by decide +kernel
theorem dX7_window_19 : decode cX7_window 19 = .ok (.iload_n 2, 1) := by decide +kernel
theorem dX7_window_20 : decode cX7_window 20 = .ok (.invokevirtual 90, 3) := by decide +kernel
theorem dX7_window_23 : decode cX7_window 23 = .ok (.ifCond .ne 9, 3) := by decide +kernel
theorem dX7_window_26 : decode cX7_window 26 = .ok (.aload_n 0, 1) := by decide +kernel
theorem dX7_window_27 : decode cX7_window 27 = .ok (.iconst 1, 1) := by decide +kernel
theorem dX7_window_28 : decode cX7_window 28 = .ok (.invokevirtual 65, 3) := by decide +kernel
theorem dX7_window_31 : decode cX7_window 31 = .ok (.ireturn, 1) := by decide +kernel
theorem dX7_window_32 : decode cX7_window 32 = .ok (.iload_n 3, 1) := by decide +kernel
theorem dX7_window_33 : decode cX7_window 33 = .ok (.invokestatic 61, 3) := by decide +kernel
theorem dX7_window_36 : decode cX7_window 36 = .ok (.ifCond .ne 9, 3) := by decide +kernel
theorem dX7_window_39 : decode cX7_window 39 = .ok (.aload_n 0, 1) := by decide +kernel
theorem dX7_window_40 : decode cX7_window 40 = .ok (.iconst 2, 1) := by decide +kernel
theorem dX7_window_41 : decode cX7_window 41 = .ok (.invokevirtual 65, 3) := by decide +kernel
theorem dX7_window_44 : decode cX7_window 44 = .ok (.ireturn, 1) := by decide +kernel
theorem dX7_window_45 : decode cX7_window 45 = .ok (.iload_n 3, 1) := by decide +kernel
theorem dX7_window_46 : decode cX7_window 46 = .ok (.istore 4, 2) := by decide +kernel
theorem dX7_window_48 : decode cX7_window 48 = .ok (.iload 4, 2) := by decide +kernel
theorem dX7_window_50 : decode cX7_window 50 = .ok (.sipush 2879, 3) := by decide +kernel
theorem dX7_window_53 : decode cX7_window 53 = .ok (.if_icmp .gt 23, 3) := by decide +kernel
theorem dX7_window_56 : decode cX7_window 56 = .ok (.aload_n 0, 1) := by decide +kernel
theorem dX7_window_57 : decode cX7_window 57 = .ok (.iload_n 1, 1) := by decide +kernel
theorem dX7_window_58 : decode cX7_window 58 = .ok (.iload_n 2, 1) := by decide +kernel
theorem dX7_window_59 : decode cX7_window 59 = .ok (.iload 4, 2) := by decide +kernel
theorem dX7_window_61 : decode cX7_window 61 = .ok (.invokevirtual 93, 3) := by decide +kernel
theorem dX7_window_64 : decode cX7_window 64 = .ok (.ifCond .eq 6, 3) := by decide +kernel
theorem dX7_window_67 : decode cX7_window 67 = .ok (.iload 4, 2) := by decide +kernel
theorem dX7_window_69 : decode cX7_window 69 = .ok (.ireturn, 1) := by decide +kernel
theorem dX7_window_70 : decode cX7_window 70 = .ok (.iinc 4 1, 3) := by decide +kernel
theorem dX7_window_73 : decode cX7_window 73 = .ok (.goto (-25), 3) := by decide +kernel
theorem dX7_window_76 : decode cX7_window 76 = .ok (.iconst (-1), 1) := by decide +kernel
theorem dX7_window_77 : decode cX7_window 77 = .ok (.ireturn, 1) := by decide +kernel
theorem dX7_get_0 : decode cX7_get 0 = .ok (.aload_n 0, 1) := by decide +kernel
theorem dX7_get_1 : decode cX7_get 1 = .ok (.getfield 45, 3) := by decide +kernel
theorem dX7_get_4 : decode cX7_get 4 = .ok (.bipush 7, 2) := by decide +kernel
theorem dX7_get_6 : decode cX7_get 6 = .ok (.iload_n 1, 1) := by decide +kernel
theorem dX7_get_7 : decode cX7_get 7 = .ok (.imul, 1) := by decide +kernel
theorem dX7_get_8 : decode cX7_get 8 = .ok (.iload_n 2, 1) := by decide +kernel
theorem dX7_get_9 : decode cX7_get 9 = .ok (.iadd, 1) := by decide +kernel
theorem dX7_get_10 : decode cX7_get 10 = .ok (.iaload, 1) := by decide +kernel
theorem dX7_get_11 : decode cX7_get 11 = .ok (.ireturn, 1) := by decide +kernel
set_option maxRecDepth 20000 in
theorem ggX7_begin_X7_get : GoodIn wsX7_begin wsX7_get := goodIn_r _ [5, 6, 7, 8, 9, 10, 11, 12, 13, 14, 15, 16, 17, 18, 19, 20, 21, 22, 23, 24] (by decide +kernel) (by decide +kernel)
set_option maxRecDepth 20000 in
theorem gX7_begin_X7_get : GoodIn wsX7_begin (wsV RX7 96 RX7 yX7_get wsX7_get) := goodIn_app (goodIn_of _ (by decide +kernel)) ggX7_begin_X7_get
theorem dX7_begin_0 : decode cX7_begin 0 = .ok (.aload_n 0, 1) := by decide +kernel
theorem dX7_begin_1 : decode cX7_begin 1 = .ok (.iload_n 1, 1) := by decide +kernel
theorem dX7_begin_2 : decode cX7_begin 2 = .ok (.iconst 1, 1) := by decide +kernel
theorem dX7_begin_3 : decode cX7_begin 3 = .ok (.invokevirtual 96, 3) := by decide +kernel
theorem dX7_begin_6 : decode cX7_begin 6 = .ok (.ireturn, 1) := by decide +kernel
set_option maxRecDepth 20000 in
theorem ggX7_end_X7_get : GoodIn wsX7_end wsX7_get := goodIn_r _ [5, 6, 7, 8, 9, 10, 11, 12, 13, 14, 15, 16, 17, 18, 19, 20, 21, 22, 23, 24] (by decide +kernel) (by decide +kernel)
set_option maxRecDepth 20000 in
theorem gX7_end_X7_get : GoodIn wsX7_end (wsV RX7 96 RX7 yX7_get wsX7_get) := goodIn_app (goodIn_of _ (by decide +kernel)) ggX7_end_X7_get
theorem dX7_end_0 : decode cX7_end 0 = .ok (.aload_n 0, 1) := by decide +kernel
theorem dX7_end_1 : decode cX7_end 1 = .ok (.iload_n 1, 1) := by decide +kernel
theorem dX7_end_2 : decode cX7_end 2 = .ok (.iconst 1, 1) := by decide +kernel
theorem dX7_end_3 : decode cX7_end 3 = .ok (.invokevirtual 96, 3) := by decide +kernel
theorem dX7_end_6 : decode cX7_end 6 = .ok (.bipush 60, 2) := by decide +kernel
theorem dX7_end_8 : decode cX7_end 8 = .ok (.iadd, 1) := by decide +kernel
theorem dX7_end_9 : decode cX7_end 9 = .ok (.ireturn, 1) := by decide +kernel
set_option maxRecDepth 20000 in
theorem ggX7_isOut_X7_get : GoodIn wsX7_isOut wsX7_get := goodIn_r _ [5, 6, 7, 8, 9, 10, 11, 12, 13, 14, 15, 16, 17, 18, 19, 20, 21, 22, 23, 24] (by decide +kernel) (by decide +kernel)
set_option maxRecDepth 20000 in
theorem gX7_isOut_X7_get : GoodIn wsX7_isOut (wsV RX7 96 RX7 yX7_get wsX7_get) := goodIn_app (goodIn_of _ (by decide +kernel)) ggX7_isOut_X7_get
theorem dX7_isOut_0 : decode cX7_isOut 0 = .ok (.aload_n 0, 1) := by decide +kernel
theorem dX7_isOut_1 : decode cX7_isOut 1 = .ok (.iload_n 1, 1) := by decide +kernel
theorem dX7_isOut_2 : decode cX7_isOut 2 = .ok (.iconst 5, 1) := by decide +kernel
theorem dX7_isOut_3 : decode cX7_isOut 3 = .ok (.invokevirtual 96, 3) := by decide +kernel
theorem dX7_isOut_6 : decode cX7_isOut 6 = .ok (.iconst 1, 1) := by decide +kernel
theorem dX7_isOut_7 : decode cX7_isOut 7 = .ok (.if_icmp .ne 7, 3) := by decide +kernel
theorem dX7_isOut_10 : decode cX7_isOut 10 = .ok (.iconst 1, 1) := by decide +kernel
theorem dX7_isOut_11 : decode cX7_isOut 11 = .ok (.goto 4, 3) := by decide +kernel
theorem dX7_isOut_14 : decode cX7_isOut 14 = .ok (.iconst 0, 1) := by decide +kernel
theorem dX7_isOut_15 : decode cX7_isOut 15 = .ok (.ireturn, 1) := by decide +kernel
set_option maxRecDepth 20000 in
theorem ggX7_latest_X7_get : GoodIn wsX7_latest wsX7_get := goodIn_r _ [6, 7, 12, 13, 14, 15, 16, 17, 18, 19, 20, 21, 22, 23, 24, 25, 26, 27, 28, 29] (by decide +kernel) (by decide +kernel)
set_option maxRecDepth 20000 in
theorem gX7_latest_X7_get : GoodIn wsX7_latest (wsV RX7 96 RX7 yX7_get wsX7_get) := goodIn_app (goodIn_of _ (by decide +kernel)) ggX7_latest_X7_get
set_option maxRecDepth 20000 in
theorem ggX7_latest_X7_begin : GoodIn wsX7_latest wsX7_begin := goodIn_r _ [11, 2, 3, 4, 5, 6, 7, 12, 13, 14, 15, 16, 17, 18, 19, 20, 21, 22, 23, 24, 25, 26, 27, 28, 29] (by decide +kernel) (by decide +kernel)
set_option maxRecDepth 20000 in
theorem gX7_latest_X7_begin : GoodIn wsX7_latest (wsV RX7 100 RX7 yX7_begin wsX7_begin) := goodIn_app (goodIn_of _ (by decide +kernel)) ggX7_latest_X7_begin
theorem dX7_latest_0 : decode cX7_latest 0 = .ok (.iconst (-1), 1) := by decide +kernel
theorem dX7_latest_1 : decode cX7_latest 1 = .ok (.istore_n 3, 1) := by decide +kernel
theorem dX7_latest_2 : decode cX7_latest 2 = .ok (.iconst 0, 1) := by decide +kernel
theorem dX7_latest_3 : decode cX7_latest 3 = .ok (.istore 4, 2) := by decide +kernel
theorem dX7_latest_5 : decode cX7_latest 5 = .ok (.iload 4, 2) := by decide +kernel
theorem dX7_latest_7 : decode cX7_latest 7 = .ok (.aload_n 0, 1) := by decide +kernel
theorem dX7_latest_8 : decode cX7_latest 8 = .ok (.getfield 72, 3) := by decide +kernel
theorem dX7_latest_11 : decode cX7_latest 11 = .ok (.if_icmp .ge 58, 3) := by decide +kernel
theorem dX7_latest_14 : decode cX7_latest 14 = .ok (.aload_n 0, 1) := by decide +kernel
theorem dX7_latest_15 : decode cX7_latest 15 = .ok (.iload 4, 2) := by decide +kernel
theorem dX7_latest_17 : decode cX7_latest 17 = .ok (.iconst 0, 1) := by decide +kernel
theorem dX7_latest_18 : decode cX7_latest 18 = .ok (.invokevirtual 96, 3) := by decide +kernel
theorem dX7_latest_21 : decode cX7_latest 21 = .ok (.iload_n 1, 1) := by decide +kernel
theorem dX7_latest_22 : decode cX7_latest 22 = .ok (.if_icmp .ne 41, 3) := by decide +kernel
theorem dX7_latest_25 : decode cX7_latest 25 = .ok (.iload_n 2, 1) := by decide +kernel
theorem dX7_latest_26 : decode cX7_latest 26 = .ok (.iconst (-1), 1) := by decide +kernel
theorem dX7_latest_27 : decode cX7_latest 27 = .ok (.if_icmp .eq 14, 3) := by decide +kernel
theorem dX7_latest_30 : decode cX7_latest 30 = .ok (.aload_n 0, 1) := by decide +kernel
theorem dX7_latest_31 : decode cX7_latest 31 = .ok (.iload 4, 2) := by decide +kernel
theorem dX7_latest_33 : decode cX7_latest 33 = .ok (.iconst 5, 1) := by decide +kernel
theorem dX7_latest_34 : decode cX7_latest 34 = .ok (.invokevirtual 96, 3) := by decide +kernel
theorem dX7_latest_37 : decode cX7_latest 37 = .ok (.iload_n 2, 1) := by decide +kernel
theorem dX7_latest_38 : decode cX7_latest 38 = .ok (.if_icmp .ne 25, 3) := by decide +kernel
theorem dX7_latest_41 : decode cX7_latest 41 = .ok (.iload_n 3, 1) := by decide +kernel
theorem dX7_latest_42 : decode cX7_latest 42 = .ok (.iconst (-1), 1) := by decide +kernel
theorem dX7_latest_43 : decode cX7_latest 43 = .ok (.if_icmp .eq 17, 3) := by decide +kernel
theorem dX7_latest_46 : decode cX7_latest 46 = .ok (.aload_n 0, 1) := by decide +kernel
theorem dX7_latest_47 : decode cX7_latest 47 = .ok (.iload 4, 2) := by decide +kernel
theorem dX7_latest_49 : decode cX7_latest 49 = .ok (.invokevirtual 100, 3) := by decide +kernel
theorem dX7_latest_52 : decode cX7_latest 52 = .ok (.aload_n 0, 1) := by decide +kernel
theorem dX7_latest_53 : decode cX7_latest 53 = .ok (.iload_n 3, 1) := by decide +kernel
theorem dX7_latest_54 : decode cX7_latest 54 = .ok (.invokevirtual 100, 3) := by decide +kernel
theorem dX7_latest_57 : decode cX7_latest 57 = .ok (.if_icmp .le 6, 3) := by decide +kernel
theorem dX7_latest_60 : decode cX7_latest 60 = .ok (.iload 4, 2) := by decide +kernel
theorem dX7_latest_62 : decode cX7_latest 62 = .ok (.istore_n 3, 1) := by decide +kernel
theorem dX7_latest_63 : decode cX7_latest 63 = .ok (.iinc 4 1, 3) := by decide +kernel
theorem dX7_latest_66 : decode cX7_latest 66 = .ok (.goto (-61), 3) := by decide +kernel
theorem dX7_latest_69 : decode cX7_latest 69 = .ok (.iload_n 3, 1) := by decide +kernel
theorem dX7_latest_70 : decode cX7_latest 70 = .ok (.ireturn, 1) := by decide +kernel
set_option maxRecDepth 20000 in
theorem ggX7_leaves_X7_get : GoodIn wsX7_leaves wsX7_get := goodIn_r _ [10, 11, 24, 25, 26, 27, 28, 29, 30, 31, 32, 33, 34, 35, 36, 37, 38, 39, 40, 41] (by decide +kernel) (by decide +kernel)
set_option maxRecDepth 20000 in
theorem gX7_leaves_X7_get : GoodIn wsX7_leaves (wsV RX7 96 RX7 yX7_get wsX7_get) := goodIn_app (goodIn_of _ (by decide +kernel)) ggX7_leaves_X7_get
set_option maxRecDepth 20000 in
theorem ggX7_leaves_X7_isOut : GoodIn wsX7_leaves wsX7_isOut := goodIn_r _ [15, 6, 7, 8, 9, 10, 11, 24, 25, 26, 27, 28, 29, 30, 31, 32, 33, 34, 35, 36, 37, 38, 39, 40, 41] (by decide +kernel) (by decide +kernel)
set_option maxRecDepth 20000 in
theorem gX7_leaves_X7_isOut : GoodIn wsX7_leaves (wsV RX7 103 RX7 yX7_isOut wsX7_isOut) := goodIn_app (goodIn_of _ (by decide +kernel)) ggX7_leaves_X7_isOut
set_option maxRecDepth 20000 in
theorem ggX7_leaves_X7_begin : GoodIn wsX7_leaves wsX7_begin := goodIn_r _ [19, 6, 7, 8, 9, 10, 11, 24, 25, 26, 27, 28, 29, 30, 31, 32, 33, 34, 35, 36, 37, 38, 39, 40, 41] (by decide +kernel) (by decide +kernel)
set_option maxRecDepth 20000 in
theorem gX7_leaves_X7_begin : GoodIn wsX7_leaves (wsV RX7 100 RX7 yX7_begin wsX7_begin) := goodIn_app (goodIn_of _ (by decide +kernel)) ggX7_leaves_X7_begin
set_option maxRecDepth 20000 in
theorem ggX7_leaves_X7_end : GoodIn wsX7_leaves wsX7_end := goodIn_r _ [23, 6, 7, 8, 9, 10, 11, 24, 25, 26, 27, 28, 29, 30, 31, 32, 33, 34, 35, 36, 37, 38, 39, 40, 41] (by decide +kernel) (by decide +kernel)
set_option maxRecDepth 20000 in
theorem gX7_leaves_X7_end : GoodIn wsX7_leaves (wsV RX7 106 RX7 yX7_end wsX7_end) := goodIn_app (goodIn_of _ (by decide +kernel)) ggX7_leaves_X7_end
theorem dX7_leaves_0 : decode cX7_leaves 0 = .ok (.sipush 2880, 3) := by decide +kernel
theorem dX7_leaves_3 : decode cX7_leaves 3 = .ok (.istore_n 2, 1) := by decide +kernel
theorem dX7_leaves_4 : decode cX7_leaves 4 = .ok (.iconst 0, 1) := by decide +kernel
theorem dX7_leaves_5 : decode cX7_leaves 5 = .ok (.istore_n 3, 1) := by decide +kernel
theorem dX7_leaves_6 : decode cX7_leaves 6 = .ok (.iload_n 3, 1) := by decide +kernel
theorem dX7_leaves_7 : decode cX7_leaves 7 = .ok (.aload_n 0, 1) := by decide +kernel
theorem dX7_leaves_8 : decode cX7_leaves 8 = .ok (.getfield 72, 3) := by decide +kernel
theorem dX7_leaves_11 : decode cX7_leaves 11 = .ok (.if_icmp .ge 55, 3) := by decide +kernel
theorem dX7_leaves_14 : decode cX7_leaves 14 = .ok (.aload_n 0, 1) := by decide +kernel
theorem dX7_leaves_15 : decode cX7_leaves 15 = .ok (.iload_n 3, 1) := by decide +kernel
theorem dX7_leaves_16 : decode cX7_leaves 16 = .ok (.iconst 0, 1) := by decide +kernel
theorem dX7_leaves_17 : decode cX7_leaves 17 = .ok (.invokevirtual 96, 3) := by decide +kernel
theorem dX7_leaves_20 : decode cX7_leaves 20 = .ok (.aload_n 0, 1) := by decide +kernel
theorem dX7_leaves_21 : decode cX7_leaves 21 = .ok (.iload_n 1, 1) := by decide +kernel
theorem dX7_leaves_22 : decode cX7_leaves 22 = .ok (.iconst 0, 1) := by decide +kernel
theorem dX7_leaves_23 : decode cX7_leaves 23 = .ok (.invokevirtual 96, 3) := by decide +kernel
theorem dX7_leaves_26 : decode cX7_leaves 26 = .ok (.if_icmp .ne 34, 3) := by decide +kernel
theorem dX7_leaves_29 : decode cX7_leaves 29 = .ok (.aload_n 0, 1) := by decide +kernel
theorem dX7_leaves_30 : decode cX7_leaves 30 = .ok (.iload_n 3, 1) := by decide +kernel
theorem dX7_leaves_31 : decode cX7_leaves 31 = .ok (.invokevirtual 103, 3) := by decide +kernel
theorem dX7_leaves_34 : decode cX7_leaves 34 = .ok (.ifCond .eq 26, 3) := by decide +kernel
theorem dX7_leaves_37 : decode cX7_leaves 37 = .ok (.aload_n 0, 1) := by decide +kernel
theorem dX7_leaves_38 : decode cX7_leaves 38 = .ok (.iload_n 3, 1) := by decide +kernel
theorem dX7_leaves_39 : decode cX7_leaves 39 = .ok (.invokevirtual 100, 3) := by decide +kernel
theorem dX7_leaves_42 : decode cX7_leaves 42 = .ok (.aload_n 0, 1) := by decide +kernel
theorem dX7_leaves_43 : decode cX7_leaves 43 = .ok (.iload_n 1, 1) := by decide +kernel
theorem dX7_leaves_44 : decode cX7_leaves 44 = .ok (.invokevirtual 106, 3) := by decide +kernel
theorem dX7_leaves_47 : decode cX7_leaves 47 = .ok (.if_icmp .lt 13, 3) := by decide +kernel
theorem dX7_leaves_50 : decode cX7_leaves 50 = .ok (.iload_n 2, 1) := by decide +kernel
theorem dX7_leaves_51 : decode cX7_leaves 51 = .ok (.aload_n 0, 1) := by decide +kernel
theorem dX7_leaves_52 : decode cX7_leaves 52 = .ok (.iload_n 3, 1) := by decide +kernel
theorem dX7_leaves_53 : decode cX7_leaves 53 = .ok (.invokevirtual 106, 3) := by decide +kernel
theorem dX7_leaves_56 : decode cX7_leaves 56 = .ok (.invokestatic 109, 3) := by decide +kernel
theorem dX7_leaves_59 : decode cX7_leaves 59 = .ok (.istore_n 2, 1) := by decide +kernel
theorem dX7_leaves_60 : decode cX7_leaves 60 = .ok (.iinc 3 1, 3) := by decide +kernel
theorem dX7_leaves_63 : decode cX7_leaves 63 = .ok (.goto (-57), 3) := by decide +kernel
theorem dX7_leaves_66 : decode cX7_leaves 66 = .ok (.iload_n 2, 1) := by decide +kernel
theorem dX7_leaves_67 : decode cX7_leaves 67 = .ok (.ireturn, 1) := by decide +kernel
set_option maxRecDepth 20000 in
theorem ggX7_least_X7_isShip : GoodIn wsX7_least wsX7_isShip := goodIn_r _ [13, 14, 15, 16, 12, 17, 55, 56, 57, 58, 59, 60, 61, 62, 63, 64, 65, 66, 67, 68, 69, 70, 71, 72] (by decide +kernel) (by decide +kernel)
set_option maxRecDepth 20000 in
theorem gX7_least_X7_isShip : GoodIn wsX7_least (wsV RX7 78 RX7 yX7_isShip wsX7_isShip) := goodIn_app (goodIn_of _ (by decide +kernel)) ggX7_least_X7_isShip
set_option maxRecDepth 20000 in
theorem ggX7_least_X7_fail : GoodIn wsX7_least wsX7_fail := goodIn_r _ [21, 1, 55, 56, 57, 58, 59, 60, 61, 62, 63, 64, 65, 66, 67, 68, 69, 70, 71, 72] (by decide +kernel) (by decide +kernel)
set_option maxRecDepth 20000 in
theorem gX7_least_X7_fail : GoodIn wsX7_least (wsV RX7 65 RX7 yX7_fail wsX7_fail) := goodIn_app (goodIn_of _ (by decide +kernel)) ggX7_least_X7_fail
set_option maxRecDepth 20000 in
theorem ggX7_least_X7_latest : GoodIn wsX7_least wsX7_latest := goodIn_r _ [25, 26, 27, 28, 29, 12, 30, 31, 32, 33, 34, 35, 55, 56, 57, 58, 59, 60, 61, 62, 63, 64, 65, 66, 67, 68, 69, 70, 71, 72] (by decide +kernel) (by decide +kernel)
set_option maxRecDepth 20000 in
theorem gX7_least_X7_latest : GoodIn wsX7_least (wsV RX7 114 RX7 yX7_latest wsX7_latest) := goodIn_app (goodIn_of _ (by decide +kernel)) ggX7_least_X7_latest
set_option maxRecDepth 20000 in
theorem ggX7_least_X7_leaves : GoodIn wsX7_least wsX7_leaves := goodIn_r _ [39, 26, 5, 6, 7, 8, 27, 28, 29, 12, 30, 31, 40, 41, 42, 43, 32, 33, 34, 35, 44, 45, 46, 47, 55, 56, 57, 58, 59, 60, 61, 62, 63, 64, 65, 66, 67, 68, 69, 70, 71, 72] (by decide +kernel) (by decide +kernel)
set_option maxRecDepth 20000 in
theorem gX7_least_X7_leaves : GoodIn wsX7_least (wsV RX7 117 RX7 yX7_leaves wsX7_leaves) := goodIn_app (goodIn_of _ (by decide +kernel)) ggX7_least_X7_leaves
set_option maxRecDepth 20000 in
theorem ggX7_least_X7_end : GoodIn wsX7_least wsX7_end := goodIn_r _ [47, 27, 28, 29, 12, 30, 31, 55, 56, 57, 58, 59, 60, 61, 62, 63, 64, 65, 66, 67, 68, 69, 70, 71, 72] (by decide +kernel) (by decide +kernel)
set_option maxRecDepth 20000 in
theorem gX7_least_X7_end : GoodIn wsX7_least (wsV RX7 106 RX7 yX7_end wsX7_end) := goodIn_app (goodIn_of _ (by decide +kernel)) ggX7_least_X7_end
set_option maxRecDepth 20000 in
theorem ggX7_least_X7_get : GoodIn wsX7_least wsX7_get := goodIn_r _ [30, 31, 55, 56, 57, 58, 59, 60, 61, 62, 63, 64, 65, 66, 67, 68, 69, 70, 71, 72] (by decide +kernel) (by decide +kernel)
set_option maxRecDepth 20000 in
theorem gX7_least_X7_get : GoodIn wsX7_least (wsV RX7 96 RX7 yX7_get wsX7_get) := goodIn_app (goodIn_of _ (by decide +kernel)) ggX7_least_X7_get
set_option maxRecDepth 20000 in
theorem ggX7_least_X7_heightAt : GoodIn wsX7_least wsX7_heightAt := goodIn_r _ [51, 52, 53, 54, 55, 56, 57, 58, 59, 60, 61, 62, 63, 64, 65, 66, 67, 68, 69, 70, 71, 72] (by decide +kernel) (by decide +kernel)
set_option maxRecDepth 20000 in
theorem gX7_least_X7_heightAt : GoodIn wsX7_least (wsV RX7 75 RX7 yX7_heightAt wsX7_heightAt) := goodIn_app (goodIn_of _ (by decide +kernel)) ggX7_least_X7_heightAt
theorem dX7_least_0 : decode cX7_least 0 = .ok (.aload_n 0, 1) := by decide +kernel
theorem dX7_least_1 : decode cX7_least 1 = .ok (.iconst 0, 1) := by decide +kernel
theorem dX7_least_2 : decode cX7_least 2 = .ok (.putfield 48, 3) := by decide +kernel
theorem dX7_least_5 : decode cX7_least 5 = .ok (.aload_n 0, 1) := by decide +kernel
theorem dX7_least_6 : decode cX7_least 6 = .ok (.iload_n 1, 1) := by decide +kernel
theorem dX7_least_7 : decode cX7_least 7 = .ok (.invokevirtual 78, 3) := by decide +kernel
theorem dX7_least_10 : decode cX7_least 10 = .ok (.ifCond .ne 9, 3) := by decide +kernel
theorem dX7_least_13 : decode cX7_least 13 = .ok (.aload_n 0, 1) := by decide +kernel
theorem dX7_least_14 : decode cX7_least 14 = .ok (.iconst 1, 1) := by decide +kernel
theorem dX7_least_15 : decode cX7_least 15 = .ok (.invokevirtual 65, 3) := by decide +kernel
theorem dX7_least_18 : decode cX7_least 18 = .ok (.ireturn, 1) := by decide +kernel
theorem dX7_least_19 : decode cX7_least 19 = .ok (.aload_n 0, 1) := by decide +kernel
theorem dX7_least_20 : decode cX7_least 20 = .ok (.iload_n 1, 1) := by decide +kernel
theorem dX7_least_21 : decode cX7_least 21 = .ok (.iconst 0, 1) := by decide +kernel
theorem dX7_least_22 : decode cX7_least 22 = .ok (.invokevirtual 114, 3) := by decide +kernel
theorem dX7_least_25 : decode cX7_least 25 = .ok (.istore_n 2, 1) := by decide +kernel
theorem dX7_least_26 : decode cX7_least 26 = .ok (.iload_n 2, 1) := by decide +kernel
theorem dX7_least_27 : decode cX7_least 27 = .ok (.iconst (-1), 1) := by decide +kernel
theorem dX7_least_28 : decode cX7_least 28 = .ok (.if_icmp .ne 9, 3) := by decide +kernel
theorem dX7_least_31 : decode cX7_least 31 = .ok (.aload_n 0, 1) := by decide +kernel
theorem dX7_least_32 : decode cX7_least 32 = .ok (.iconst 2, 1) := by decide +kernel
theorem dX7_least_33 : decode cX7_least 33 = .ok (.invokevirtual 65, 3) := by decide +kernel
theorem dX7_least_36 : decode cX7_least 36 = .ok (.ireturn, 1) := by decide +kernel
theorem dX7_least_37 : decode cX7_least 37 = .ok (.aload_n 0, 1) := by decide +kernel
theorem dX7_least_38 : decode cX7_least 38 = .ok (.iload_n 2, 1) := by decide +kernel
theorem dX7_least_39 : decode cX7_least 39 = .ok (.invokevirtual 117, 3) := by decide +kernel
theorem dX7_least_42 : decode cX7_least 42 = .ok (.sipush 2879, 3) := by decide +kernel
theorem dX7_least_45 : decode cX7_least 45 = .ok (.if_icmp .le 9, 3) := by decide +kernel
theorem dX7_least_48 : decode cX7_least 48 = .ok (.sipush 2879, 3) := by decide +kernel
theorem dX7_least_51 : decode cX7_least 51 = .ok (.goto 11, 3) := by decide +kernel
theorem dX7_least_54 : decode cX7_least 54 = .ok (.aload_n 0, 1) := by decide +kernel
theorem dX7_least_55 : decode cX7_least 55 = .ok (.iload_n 2, 1) := by decide +kernel
theorem dX7_least_56 : decode cX7_least 56 = .ok (.invokevirtual 117, 3) := by decide +kernel
theorem dX7_least_59 : decode cX7_least 59 = .ok (.bipush 60, 2) := by decide +kernel
theorem dX7_least_61 : decode cX7_least 61 = .ok (.isub, 1) := by decide +kernel
theorem dX7_least_62 : decode cX7_least 62 = .ok (.istore_n 3, 1) := by decide +kernel
theorem dX7_least_63 : decode cX7_least 63 = .ok (.ldc 122, 2) := by decide +kernel
theorem dX7_least_65 : decode cX7_least 65 = .ok (.istore 4, 2) := by decide +kernel
theorem dX7_least_67 : decode cX7_least 67 = .ok (.aload_n 0, 1) := by decide +kernel
theorem dX7_least_68 : decode cX7_least 68 = .ok (.iload_n 2, 1) := by decide +kernel
theorem dX7_least_69 : decode cX7_least 69 = .ok (.invokevirtual 106, 3) := by decide +kernel
theorem dX7_least_72 : decode cX7_least 72 = .ok (.istore 5, 2) := by decide +kernel
theorem dX7_least_74 : decode cX7_least 74 = .ok (.iload 5, 2) := by decide +kernel
theorem dX7_least_76 : decode cX7_least 76 = .ok (.iload_n 3, 1) := by decide +kernel
theorem dX7_least_77 : decode cX7_least 77 = .ok (.if_icmp .gt 41, 3) := by decide +kernel
theorem dX7_least_80 : decode cX7_least 80 = .ok (.iload 4, 2) := by decide +kernel
theorem dX7_least_82 : decode cX7_least 82 = .ok (.aload_n 0, 1) := by decide +kernel
theorem dX7_least_83 : decode cX7_least 83 = .ok (.getfield 26, 3) := by decide +kernel
theorem dX7_least_86 : decode cX7_least 86 = .ok (.aload_n 0, 1) := by decide +kernel
theorem dX7_least_87 : decode cX7_least 87 = .ok (.iload_n 2, 1) := by decide +kernel
theorem dX7_least_88 : decode cX7_least 88 = .ok (.iconst 4, 1) := by decide +kernel
theorem dX7_least_89 : decode cX7_least 89 = .ok (.invokevirtual 96, 3) := by decide +kernel
theorem dX7_least_92 : decode cX7_least 92 = .ok (.iaload, 1) := by decide +kernel
theorem dX7_least_93 : decode cX7_least 93 = .ok (.aload_n 0, 1) := by decide +kernel
theorem dX7_least_94 : decode cX7_least 94 = .ok (.iload 5, 2) := by decide +kernel
theorem dX7_least_96 : decode cX7_least 96 = .ok (.invokevirtual 75, 3) := by decide +kernel
theorem dX7_least_99 : decode cX7_least 99 = .ok (.iadd, 1) := by decide +kernel
theorem dX7_least_100 : decode cX7_least 100 = .ok (.aload_n 0, 1) := by decide +kernel
theorem dX7_least_101 : decode cX7_least 101 = .ok (.getfield 32, 3) := by decide +kernel
theorem dX7_least_104 : decode cX7_least 104 = .ok (.iload_n 1, 1) := by decide +kernel
theorem dX7_least_105 : decode cX7_least 105 = .ok (.iaload, 1) := by decide +kernel
theorem dX7_least_106 : decode cX7_least 106 = .ok (.isub, 1) := by decide +kernel
theorem dX7_least_107 : decode cX7_least 107 = .ok (.invokestatic 109, 3) := by decide +kernel
theorem dX7_least_110 : decode cX7_least 110 = .ok (.istore 4, 2) := by decide +kernel
theorem dX7_least_112 : decode cX7_least 112 = .ok (.iinc 5 1, 3) := by decide +kernel
theorem dX7_least_115 : decode cX7_least 115 = .ok (.goto (-41), 3) := by decide +kernel
theorem dX7_least_118 : decode cX7_least 118 = .ok (.iload 4, 2) := by decide +kernel
theorem dX7_least_120 : decode cX7_least 120 = .ok (.ireturn, 1) := by decide +kernel
theorem dX7_tugsFor_0 : decode cX7_tugsFor 0 = .ok (.iload_n 0, 1) := by decide +kernel
theorem dX7_tugsFor_1 : decode cX7_tugsFor 1 = .ok (.bipush 100, 2) := by decide +kernel
theorem dX7_tugsFor_3 : decode cX7_tugsFor 3 = .ok (.if_icmp .ge 7, 3) := by decide +kernel
theorem dX7_tugsFor_6 : decode cX7_tugsFor 6 = .ok (.iconst 0, 1) := by decide +kernel
theorem dX7_tugsFor_7 : decode cX7_tugsFor 7 = .ok (.goto 26, 3) := by decide +kernel
theorem dX7_tugsFor_10 : decode cX7_tugsFor 10 = .ok (.iload_n 0, 1) := by decide +kernel
theorem dX7_tugsFor_11 : decode cX7_tugsFor 11 = .ok (.sipush 160, 3) := by decide +kernel
theorem dX7_tugsFor_14 : decode cX7_tugsFor 14 = .ok (.if_icmp .ge 7, 3) := by decide +kernel
theorem dX7_tugsFor_17 : decode cX7_tugsFor 17 = .ok (.iconst 1, 1) := by decide +kernel
theorem dX7_tugsFor_18 : decode cX7_tugsFor 18 = .ok (.goto 15, 3) := by decide +kernel
theorem dX7_tugsFor_21 : decode cX7_tugsFor 21 = .ok (.iload_n 0, 1) := by decide +kernel
theorem dX7_tugsFor_22 : decode cX7_tugsFor 22 = .ok (.sipush 220, 3) := by decide +kernel
theorem dX7_tugsFor_25 : decode cX7_tugsFor 25 = .ok (.if_icmp .ge 7, 3) := by decide +kernel
theorem dX7_tugsFor_28 : decode cX7_tugsFor 28 = .ok (.iconst 2, 1) := by decide +kernel
theorem dX7_tugsFor_29 : decode cX7_tugsFor 29 = .ok (.goto 4, 3) := by decide +kernel
theorem dX7_tugsFor_32 : decode cX7_tugsFor 32 = .ok (.iconst 3, 1) := by decide +kernel
theorem dX7_tugsFor_33 : decode cX7_tugsFor 33 = .ok (.ireturn, 1) := by decide +kernel
set_option maxRecDepth 20000 in
theorem ggX7_tugsAt_X7_begin : GoodIn wsX7_tugsAt wsX7_begin := goodIn_r _ [6, 7, 8, 9, 5, 10, 11, 19, 20, 21, 22, 23, 24, 25, 26, 27, 28, 29, 30, 31, 32, 33, 34, 35, 36] (by decide +kernel) (by decide +kernel)
set_option maxRecDepth 20000 in
theorem gX7_tugsAt_X7_begin : GoodIn wsX7_tugsAt (wsV RX7 100 RX7 yX7_begin wsX7_begin) := goodIn_app (goodIn_of _ (by decide +kernel)) ggX7_tugsAt_X7_begin
set_option maxRecDepth 20000 in
theorem ggX7_tugsAt_X7_isOut : GoodIn wsX7_tugsAt wsX7_isOut := goodIn_r _ [15, 7, 8, 9, 5, 10, 11, 19, 20, 21, 22, 23, 24, 25, 26, 27, 28, 29, 30, 31, 32, 33, 34, 35, 36] (by decide +kernel) (by decide +kernel)
set_option maxRecDepth 20000 in
theorem gX7_tugsAt_X7_isOut : GoodIn wsX7_tugsAt (wsV RX7 103 RX7 yX7_isOut wsX7_isOut) := goodIn_app (goodIn_of _ (by decide +kernel)) ggX7_tugsAt_X7_isOut
set_option maxRecDepth 20000 in
theorem ggX7_tugsAt_X7_isIn : GoodIn wsX7_tugsAt wsX7_isIn := goodIn_r _ [18] (by decide +kernel) (by decide +kernel)
set_option maxRecDepth 20000 in
theorem gX7_tugsAt_X7_isIn : GoodIn wsX7_tugsAt (va_wsS RX7 51 yX7_isIn wsX7_isIn) := goodIn_app (goodIn_of _ (by decide +kernel)) ggX7_tugsAt_X7_isIn
set_option maxRecDepth 20000 in
theorem ggX7_tugsAt_X7_get : GoodIn wsX7_tugsAt wsX7_get := goodIn_r _ [10, 11, 19, 20, 21, 22, 23, 24, 25, 26, 27, 28, 29, 30, 31, 32, 33, 34, 35, 36] (by decide +kernel) (by decide +kernel)
set_option maxRecDepth 20000 in
theorem gX7_tugsAt_X7_get : GoodIn wsX7_tugsAt (wsV RX7 96 RX7 yX7_get wsX7_get) := goodIn_app (goodIn_of _ (by decide +kernel)) ggX7_tugsAt_X7_get
theorem dX7_tugsAt_0 : decode cX7_tugsAt 0 = .ok (.iconst 0, 1) := by decide +kernel
theorem dX7_tugsAt_1 : decode cX7_tugsAt 1 = .ok (.istore_n 2, 1) := by decide +kernel
theorem dX7_tugsAt_2 : decode cX7_tugsAt 2 = .ok (.iconst 0, 1) := by decide +kernel
theorem dX7_tugsAt_3 : decode cX7_tugsAt 3 = .ok (.istore_n 3, 1) := by decide +kernel
theorem dX7_tugsAt_4 : decode cX7_tugsAt 4 = .ok (.iload_n 3, 1) := by decide +kernel
theorem dX7_tugsAt_5 : decode cX7_tugsAt 5 = .ok (.aload_n 0, 1) := by decide +kernel
theorem dX7_tugsAt_6 : decode cX7_tugsAt 6 = .ok (.getfield 72, 3) := by decide +kernel
theorem dX7_tugsAt_9 : decode cX7_tugsAt 9 = .ok (.if_icmp .ge 58, 3) := by decide +kernel
theorem dX7_tugsAt_12 : decode cX7_tugsAt 12 = .ok (.aload_n 0, 1) := by decide +kernel
theorem dX7_tugsAt_13 : decode cX7_tugsAt 13 = .ok (.iload_n 3, 1) := by decide +kernel
theorem dX7_tugsAt_14 : decode cX7_tugsAt 14 = .ok (.invokevirtual 100, 3) := by decide +kernel
theorem dX7_tugsAt_17 : decode cX7_tugsAt 17 = .ok (.aload_n 0, 1) := by decide +kernel
theorem dX7_tugsAt_18 : decode cX7_tugsAt 18 = .ok (.iload_n 3, 1) := by decide +kernel
theorem dX7_tugsAt_19 : decode cX7_tugsAt 19 = .ok (.invokevirtual 103, 3) := by decide +kernel
theorem dX7_tugsAt_22 : decode cX7_tugsAt 22 = .ok (.ifCond .eq 7, 3) := by decide +kernel
theorem dX7_tugsAt_25 : decode cX7_tugsAt 25 = .ok (.iconst 0, 1) := by decide +kernel
theorem dX7_tugsAt_26 : decode cX7_tugsAt 26 = .ok (.goto 5, 3) := by decide +kernel
theorem dX7_tugsAt_29 : decode cX7_tugsAt 29 = .ok (.bipush 20, 2) := by decide +kernel
theorem dX7_tugsAt_31 : decode cX7_tugsAt 31 = .ok (.iadd, 1) := by decide +kernel
theorem dX7_tugsAt_32 : decode cX7_tugsAt 32 = .ok (.istore 4, 2) := by decide +kernel
theorem dX7_tugsAt_34 : decode cX7_tugsAt 34 = .ok (.iload_n 2, 1) := by decide +kernel
theorem dX7_tugsAt_35 : decode cX7_tugsAt 35 = .ok (.iload_n 1, 1) := by decide +kernel
theorem dX7_tugsAt_36 : decode cX7_tugsAt 36 = .ok (.iload 4, 2) := by decide +kernel
theorem dX7_tugsAt_38 : decode cX7_tugsAt 38 = .ok (.iload 4, 2) := by decide +kernel
theorem dX7_tugsAt_40 : decode cX7_tugsAt 40 = .ok (.bipush 39, 2) := by decide +kernel
theorem dX7_tugsAt_42 : decode cX7_tugsAt 42 = .ok (.iadd, 1) := by decide +kernel
theorem dX7_tugsAt_43 : decode cX7_tugsAt 43 = .ok (.invokestatic 51, 3) := by decide +kernel
theorem dX7_tugsAt_46 : decode cX7_tugsAt 46 = .ok (.ifCond .eq 12, 3) := by decide +kernel
theorem dX7_tugsAt_49 : decode cX7_tugsAt 49 = .ok (.aload_n 0, 1) := by decide +kernel
theorem dX7_tugsAt_50 : decode cX7_tugsAt 50 = .ok (.iload_n 3, 1) := by decide +kernel
theorem dX7_tugsAt_51 : decode cX7_tugsAt 51 = .ok (.iconst 3, 1) := by decide +kernel
theorem dX7_tugsAt_52 : decode cX7_tugsAt 52 = .ok (.invokevirtual 96, 3) := by decide +kernel
theorem dX7_tugsAt_55 : decode cX7_tugsAt 55 = .ok (.goto 4, 3) := by decide +kernel
theorem dX7_tugsAt_58 : decode cX7_tugsAt 58 = .ok (.iconst 0, 1) := by decide +kernel
theorem dX7_tugsAt_59 : decode cX7_tugsAt 59 = .ok (.iadd, 1) := by decide +kernel
theorem dX7_tugsAt_60 : decode cX7_tugsAt 60 = .ok (.istore_n 2, 1) := by decide +kernel
theorem dX7_tugsAt_61 : decode cX7_tugsAt 61 = .ok (.iinc 3 1, 3) := by decide +kernel
theorem dX7_tugsAt_64 : decode cX7_tugsAt 64 = .ok (.goto (-60), 3) := by decide +kernel
theorem dX7_tugsAt_67 : decode cX7_tugsAt 67 = .ok (.iload_n 2, 1) := by decide +kernel
theorem dX7_tugsAt_68 : decode cX7_tugsAt 68 = .ok (.ireturn, 1) := by decide +kernel
set_option maxRecDepth 20000 in
theorem ggX7_areTugs_X7_tugsFor : GoodIn wsX7_areTugs wsX7_tugsFor := goodIn_r _ [5] (by decide +kernel) (by decide +kernel)
set_option maxRecDepth 20000 in
theorem gX7_areTugs_X7_tugsFor : GoodIn wsX7_areTugs (va_wsS RX7 123 yX7_tugsFor wsX7_tugsFor) := goodIn_app (goodIn_of _ (by decide +kernel)) ggX7_areTugs_X7_tugsFor
set_option maxRecDepth 20000 in
theorem ggX7_areTugs_X7_tugsAt : GoodIn wsX7_areTugs wsX7_tugsAt := goodIn_r _ [9, 10, 11, 12, 13, 4, 14, 15, 16, 17, 18, 19, 20, 21, 22, 23, 24, 25, 26, 27, 28, 29, 30, 31, 32, 33, 34, 35, 36, 37, 38, 39, 40, 41, 42, 43, 44] (by decide +kernel) (by decide +kernel)
set_option maxRecDepth 20000 in
theorem gX7_areTugs_X7_tugsAt : GoodIn wsX7_areTugs (wsV RX7 126 RX7 yX7_tugsAt wsX7_tugsAt) := goodIn_app (goodIn_of _ (by decide +kernel)) ggX7_areTugs_X7_tugsAt
theorem dX7_areTugs_0 : decode cX7_areTugs 0 = .ok (.iload_n 1, 1) := by decide +kernel
theorem dX7_areTugs_1 : decode cX7_areTugs 1 = .ok (.invokestatic 123, 3) := by decide +kernel
theorem dX7_areTugs_4 : decode cX7_areTugs 4 = .ok (.istore 4, 2) := by decide +kernel
theorem dX7_areTugs_6 : decode cX7_areTugs 6 = .ok (.iload_n 3, 1) := by decide +kernel
theorem dX7_areTugs_7 : decode cX7_areTugs 7 = .ok (.iload_n 2, 1) := by decide +kernel
theorem dX7_areTugs_8 : decode cX7_areTugs 8 = .ok (.ifCond .eq 7, 3) := by decide +kernel
theorem dX7_areTugs_11 : decode cX7_areTugs 11 = .ok (.iconst 0, 1) := by decide +kernel
theorem dX7_areTugs_12 : decode cX7_areTugs 12 = .ok (.goto 5, 3) := by decide +kernel
theorem dX7_areTugs_15 : decode cX7_areTugs 15 = .ok (.bipush 20, 2) := by decide +kernel
theorem dX7_areTugs_17 : decode cX7_areTugs 17 = .ok (.iadd, 1) := by decide +kernel
theorem dX7_areTugs_18 : decode cX7_areTugs 18 = .ok (.istore 5, 2) := by decide +kernel
theorem dX7_areTugs_20 : decode cX7_areTugs 20 = .ok (.iconst 1, 1) := by decide +kernel
theorem dX7_areTugs_21 : decode cX7_areTugs 21 = .ok (.istore 6, 2) := by decide +kernel
theorem dX7_areTugs_23 : decode cX7_areTugs 23 = .ok (.iload 5, 2) := by decide +kernel
theorem dX7_areTugs_25 : decode cX7_areTugs 25 = .ok (.istore 7, 2) := by decide +kernel
theorem dX7_areTugs_27 : decode cX7_areTugs 27 = .ok (.iload 7, 2) := by decide +kernel
theorem dX7_areTugs_29 : decode cX7_areTugs 29 = .ok (.iload 5, 2) := by decide +kernel
theorem dX7_areTugs_31 : decode cX7_areTugs 31 = .ok (.bipush 40, 2) := by decide +kernel
theorem dX7_areTugs_33 : decode cX7_areTugs 33 = .ok (.iadd, 1) := by decide +kernel
theorem dX7_areTugs_34 : decode cX7_areTugs 34 = .ok (.if_icmp .ge 42, 3) := by decide +kernel
theorem dX7_areTugs_37 : decode cX7_areTugs 37 = .ok (.iload 4, 2) := by decide +kernel
theorem dX7_areTugs_39 : decode cX7_areTugs 39 = .ok (.ifCond .le 37, 3) := by decide +kernel
theorem dX7_areTugs_42 : decode cX7_areTugs 42 = .ok (.iload 6, 2) := by decide +kernel
theorem dX7_areTugs_44 : decode cX7_areTugs 44 = .ok (.ifCond .eq 32, 3) := by decide +kernel
theorem dX7_areTugs_47 : decode cX7_areTugs 47 = .ok (.aload_n 0, 1) := by decide +kernel
theorem dX7_areTugs_48 : decode cX7_areTugs 48 = .ok (.iload 7, 2) := by decide +kernel
theorem dX7_areTugs_50 : decode cX7_areTugs 50 = .ok (.invokevirtual 126, 3) := by decide +kernel
theorem dX7_areTugs_53 : decode cX7_areTugs 53 = .ok (.iload 4, 2) := by decide +kernel
theorem dX7_areTugs_55 : decode cX7_areTugs 55 = .ok (.iadd, 1) := by decide +kernel
theorem dX7_areTugs_56 : decode cX7_areTugs 56 = .ok (.aload_n 0, 1) := by decide +kernel
theorem dX7_areTugs_57 : decode cX7_areTugs 57 = .ok (.getfield 42, 3) := by decide +kernel
theorem dX7_areTugs_60 : decode cX7_areTugs 60 = .ok (.if_icmp .gt 7, 3) := by decide +kernel
theorem dX7_areTugs_63 : decode cX7_areTugs 63 = .ok (.iconst 1, 1) := by decide +kernel
theorem dX7_areTugs_64 : decode cX7_areTugs 64 = .ok (.goto 4, 3) := by decide +kernel
theorem dX7_areTugs_67 : decode cX7_areTugs 67 = .ok (.iconst 0, 1) := by decide +kernel
theorem dX7_areTugs_68 : decode cX7_areTugs 68 = .ok (.istore 6, 2) := by decide +kernel
theorem dX7_areTugs_70 : decode cX7_areTugs 70 = .ok (.iinc 7 1, 3) := by decide +kernel
theorem dX7_areTugs_73 : decode cX7_areTugs 73 = .ok (.goto (-46), 3) := by decide +kernel
theorem dX7_areTugs_76 : decode cX7_areTugs 76 = .ok (.iload 6, 2) := by decide +kernel
theorem dX7_areTugs_78 : decode cX7_areTugs 78 = .ok (.ireturn, 1) := by decide +kernel
set_option maxRecDepth 20000 in
theorem ggX7_lastTrip_X7_get : GoodIn wsX7_lastTrip wsX7_get := goodIn_r _ [6, 7, 12, 13, 14, 15, 16, 17, 18, 19, 20, 21, 22, 23, 24, 25, 26, 27, 28, 29] (by decide +kernel) (by decide +kernel)
set_option maxRecDepth 20000 in
theorem gX7_lastTrip_X7_get : GoodIn wsX7_lastTrip (wsV RX7 96 RX7 yX7_get wsX7_get) := goodIn_app (goodIn_of _ (by decide +kernel)) ggX7_lastTrip_X7_get
set_option maxRecDepth 20000 in
theorem ggX7_lastTrip_X7_begin : GoodIn wsX7_lastTrip wsX7_begin := goodIn_r _ [11, 2, 3, 4, 5, 6, 7, 12, 13, 14, 15, 16, 17, 18, 19, 20, 21, 22, 23, 24, 25, 26, 27, 28, 29] (by decide +kernel) (by decide +kernel)
set_option maxRecDepth 20000 in
theorem gX7_lastTrip_X7_begin : GoodIn wsX7_lastTrip (wsV RX7 100 RX7 yX7_begin wsX7_begin) := goodIn_app (goodIn_of _ (by decide +kernel)) ggX7_lastTrip_X7_begin
theorem dX7_lastTrip_0 : decode cX7_lastTrip 0 = .ok (.iconst (-1), 1) := by decide +kernel
theorem dX7_lastTrip_1 : decode cX7_lastTrip 1 = .ok (.istore_n 2, 1) := by decide +kernel
theorem dX7_lastTrip_2 : decode cX7_lastTrip 2 = .ok (.iconst 0, 1) := by decide +kernel
theorem dX7_lastTrip_3 : decode cX7_lastTrip 3 = .ok (.istore_n 3, 1) := by decide +kernel
theorem dX7_lastTrip_4 : decode cX7_lastTrip 4 = .ok (.iload_n 3, 1) := by decide +kernel
theorem dX7_lastTrip_5 : decode cX7_lastTrip 5 = .ok (.aload_n 0, 1) := by decide +kernel
theorem dX7_lastTrip_6 : decode cX7_lastTrip 6 = .ok (.getfield 72, 3) := by decide +kernel
theorem dX7_lastTrip_9 : decode cX7_lastTrip 9 = .ok (.if_icmp .ge 39, 3) := by decide +kernel
theorem dX7_lastTrip_12 : decode cX7_lastTrip 12 = .ok (.aload_n 0, 1) := by decide +kernel
theorem dX7_lastTrip_13 : decode cX7_lastTrip 13 = .ok (.iload_n 3, 1) := by decide +kernel
theorem dX7_lastTrip_14 : decode cX7_lastTrip 14 = .ok (.iconst 2, 1) := by decide +kernel
theorem dX7_lastTrip_15 : decode cX7_lastTrip 15 = .ok (.invokevirtual 96, 3) := by decide +kernel
theorem dX7_lastTrip_18 : decode cX7_lastTrip 18 = .ok (.iload_n 1, 1) := by decide +kernel
theorem dX7_lastTrip_19 : decode cX7_lastTrip 19 = .ok (.if_icmp .ne 23, 3) := by decide +kernel
theorem dX7_lastTrip_22 : decode cX7_lastTrip 22 = .ok (.iload_n 2, 1) := by decide +kernel
theorem dX7_lastTrip_23 : decode cX7_lastTrip 23 = .ok (.iconst (-1), 1) := by decide +kernel
theorem dX7_lastTrip_24 : decode cX7_lastTrip 24 = .ok (.if_icmp .eq 16, 3) := by decide +kernel
theorem dX7_lastTrip_27 : decode cX7_lastTrip 27 = .ok (.aload_n 0, 1) := by decide +kernel
theorem dX7_lastTrip_28 : decode cX7_lastTrip 28 = .ok (.iload_n 3, 1) := by decide +kernel
theorem dX7_lastTrip_29 : decode cX7_lastTrip 29 = .ok (.invokevirtual 100, 3) := by decide +kernel
theorem dX7_lastTrip_32 : decode cX7_lastTrip 32 = .ok (.aload_n 0, 1) := by decide +kernel
theorem dX7_lastTrip_33 : decode cX7_lastTrip 33 = .ok (.iload_n 2, 1) := by decide +kernel
theorem dX7_lastTrip_34 : decode cX7_lastTrip 34 = .ok (.invokevirtual 100, 3) := by decide +kernel
theorem dX7_lastTrip_37 : decode cX7_lastTrip 37 = .ok (.if_icmp .le 5, 3) := by decide +kernel
theorem dX7_lastTrip_40 : decode cX7_lastTrip 40 = .ok (.iload_n 3, 1) := by decide +kernel
theorem dX7_lastTrip_41 : decode cX7_lastTrip 41 = .ok (.istore_n 2, 1) := by decide +kernel
theorem dX7_lastTrip_42 : decode cX7_lastTrip 42 = .ok (.iinc 3 1, 3) := by decide +kernel
theorem dX7_lastTrip_45 : decode cX7_lastTrip 45 = .ok (.goto (-41), 3) := by decide +kernel
theorem dX7_lastTrip_48 : decode cX7_lastTrip 48 = .ok (.iload_n 2, 1) := by decide +kernel
theorem dX7_lastTrip_49 : decode cX7_lastTrip 49 = .ok (.ireturn, 1) := by decide +kernel
set_option maxRecDepth 20000 in
theorem ggX7_isPortSide_X7_lastTrip : GoodIn wsX7_isPortSide wsX7_lastTrip := goodIn_r _ [6, 7, 8, 9, 10, 5, 11, 12, 13, 14, 15, 16, 21, 22, 23, 24, 25, 26, 27, 28, 29, 30, 31, 32, 33, 34, 35, 36, 37, 38] (by decide +kernel) (by decide +kernel)
set_option maxRecDepth 20000 in
theorem gX7_isPortSide_X7_lastTrip : GoodIn wsX7_isPortSide (wsV RX7 129 RX7 yX7_lastTrip wsX7_lastTrip) := goodIn_app (goodIn_of _ (by decide +kernel)) ggX7_isPortSide_X7_lastTrip
set_option maxRecDepth 20000 in
theorem ggX7_isPortSide_X7_isOut : GoodIn wsX7_isPortSide wsX7_isOut := goodIn_r _ [20, 8, 9, 10, 5, 11, 12, 21, 22, 23, 24, 25, 26, 27, 28, 29, 30, 31, 32, 33, 34, 35, 36, 37, 38] (by decide +kernel) (by decide +kernel)
set_option maxRecDepth 20000 in
theorem gX7_isPortSide_X7_isOut : GoodIn wsX7_isPortSide (wsV RX7 103 RX7 yX7_isOut wsX7_isOut) := goodIn_app (goodIn_of _ (by decide +kernel)) ggX7_isPortSide_X7_isOut
theorem dX7_isPortSide_0 : decode cX7_isPortSide 0 = .ok (.aload_n 0, 1) := by decide +kernel
theorem dX7_isPortSide_1 : decode cX7_isPortSide 1 = .ok (.iload_n 1, 1) := by decide +kernel
theorem dX7_isPortSide_2 : decode cX7_isPortSide 2 = .ok (.invokevirtual 129, 3) := by decide +kernel
theorem dX7_isPortSide_5 : decode cX7_isPortSide 5 = .ok (.istore_n 2, 1) := by decide +kernel
