theorem dX7_isPortSide_6 : decode cX7_isPortSide 6 = .ok (.iload_n 2, 1) := by decide +kernel
theorem dX7_isPortSide_7 : decode cX7_isPortSide 7 = .ok (.iconst (-1), 1) := by decide +kernel
theorem dX7_isPortSide_8 : decode cX7_isPortSide 8 = .ok (.if_icmp .ne 12, 3) := by decide +kernel
theorem dX7_isPortSide_11 : decode cX7_isPortSide 11 = .ok (.aload_n 0, 1) := by decide +kernel
theorem dX7_isPortSide_12 : decode cX7_isPortSide 12 = .ok (.getfield 38, 3) := by decide +kernel
theorem dX7_isPortSide_15 : decode cX7_isPortSide 15 = .ok (.iload_n 1, 1) := by decide +kernel
theorem dX7_isPortSide_16 : decode cX7_isPortSide 16 = .ok (.baload, 1) := by decide +kernel
theorem dX7_isPortSide_17 : decode cX7_isPortSide 17 = .ok (.goto 16, 3) := by decide +kernel
theorem dX7_isPortSide_20 : decode cX7_isPortSide 20 = .ok (.aload_n 0, 1) := by decide +kernel
theorem dX7_isPortSide_21 : decode cX7_isPortSide 21 = .ok (.iload_n 2, 1) := by decide +kernel
theorem dX7_isPortSide_22 : decode cX7_isPortSide 22 = .ok (.invokevirtual 103, 3) := by decide +kernel
theorem dX7_isPortSide_25 : decode cX7_isPortSide 25 = .ok (.ifCond .ne 7, 3) := by decide +kernel
theorem dX7_isPortSide_28 : decode cX7_isPortSide 28 = .ok (.iconst 1, 1) := by decide +kernel
theorem dX7_isPortSide_29 : decode cX7_isPortSide 29 = .ok (.goto 4, 3) := by decide +kernel
theorem dX7_isPortSide_32 : decode cX7_isPortSide 32 = .ok (.iconst 0, 1) := by decide +kernel
theorem dX7_isPortSide_33 : decode cX7_isPortSide 33 = .ok (.ireturn, 1) := by decide +kernel
set_option maxRecDepth 20000 in
theorem ggX7_isReady_X7_lastTrip : GoodIn wsX7_isReady wsX7_lastTrip := goodIn_r _ [6, 7, 8, 9, 10, 5, 11, 12, 13, 14, 15, 16, 30, 31, 32, 33, 34, 35, 36, 37, 38, 39, 40, 41, 42, 43, 44, 45, 46, 47] (by decide +kernel) (by decide +kernel)
set_option maxRecDepth 20000 in
theorem gX7_isReady_X7_lastTrip : GoodIn wsX7_isReady (wsV RX7 129 RX7 yX7_lastTrip wsX7_lastTrip) := goodIn_app (goodIn_of _ (by decide +kernel)) ggX7_isReady_X7_lastTrip
set_option maxRecDepth 20000 in
theorem ggX7_isReady_X7_isPortSide : GoodIn wsX7_isReady wsX7_isPortSide := goodIn_r _ [20, 21, 2, 3, 4, 5, 6, 7, 8, 9, 10, 11, 12, 13, 14, 15, 16, 22, 23, 24, 25, 30, 31, 32, 33, 34, 35, 36, 37, 38, 39, 40, 41, 42, 43, 44, 45, 46, 47] (by decide +kernel) (by decide +kernel)
set_option maxRecDepth 20000 in
theorem gX7_isReady_X7_isPortSide : GoodIn wsX7_isReady (wsV RX7 132 RX7 yX7_isPortSide wsX7_isPortSide) := goodIn_app (goodIn_of _ (by decide +kernel)) ggX7_isReady_X7_isPortSide
set_option maxRecDepth 20000 in
theorem ggX7_isReady_X7_begin : GoodIn wsX7_isReady wsX7_begin := goodIn_r _ [16, 8, 9, 10, 5, 11, 12, 30, 31, 32, 33, 34, 35, 36, 37, 38, 39, 40, 41, 42, 43, 44, 45, 46, 47] (by decide +kernel) (by decide +kernel)
set_option maxRecDepth 20000 in
theorem gX7_isReady_X7_begin : GoodIn wsX7_isReady (wsV RX7 100 RX7 yX7_begin wsX7_begin) := goodIn_app (goodIn_of _ (by decide +kernel)) ggX7_isReady_X7_begin
set_option maxRecDepth 20000 in
theorem ggX7_isReady_X7_end : GoodIn wsX7_isReady wsX7_end := goodIn_r _ [29, 8, 9, 10, 5, 11, 12, 30, 31, 32, 33, 34, 35, 36, 37, 38, 39, 40, 41, 42, 43, 44, 45, 46, 47] (by decide +kernel) (by decide +kernel)
set_option maxRecDepth 20000 in
theorem gX7_isReady_X7_end : GoodIn wsX7_isReady (wsV RX7 106 RX7 yX7_end wsX7_end) := goodIn_app (goodIn_of _ (by decide +kernel)) ggX7_isReady_X7_end
theorem dX7_isReady_0 : decode cX7_isReady 0 = .ok (.aload_n 0, 1) := by decide +kernel
theorem dX7_isReady_1 : decode cX7_isReady 1 = .ok (.getfield 35, 3) := by decide +kernel
theorem dX7_isReady_4 : decode cX7_isReady 4 = .ok (.iload_n 1, 1) := by decide +kernel
theorem dX7_isReady_5 : decode cX7_isReady 5 = .ok (.iaload, 1) := by decide +kernel
theorem dX7_isReady_6 : decode cX7_isReady 6 = .ok (.iload_n 2, 1) := by decide +kernel
theorem dX7_isReady_7 : decode cX7_isReady 7 = .ok (.if_icmp .ge 5, 3) := by decide +kernel
theorem dX7_isReady_10 : decode cX7_isReady 10 = .ok (.iconst 0, 1) := by decide +kernel
theorem dX7_isReady_11 : decode cX7_isReady 11 = .ok (.ireturn, 1) := by decide +kernel
theorem dX7_isReady_12 : decode cX7_isReady 12 = .ok (.aload_n 0, 1) := by decide +kernel
theorem dX7_isReady_13 : decode cX7_isReady 13 = .ok (.iload_n 1, 1) := by decide +kernel
theorem dX7_isReady_14 : decode cX7_isReady 14 = .ok (.invokevirtual 129, 3) := by decide +kernel
theorem dX7_isReady_17 : decode cX7_isReady 17 = .ok (.istore 5, 2) := by decide +kernel
theorem dX7_isReady_19 : decode cX7_isReady 19 = .ok (.aload_n 0, 1) := by decide +kernel
theorem dX7_isReady_20 : decode cX7_isReady 20 = .ok (.iload_n 1, 1) := by decide +kernel
theorem dX7_isReady_21 : decode cX7_isReady 21 = .ok (.invokevirtual 132, 3) := by decide +kernel
theorem dX7_isReady_24 : decode cX7_isReady 24 = .ok (.iload_n 3, 1) := by decide +kernel
theorem dX7_isReady_25 : decode cX7_isReady 25 = .ok (.if_icmp .ne 7, 3) := by decide +kernel
theorem dX7_isReady_28 : decode cX7_isReady 28 = .ok (.iconst 1, 1) := by decide +kernel
theorem dX7_isReady_29 : decode cX7_isReady 29 = .ok (.goto 4, 3) := by decide +kernel
theorem dX7_isReady_32 : decode cX7_isReady 32 = .ok (.iconst 0, 1) := by decide +kernel
theorem dX7_isReady_33 : decode cX7_isReady 33 = .ok (.istore 6, 2) := by decide +kernel
theorem dX7_isReady_35 : decode cX7_isReady 35 = .ok (.iload 5, 2) := by decide +kernel
theorem dX7_isReady_37 : decode cX7_isReady 37 = .ok (.iconst (-1), 1) := by decide +kernel
theorem dX7_isReady_38 : decode cX7_isReady 38 = .ok (.if_icmp .ne 23, 3) := by decide +kernel
theorem dX7_isReady_41 : decode cX7_isReady 41 = .ok (.iload 6, 2) := by decide +kernel
theorem dX7_isReady_43 : decode cX7_isReady 43 = .ok (.ifCond .ne 10, 3) := by decide +kernel
theorem dX7_isReady_46 : decode cX7_isReady 46 = .ok (.iload 4, 2) := by decide +kernel
theorem dX7_isReady_48 : decode cX7_isReady 48 = .ok (.bipush 60, 2) := by decide +kernel
theorem dX7_isReady_50 : decode cX7_isReady 50 = .ok (.if_icmp .lt 7, 3) := by decide +kernel
theorem dX7_isReady_53 : decode cX7_isReady 53 = .ok (.iconst 1, 1) := by decide +kernel
theorem dX7_isReady_54 : decode cX7_isReady 54 = .ok (.goto 47, 3) := by decide +kernel
theorem dX7_isReady_57 : decode cX7_isReady 57 = .ok (.iconst 0, 1) := by decide +kernel
theorem dX7_isReady_58 : decode cX7_isReady 58 = .ok (.goto 43, 3) := by decide +kernel
theorem dX7_isReady_61 : decode cX7_isReady 61 = .ok (.aload_n 0, 1) := by decide +kernel
theorem dX7_isReady_62 : decode cX7_isReady 62 = .ok (.iload 5, 2) := by decide +kernel
theorem dX7_isReady_64 : decode cX7_isReady 64 = .ok (.invokevirtual 100, 3) := by decide +kernel
theorem dX7_isReady_67 : decode cX7_isReady 67 = .ok (.iload 4, 2) := by decide +kernel
theorem dX7_isReady_69 : decode cX7_isReady 69 = .ok (.if_icmp .ge 31, 3) := by decide +kernel
theorem dX7_isReady_72 : decode cX7_isReady 72 = .ok (.iload 4, 2) := by decide +kernel
theorem dX7_isReady_74 : decode cX7_isReady 74 = .ok (.aload_n 0, 1) := by decide +kernel
theorem dX7_isReady_75 : decode cX7_isReady 75 = .ok (.iload 5, 2) := by decide +kernel
theorem dX7_isReady_77 : decode cX7_isReady 77 = .ok (.invokevirtual 106, 3) := by decide +kernel
theorem dX7_isReady_80 : decode cX7_isReady 80 = .ok (.iload 6, 2) := by decide +kernel
theorem dX7_isReady_82 : decode cX7_isReady 82 = .ok (.ifCond .eq 8, 3) := by decide +kernel
theorem dX7_isReady_85 : decode cX7_isReady 85 = .ok (.bipush 30, 2) := by decide +kernel
theorem dX7_isReady_87 : decode cX7_isReady 87 = .ok (.goto 5, 3) := by decide +kernel
theorem dX7_isReady_90 : decode cX7_isReady 90 = .ok (.bipush 90, 2) := by decide +kernel
theorem dX7_isReady_92 : decode cX7_isReady 92 = .ok (.iadd, 1) := by decide +kernel
theorem dX7_isReady_93 : decode cX7_isReady 93 = .ok (.if_icmp .lt 7, 3) := by decide +kernel
theorem dX7_isReady_96 : decode cX7_isReady 96 = .ok (.iconst 1, 1) := by decide +kernel
theorem dX7_isReady_97 : decode cX7_isReady 97 = .ok (.goto 4, 3) := by decide +kernel
theorem dX7_isReady_100 : decode cX7_isReady 100 = .ok (.iconst 0, 1) := by decide +kernel
theorem dX7_isReady_101 : decode cX7_isReady 101 = .ok (.ireturn, 1) := by decide +kernel
set_option maxRecDepth 20000 in
theorem ggX7_pilotFor_X7_isReady : GoodIn wsX7_pilotFor wsX7_isReady := goodIn_r _ [6, 7, 8, 9, 10, 5, 11, 12, 13, 14, 15, 16, 17, 18, 19, 20, 21, 22, 23, 24, 25, 26, 27, 28, 29, 30, 31, 32, 33, 34, 35, 36, 37, 38, 39, 40, 41, 42, 43, 44, 45, 46, 47, 48, 49, 50, 51, 52] (by decide +kernel) (by decide +kernel)
set_option maxRecDepth 20000 in
theorem gX7_pilotFor_X7_isReady : GoodIn wsX7_pilotFor (wsV RX7 135 RX7 yX7_isReady wsX7_isReady) := goodIn_app (goodIn_of _ (by decide +kernel)) ggX7_pilotFor_X7_isReady
set_option maxRecDepth 20000 in
theorem ggX7_pilotFor_X7_lastTrip : GoodIn wsX7_pilotFor wsX7_lastTrip := goodIn_r _ [11, 12, 13, 14, 15, 5, 16, 17, 18, 19, 20, 21, 35, 36, 37, 38, 39, 40, 41, 42, 43, 44, 45, 46, 47, 48, 49, 50, 51, 52] (by decide +kernel) (by decide +kernel)
set_option maxRecDepth 20000 in
theorem gX7_pilotFor_X7_lastTrip : GoodIn wsX7_pilotFor (wsV RX7 129 RX7 yX7_lastTrip wsX7_lastTrip) := goodIn_app (goodIn_of _ (by decide +kernel)) ggX7_pilotFor_X7_lastTrip
set_option maxRecDepth 20000 in
theorem ggX7_pilotFor_X7_end : GoodIn wsX7_pilotFor wsX7_end := goodIn_r _ [34, 13, 14, 15, 5, 16, 17, 35, 36, 37, 38, 39, 40, 41, 42, 43, 44, 45, 46, 47, 48, 49, 50, 51, 52] (by decide +kernel) (by decide +kernel)
set_option maxRecDepth 20000 in
theorem gX7_pilotFor_X7_end : GoodIn wsX7_pilotFor (wsV RX7 106 RX7 yX7_end wsX7_end) := goodIn_app (goodIn_of _ (by decide +kernel)) ggX7_pilotFor_X7_end
theorem dX7_pilotFor_0 : decode cX7_pilotFor 0 = .ok (.iconst (-1), 1) := by decide +kernel
theorem dX7_pilotFor_1 : decode cX7_pilotFor 1 = .ok (.istore 4, 2) := by decide +kernel
theorem dX7_pilotFor_3 : decode cX7_pilotFor 3 = .ok (.iconst 0, 1) := by decide +kernel
theorem dX7_pilotFor_4 : decode cX7_pilotFor 4 = .ok (.istore 5, 2) := by decide +kernel
theorem dX7_pilotFor_6 : decode cX7_pilotFor 6 = .ok (.iconst 0, 1) := by decide +kernel
theorem dX7_pilotFor_7 : decode cX7_pilotFor 7 = .ok (.istore 6, 2) := by decide +kernel
theorem dX7_pilotFor_9 : decode cX7_pilotFor 9 = .ok (.iload 6, 2) := by decide +kernel
theorem dX7_pilotFor_11 : decode cX7_pilotFor 11 = .ok (.aload_n 0, 1) := by decide +kernel
theorem dX7_pilotFor_12 : decode cX7_pilotFor 12 = .ok (.getfield 81, 3) := by decide +kernel
theorem dX7_pilotFor_15 : decode cX7_pilotFor 15 = .ok (.if_icmp .ge 74, 3) := by decide +kernel
theorem dX7_pilotFor_18 : decode cX7_pilotFor 18 = .ok (.aload_n 0, 1) := by decide +kernel
theorem dX7_pilotFor_19 : decode cX7_pilotFor 19 = .ok (.iload 6, 2) := by decide +kernel
theorem dX7_pilotFor_21 : decode cX7_pilotFor 21 = .ok (.iload_n 1, 1) := by decide +kernel
theorem dX7_pilotFor_22 : decode cX7_pilotFor 22 = .ok (.iload_n 2, 1) := by decide +kernel
theorem dX7_pilotFor_23 : decode cX7_pilotFor 23 = .ok (.iload_n 3, 1) := by decide +kernel
theorem dX7_pilotFor_24 : decode cX7_pilotFor 24 = .ok (.invokevirtual 135, 3) := by decide +kernel
theorem dX7_pilotFor_27 : decode cX7_pilotFor 27 = .ok (.ifCond .ne 6, 3) := by decide +kernel
theorem dX7_pilotFor_30 : decode cX7_pilotFor 30 = .ok (.goto 53, 3) := by decide +kernel
theorem dX7_pilotFor_33 : decode cX7_pilotFor 33 = .ok (.aload_n 0, 1) := by decide +kernel
theorem dX7_pilotFor_34 : decode cX7_pilotFor 34 = .ok (.iload 6, 2) := by decide +kernel
theorem dX7_pilotFor_36 : decode cX7_pilotFor 36 = .ok (.invokevirtual 129, 3) := by decide +kernel
theorem dX7_pilotFor_39 : decode cX7_pilotFor 39 = .ok (.iconst (-1), 1) := by decide +kernel
theorem dX7_pilotFor_40 : decode cX7_pilotFor 40 = .ok (.if_icmp .ne 7, 3) := by decide +kernel
theorem dX7_pilotFor_43 : decode cX7_pilotFor 43 = .ok (.iconst (-1), 1) := by decide +kernel
theorem dX7_pilotFor_44 : decode cX7_pilotFor 44 = .ok (.goto 13, 3) := by decide +kernel
theorem dX7_pilotFor_47 : decode cX7_pilotFor 47 = .ok (.aload_n 0, 1) := by decide +kernel
theorem dX7_pilotFor_48 : decode cX7_pilotFor 48 = .ok (.aload_n 0, 1) := by decide +kernel
theorem dX7_pilotFor_49 : decode cX7_pilotFor 49 = .ok (.iload 6, 2) := by decide +kernel
theorem dX7_pilotFor_51 : decode cX7_pilotFor 51 = .ok (.invokevirtual 129, 3) := by decide +kernel
theorem dX7_pilotFor_54 : decode cX7_pilotFor 54 = .ok (.invokevirtual 106, 3) := by decide +kernel
theorem dX7_pilotFor_57 : decode cX7_pilotFor 57 = .ok (.istore 7, 2) := by decide +kernel
theorem dX7_pilotFor_59 : decode cX7_pilotFor 59 = .ok (.iload 4, 2) := by decide +kernel
theorem dX7_pilotFor_61 : decode cX7_pilotFor 61 = .ok (.iconst (-1), 1) := by decide +kernel
theorem dX7_pilotFor_62 : decode cX7_pilotFor 62 = .ok (.if_icmp .eq 13, 3) := by decide +kernel
theorem dX7_pilotFor_65 : decode cX7_pilotFor 65 = .ok (.iload 7, 2) := by decide +kernel
theorem dX7_pilotFor_67 : decode cX7_pilotFor 67 = .ok (.iload 5, 2) := by decide +kernel
theorem dX7_pilotFor_69 : decode cX7_pilotFor 69 = .ok (.if_icmp .lt 6, 3) := by decide +kernel
theorem dX7_pilotFor_72 : decode cX7_pilotFor 72 = .ok (.goto 11, 3) := by decide +kernel
theorem dX7_pilotFor_75 : decode cX7_pilotFor 75 = .ok (.iload 6, 2) := by decide +kernel
theorem dX7_pilotFor_77 : decode cX7_pilotFor 77 = .ok (.istore 4, 2) := by decide +kernel
theorem dX7_pilotFor_79 : decode cX7_pilotFor 79 = .ok (.iload 7, 2) := by decide +kernel
theorem dX7_pilotFor_81 : decode cX7_pilotFor 81 = .ok (.istore 5, 2) := by decide +kernel
theorem dX7_pilotFor_83 : decode cX7_pilotFor 83 = .ok (.iinc 6 1, 3) := by decide +kernel
theorem dX7_pilotFor_86 : decode cX7_pilotFor 86 = .ok (.goto (-77), 3) := by decide +kernel
theorem dX7_pilotFor_89 : decode cX7_pilotFor 89 = .ok (.iload 4, 2) := by decide +kernel
theorem dX7_pilotFor_91 : decode cX7_pilotFor 91 = .ok (.ireturn, 1) := by decide +kernel
set_option maxRecDepth 20000 in
theorem ggX7_isBerthFree_X7_isOut : GoodIn wsX7_isBerthFree wsX7_isOut := goodIn_r _ [6, 7, 8, 9, 5, 10, 11, 28, 29, 30, 31, 32, 33, 34, 35, 36, 37, 38, 39, 40, 41, 42, 43, 44, 45] (by decide +kernel) (by decide +kernel)
set_option maxRecDepth 20000 in
theorem gX7_isBerthFree_X7_isOut : GoodIn wsX7_isBerthFree (wsV RX7 103 RX7 yX7_isOut wsX7_isOut) := goodIn_app (goodIn_of _ (by decide +kernel)) ggX7_isBerthFree_X7_isOut
set_option maxRecDepth 20000 in
theorem ggX7_isBerthFree_X7_get : GoodIn wsX7_isBerthFree wsX7_get := goodIn_r _ [10, 11, 28, 29, 30, 31, 32, 33, 34, 35, 36, 37, 38, 39, 40, 41, 42, 43, 44, 45] (by decide +kernel) (by decide +kernel)
set_option maxRecDepth 20000 in
theorem gX7_isBerthFree_X7_get : GoodIn wsX7_isBerthFree (wsV RX7 96 RX7 yX7_get wsX7_get) := goodIn_app (goodIn_of _ (by decide +kernel)) ggX7_isBerthFree_X7_get
set_option maxRecDepth 20000 in
theorem ggX7_isBerthFree_X7_leaves : GoodIn wsX7_isBerthFree wsX7_leaves := goodIn_r _ [15, 1, 16, 17, 18, 19, 7, 8, 9, 5, 10, 11, 2, 3, 4, 6, 20, 21, 22, 23, 24, 25, 26, 27, 28, 29, 30, 31, 32, 33, 34, 35, 36, 37, 38, 39, 40, 41, 42, 43, 44, 45] (by decide +kernel) (by decide +kernel)
set_option maxRecDepth 20000 in
theorem gX7_isBerthFree_X7_leaves : GoodIn wsX7_isBerthFree (wsV RX7 117 RX7 yX7_leaves wsX7_leaves) := goodIn_app (goodIn_of _ (by decide +kernel)) ggX7_isBerthFree_X7_leaves
theorem dX7_isBerthFree_0 : decode cX7_isBerthFree 0 = .ok (.iconst 0, 1) := by decide +kernel
theorem dX7_isBerthFree_1 : decode cX7_isBerthFree 1 = .ok (.istore 4, 2) := by decide +kernel
theorem dX7_isBerthFree_3 : decode cX7_isBerthFree 3 = .ok (.iload 4, 2) := by decide +kernel
theorem dX7_isBerthFree_5 : decode cX7_isBerthFree 5 = .ok (.aload_n 0, 1) := by decide +kernel
theorem dX7_isBerthFree_6 : decode cX7_isBerthFree 6 = .ok (.getfield 72, 3) := by decide +kernel
theorem dX7_isBerthFree_9 : decode cX7_isBerthFree 9 = .ok (.if_icmp .ge 52, 3) := by decide +kernel
theorem dX7_isBerthFree_12 : decode cX7_isBerthFree 12 = .ok (.aload_n 0, 1) := by decide +kernel
theorem dX7_isBerthFree_13 : decode cX7_isBerthFree 13 = .ok (.iload 4, 2) := by decide +kernel
theorem dX7_isBerthFree_15 : decode cX7_isBerthFree 15 = .ok (.invokevirtual 103, 3) := by decide +kernel
theorem dX7_isBerthFree_18 : decode cX7_isBerthFree 18 = .ok (.ifCond .ne 37, 3) := by decide +kernel
theorem dX7_isBerthFree_21 : decode cX7_isBerthFree 21 = .ok (.aload_n 0, 1) := by decide +kernel
theorem dX7_isBerthFree_22 : decode cX7_isBerthFree 22 = .ok (.iload 4, 2) := by decide +kernel
theorem dX7_isBerthFree_24 : decode cX7_isBerthFree 24 = .ok (.iconst 4, 1) := by decide +kernel
theorem dX7_isBerthFree_25 : decode cX7_isBerthFree 25 = .ok (.invokevirtual 96, 3) := by decide +kernel
theorem dX7_isBerthFree_28 : decode cX7_isBerthFree 28 = .ok (.iload_n 2, 1) := by decide +kernel
theorem dX7_isBerthFree_29 : decode cX7_isBerthFree 29 = .ok (.if_icmp .ne 26, 3) := by decide +kernel
theorem dX7_isBerthFree_32 : decode cX7_isBerthFree 32 = .ok (.aload_n 0, 1) := by decide +kernel
theorem dX7_isBerthFree_33 : decode cX7_isBerthFree 33 = .ok (.iload 4, 2) := by decide +kernel
theorem dX7_isBerthFree_35 : decode cX7_isBerthFree 35 = .ok (.iconst 0, 1) := by decide +kernel
theorem dX7_isBerthFree_36 : decode cX7_isBerthFree 36 = .ok (.invokevirtual 96, 3) := by decide +kernel
theorem dX7_isBerthFree_39 : decode cX7_isBerthFree 39 = .ok (.iload_n 1, 1) := by decide +kernel
theorem dX7_isBerthFree_40 : decode cX7_isBerthFree 40 = .ok (.if_icmp .eq 15, 3) := by decide +kernel
theorem dX7_isBerthFree_43 : decode cX7_isBerthFree 43 = .ok (.aload_n 0, 1) := by decide +kernel
theorem dX7_isBerthFree_44 : decode cX7_isBerthFree 44 = .ok (.iload 4, 2) := by decide +kernel
theorem dX7_isBerthFree_46 : decode cX7_isBerthFree 46 = .ok (.invokevirtual 117, 3) := by decide +kernel
theorem dX7_isBerthFree_49 : decode cX7_isBerthFree 49 = .ok (.iload_n 3, 1) := by decide +kernel
theorem dX7_isBerthFree_50 : decode cX7_isBerthFree 50 = .ok (.if_icmp .le 5, 3) := by decide +kernel
theorem dX7_isBerthFree_53 : decode cX7_isBerthFree 53 = .ok (.iconst 0, 1) := by decide +kernel
theorem dX7_isBerthFree_54 : decode cX7_isBerthFree 54 = .ok (.ireturn, 1) := by decide +kernel
theorem dX7_isBerthFree_55 : decode cX7_isBerthFree 55 = .ok (.iinc 4 1, 3) := by decide +kernel
theorem dX7_isBerthFree_58 : decode cX7_isBerthFree 58 = .ok (.goto (-55), 3) := by decide +kernel
theorem dX7_isBerthFree_61 : decode cX7_isBerthFree 61 = .ok (.iconst 1, 1) := by decide +kernel
theorem dX7_isBerthFree_62 : decode cX7_isBerthFree 62 = .ok (.ireturn, 1) := by decide +kernel
set_option maxRecDepth 20000 in
theorem ggX7_isApart_X7_begin : GoodIn wsX7_isApart wsX7_begin := goodIn_r _ [10, 11, 12, 13, 9, 14, 15, 20, 21, 22, 23, 24, 25, 26, 27, 28, 29, 30, 31, 32, 33, 34, 35, 36, 37] (by decide +kernel) (by decide +kernel)
set_option maxRecDepth 20000 in
theorem gX7_isApart_X7_begin : GoodIn wsX7_isApart (wsV RX7 100 RX7 yX7_begin wsX7_begin) := goodIn_app (goodIn_of _ (by decide +kernel)) ggX7_isApart_X7_begin
set_option maxRecDepth 20000 in
theorem ggX7_isApart_X7_isOut : GoodIn wsX7_isApart wsX7_isOut := goodIn_r _ [19, 11, 12, 13, 9, 14, 15, 20, 21, 22, 23, 24, 25, 26, 27, 28, 29, 30, 31, 32, 33, 34, 35, 36, 37] (by decide +kernel) (by decide +kernel)
set_option maxRecDepth 20000 in
theorem gX7_isApart_X7_isOut : GoodIn wsX7_isApart (wsV RX7 103 RX7 yX7_isOut wsX7_isOut) := goodIn_app (goodIn_of _ (by decide +kernel)) ggX7_isApart_X7_isOut
theorem dX7_isApart_0 : decode cX7_isApart 0 = .ok (.iconst 0, 1) := by decide +kernel
theorem dX7_isApart_1 : decode cX7_isApart 1 = .ok (.istore_n 3, 1) := by decide +kernel
theorem dX7_isApart_2 : decode cX7_isApart 2 = .ok (.iload_n 3, 1) := by decide +kernel
theorem dX7_isApart_3 : decode cX7_isApart 3 = .ok (.aload_n 0, 1) := by decide +kernel
theorem dX7_isApart_4 : decode cX7_isApart 4 = .ok (.getfield 72, 3) := by decide +kernel
theorem dX7_isApart_7 : decode cX7_isApart 7 = .ok (.if_icmp .ge 40, 3) := by decide +kernel
theorem dX7_isApart_10 : decode cX7_isApart 10 = .ok (.aload_n 0, 1) := by decide +kernel
theorem dX7_isApart_11 : decode cX7_isApart 11 = .ok (.iload_n 3, 1) := by decide +kernel
theorem dX7_isApart_12 : decode cX7_isApart 12 = .ok (.invokevirtual 100, 3) := by decide +kernel
theorem dX7_isApart_15 : decode cX7_isApart 15 = .ok (.iload_n 2, 1) := by decide +kernel
theorem dX7_isApart_16 : decode cX7_isApart 16 = .ok (.isub, 1) := by decide +kernel
theorem dX7_isApart_17 : decode cX7_isApart 17 = .ok (.invokestatic 139, 3) := by decide +kernel
theorem dX7_isApart_20 : decode cX7_isApart 20 = .ok (.aload_n 0, 1) := by decide +kernel
theorem dX7_isApart_21 : decode cX7_isApart 21 = .ok (.iload_n 3, 1) := by decide +kernel
theorem dX7_isApart_22 : decode cX7_isApart 22 = .ok (.invokevirtual 103, 3) := by decide +kernel
theorem dX7_isApart_25 : decode cX7_isApart 25 = .ok (.iload_n 1, 1) := by decide +kernel
theorem dX7_isApart_26 : decode cX7_isApart 26 = .ok (.if_icmp .ne 8, 3) := by decide +kernel
theorem dX7_isApart_29 : decode cX7_isApart 29 = .ok (.bipush 20, 2) := by decide +kernel
theorem dX7_isApart_31 : decode cX7_isApart 31 = .ok (.goto 5, 3) := by decide +kernel
theorem dX7_isApart_34 : decode cX7_isApart 34 = .ok (.bipush 60, 2) := by decide +kernel
theorem dX7_isApart_36 : decode cX7_isApart 36 = .ok (.if_icmp .ge 5, 3) := by decide +kernel
theorem dX7_isApart_39 : decode cX7_isApart 39 = .ok (.iconst 0, 1) := by decide +kernel
theorem dX7_isApart_40 : decode cX7_isApart 40 = .ok (.ireturn, 1) := by decide +kernel
theorem dX7_isApart_41 : decode cX7_isApart 41 = .ok (.iinc 3 1, 3) := by decide +kernel
theorem dX7_isApart_44 : decode cX7_isApart 44 = .ok (.goto (-42), 3) := by decide +kernel
theorem dX7_isApart_47 : decode cX7_isApart 47 = .ok (.iconst 1, 1) := by decide +kernel
theorem dX7_isApart_48 : decode cX7_isApart 48 = .ok (.ireturn, 1) := by decide +kernel
set_option maxRecDepth 20000 in
theorem ggX7_canBegin_X7_latest : GoodIn wsX7_canBegin wsX7_latest := goodIn_r _ [7, 8, 9, 10, 11, 6, 12, 13, 14, 15, 16, 17, 98, 99, 100, 101, 102, 103, 104, 105, 106, 107, 108, 109, 110, 111, 112, 113, 114, 115] (by decide +kernel) (by decide +kernel)
set_option maxRecDepth 20000 in
theorem gX7_canBegin_X7_latest : GoodIn wsX7_canBegin (wsV RX7 114 RX7 yX7_latest wsX7_latest) := goodIn_app (goodIn_of _ (by decide +kernel)) ggX7_canBegin_X7_latest
set_option maxRecDepth 20000 in
theorem ggX7_canBegin_X7_isOut : GoodIn wsX7_canBegin wsX7_isOut := goodIn_r _ [21, 9, 10, 11, 6, 12, 13, 98, 99, 100, 101, 102, 103, 104, 105, 106, 107, 108, 109, 110, 111, 112, 113, 114, 115] (by decide +kernel) (by decide +kernel)
set_option maxRecDepth 20000 in
theorem gX7_canBegin_X7_isOut : GoodIn wsX7_canBegin (wsV RX7 103 RX7 yX7_isOut wsX7_isOut) := goodIn_app (goodIn_of _ (by decide +kernel)) ggX7_canBegin_X7_isOut
set_option maxRecDepth 20000 in
theorem ggX7_canBegin_X7_end : GoodIn wsX7_canBegin wsX7_end := goodIn_r _ [25, 9, 10, 11, 6, 12, 13, 98, 99, 100, 101, 102, 103, 104, 105, 106, 107, 108, 109, 110, 111, 112, 113, 114, 115] (by decide +kernel) (by decide +kernel)
set_option maxRecDepth 20000 in
theorem gX7_canBegin_X7_end : GoodIn wsX7_canBegin (wsV RX7 106 RX7 yX7_end wsX7_end) := goodIn_app (goodIn_of _ (by decide +kernel)) ggX7_canBegin_X7_end
set_option maxRecDepth 20000 in
theorem ggX7_canBegin_X7_get : GoodIn wsX7_canBegin wsX7_get := goodIn_r _ [12, 13, 98, 99, 100, 101, 102, 103, 104, 105, 106, 107, 108, 109, 110, 111, 112, 113, 114, 115] (by decide +kernel) (by decide +kernel)
set_option maxRecDepth 20000 in
theorem gX7_canBegin_X7_get : GoodIn wsX7_canBegin (wsV RX7 96 RX7 yX7_get wsX7_get) := goodIn_app (goodIn_of _ (by decide +kernel)) ggX7_canBegin_X7_get
set_option maxRecDepth 20000 in
theorem ggX7_canBegin_X7_hasWater : GoodIn wsX7_canBegin wsX7_hasWater := goodIn_r _ [29, 30, 31, 32, 33, 34, 6, 35, 36, 37, 38, 39, 40, 41, 42, 43, 44, 98, 99, 100, 101, 102, 103, 104, 105, 106, 107, 108, 109, 110, 111, 112, 113, 114, 115] (by decide +kernel) (by decide +kernel)
set_option maxRecDepth 20000 in
theorem gX7_canBegin_X7_hasWater : GoodIn wsX7_canBegin (wsV RX7 93 RX7 yX7_hasWater wsX7_hasWater) := goodIn_app (goodIn_of _ (by decide +kernel)) ggX7_canBegin_X7_hasWater
set_option maxRecDepth 20000 in
theorem ggX7_canBegin_X7_isBerthFree : GoodIn wsX7_canBegin wsX7_isBerthFree := goodIn_r _ [48, 8, 18, 19, 20, 6, 21, 9, 10, 11, 12, 13, 49, 50, 51, 52, 53, 54, 55, 56, 14, 15, 16, 17, 22, 23, 24, 25, 98, 99, 100, 101, 102, 103, 104, 105, 106, 107, 108, 109, 110, 111, 112, 113, 114, 115] (by decide +kernel) (by decide +kernel)
set_option maxRecDepth 20000 in
theorem gX7_canBegin_X7_isBerthFree : GoodIn wsX7_canBegin (wsV RX7 142 RX7 yX7_isBerthFree wsX7_isBerthFree) := goodIn_app (goodIn_of _ (by decide +kernel)) ggX7_canBegin_X7_isBerthFree
set_option maxRecDepth 20000 in
theorem ggX7_canBegin_X7_isApart : GoodIn wsX7_canBegin wsX7_isApart := goodIn_r _ [60, 8, 61, 62, 55, 63, 14, 15, 16, 6, 17, 9, 10, 11, 12, 13, 18, 19, 20, 21, 98, 99, 100, 101, 102, 103, 104, 105, 106, 107, 108, 109, 110, 111, 112, 113, 114, 115] (by decide +kernel) (by decide +kernel)
set_option maxRecDepth 20000 in
theorem gX7_canBegin_X7_isApart : GoodIn wsX7_canBegin (wsV RX7 145 RX7 yX7_isApart wsX7_isApart) := goodIn_app (goodIn_of _ (by decide +kernel)) ggX7_canBegin_X7_isApart
set_option maxRecDepth 20000 in
theorem ggX7_canBegin_X7_pilotFor : GoodIn wsX7_canBegin wsX7_pilotFor := goodIn_r _ [67, 68, 69, 70, 71, 6, 72, 73, 74, 75, 76, 77, 8, 9, 10, 11, 12, 13, 14, 15, 16, 17, 78, 79, 80, 81, 82, 18, 19, 20, 21, 22, 23, 24, 25, 98, 99, 100, 101, 102, 103, 104, 105, 106, 107, 108, 109, 110, 111, 112, 113, 114, 115] (by decide +kernel) (by decide +kernel)
set_option maxRecDepth 20000 in
theorem gX7_canBegin_X7_pilotFor : GoodIn wsX7_canBegin (wsV RX7 149 RX7 yX7_pilotFor wsX7_pilotFor) := goodIn_app (goodIn_of _ (by decide +kernel)) ggX7_canBegin_X7_pilotFor
set_option maxRecDepth 20000 in
theorem ggX7_canBegin_X7_areTugs : GoodIn wsX7_canBegin wsX7_areTugs := goodIn_r _ [86, 87, 88, 89, 6, 90, 91, 92, 93, 94, 8, 14, 15, 16, 17, 9, 10, 11, 12, 13, 18, 19, 20, 21, 95, 96, 97, 98, 99, 100, 101, 102, 103, 104, 105, 106, 107, 108, 109, 110, 111, 112, 113, 114, 115] (by decide +kernel) (by decide +kernel)
set_option maxRecDepth 20000 in
theorem gX7_canBegin_X7_areTugs : GoodIn wsX7_canBegin (wsV RX7 153 RX7 yX7_areTugs wsX7_areTugs) := goodIn_app (goodIn_of _ (by decide +kernel)) ggX7_canBegin_X7_areTugs
theorem dX7_canBegin_0 : decode cX7_canBegin 0 = .ok (.iload_n 2, 1) := by decide +kernel
theorem dX7_canBegin_1 : decode cX7_canBegin 1 = .ok (.iconst (-1), 1) := by decide +kernel
theorem dX7_canBegin_2 : decode cX7_canBegin 2 = .ok (.if_icmp .ne 7, 3) := by decide +kernel
theorem dX7_canBegin_5 : decode cX7_canBegin 5 = .ok (.iconst 1, 1) := by decide +kernel
theorem dX7_canBegin_6 : decode cX7_canBegin 6 = .ok (.goto 4, 3) := by decide +kernel
theorem dX7_canBegin_9 : decode cX7_canBegin 9 = .ok (.iconst 0, 1) := by decide +kernel
theorem dX7_canBegin_10 : decode cX7_canBegin 10 = .ok (.istore 4, 2) := by decide +kernel
theorem dX7_canBegin_12 : decode cX7_canBegin 12 = .ok (.aload_n 0, 1) := by decide +kernel
theorem dX7_canBegin_13 : decode cX7_canBegin 13 = .ok (.iload_n 1, 1) := by decide +kernel
theorem dX7_canBegin_14 : decode cX7_canBegin 14 = .ok (.iconst (-1), 1) := by decide +kernel
theorem dX7_canBegin_15 : decode cX7_canBegin 15 = .ok (.invokevirtual 114, 3) := by decide +kernel
theorem dX7_canBegin_18 : decode cX7_canBegin 18 = .ok (.istore 5, 2) := by decide +kernel
theorem dX7_canBegin_20 : decode cX7_canBegin 20 = .ok (.iload 4, 2) := by decide +kernel
theorem dX7_canBegin_22 : decode cX7_canBegin 22 = .ok (.ifCond .eq 21, 3) := by decide +kernel
theorem dX7_canBegin_25 : decode cX7_canBegin 25 = .ok (.iload 5, 2) := by decide +kernel
theorem dX7_canBegin_27 : decode cX7_canBegin 27 = .ok (.iconst (-1), 1) := by decide +kernel
theorem dX7_canBegin_28 : decode cX7_canBegin 28 = .ok (.if_icmp .eq 30, 3) := by decide +kernel
theorem dX7_canBegin_31 : decode cX7_canBegin 31 = .ok (.aload_n 0, 1) := by decide +kernel
theorem dX7_canBegin_32 : decode cX7_canBegin 32 = .ok (.iload 5, 2) := by decide +kernel
theorem dX7_canBegin_34 : decode cX7_canBegin 34 = .ok (.invokevirtual 103, 3) := by decide +kernel
theorem dX7_canBegin_37 : decode cX7_canBegin 37 = .ok (.ifCond .eq 23, 3) := by decide +kernel
theorem dX7_canBegin_40 : decode cX7_canBegin 40 = .ok (.goto 18, 3) := by decide +kernel
theorem dX7_canBegin_43 : decode cX7_canBegin 43 = .ok (.iload 5, 2) := by decide +kernel
theorem dX7_canBegin_45 : decode cX7_canBegin 45 = .ok (.iconst (-1), 1) := by decide +kernel
theorem dX7_canBegin_46 : decode cX7_canBegin 46 = .ok (.if_icmp .eq 14, 3) := by decide +kernel
theorem dX7_canBegin_49 : decode cX7_canBegin 49 = .ok (.aload_n 0, 1) := by decide +kernel
theorem dX7_canBegin_50 : decode cX7_canBegin 50 = .ok (.iload 5, 2) := by decide +kernel
theorem dX7_canBegin_52 : decode cX7_canBegin 52 = .ok (.invokevirtual 103, 3) := by decide +kernel
theorem dX7_canBegin_55 : decode cX7_canBegin 55 = .ok (.ifCond .ne 5, 3) := by decide +kernel
theorem dX7_canBegin_58 : decode cX7_canBegin 58 = .ok (.iconst 0, 1) := by decide +kernel
theorem dX7_canBegin_59 : decode cX7_canBegin 59 = .ok (.ireturn, 1) := by decide +kernel
theorem dX7_canBegin_60 : decode cX7_canBegin 60 = .ok (.iload 5, 2) := by decide +kernel
theorem dX7_canBegin_62 : decode cX7_canBegin 62 = .ok (.iconst (-1), 1) := by decide +kernel
theorem dX7_canBegin_63 : decode cX7_canBegin 63 = .ok (.if_icmp .eq 13, 3) := by decide +kernel
theorem dX7_canBegin_66 : decode cX7_canBegin 66 = .ok (.aload_n 0, 1) := by decide +kernel
theorem dX7_canBegin_67 : decode cX7_canBegin 67 = .ok (.iload 5, 2) := by decide +kernel
theorem dX7_canBegin_69 : decode cX7_canBegin 69 = .ok (.invokevirtual 106, 3) := by decide +kernel
theorem dX7_canBegin_72 : decode cX7_canBegin 72 = .ok (.iload_n 3, 1) := by decide +kernel
theorem dX7_canBegin_73 : decode cX7_canBegin 73 = .ok (.if_icmp .gt 13, 3) := by decide +kernel
theorem dX7_canBegin_76 : decode cX7_canBegin 76 = .ok (.iload_n 3, 1) := by decide +kernel
theorem dX7_canBegin_77 : decode cX7_canBegin 77 = .ok (.bipush 60, 2) := by decide +kernel
theorem dX7_canBegin_79 : decode cX7_canBegin 79 = .ok (.iadd, 1) := by decide +kernel
theorem dX7_canBegin_80 : decode cX7_canBegin 80 = .ok (.sipush 2879, 3) := by decide +kernel
theorem dX7_canBegin_83 : decode cX7_canBegin 83 = .ok (.if_icmp .le 5, 3) := by decide +kernel
theorem dX7_canBegin_86 : decode cX7_canBegin 86 = .ok (.iconst 0, 1) := by decide +kernel
theorem dX7_canBegin_87 : decode cX7_canBegin 87 = .ok (.ireturn, 1) := by decide +kernel
theorem dX7_canBegin_88 : decode cX7_canBegin 88 = .ok (.iload 4, 2) := by decide +kernel
theorem dX7_canBegin_90 : decode cX7_canBegin 90 = .ok (.ifCond .eq 13, 3) := by decide +kernel
theorem dX7_canBegin_93 : decode cX7_canBegin 93 = .ok (.aload_n 0, 1) := by decide +kernel
theorem dX7_canBegin_94 : decode cX7_canBegin 94 = .ok (.iload 5, 2) := by decide +kernel
theorem dX7_canBegin_96 : decode cX7_canBegin 96 = .ok (.iconst 4, 1) := by decide +kernel
theorem dX7_canBegin_97 : decode cX7_canBegin 97 = .ok (.invokevirtual 96, 3) := by decide +kernel
theorem dX7_canBegin_100 : decode cX7_canBegin 100 = .ok (.goto 4, 3) := by decide +kernel
theorem dX7_canBegin_103 : decode cX7_canBegin 103 = .ok (.iload_n 2, 1) := by decide +kernel
theorem dX7_canBegin_104 : decode cX7_canBegin 104 = .ok (.istore 6, 2) := by decide +kernel
theorem dX7_canBegin_106 : decode cX7_canBegin 106 = .ok (.aload_n 0, 1) := by decide +kernel
theorem dX7_canBegin_107 : decode cX7_canBegin 107 = .ok (.iload_n 1, 1) := by decide +kernel
theorem dX7_canBegin_108 : decode cX7_canBegin 108 = .ok (.iload 4, 2) := by decide +kernel
theorem dX7_canBegin_110 : decode cX7_canBegin 110 = .ok (.ifCond .eq 8, 3) := by decide +kernel
theorem dX7_canBegin_113 : decode cX7_canBegin 113 = .ok (.iload 6, 2) := by decide +kernel
theorem dX7_canBegin_115 : decode cX7_canBegin 115 = .ok (.goto 4, 3) := by decide +kernel
theorem dX7_canBegin_118 : decode cX7_canBegin 118 = .ok (.iconst (-1), 1) := by decide +kernel
theorem dX7_canBegin_119 : decode cX7_canBegin 119 = .ok (.iload_n 3, 1) := by decide +kernel
theorem dX7_canBegin_120 : decode cX7_canBegin 120 = .ok (.invokevirtual 93, 3) := by decide +kernel
theorem dX7_canBegin_123 : decode cX7_canBegin 123 = .ok (.ifCond .eq 26, 3) := by decide +kernel
theorem dX7_canBegin_126 : decode cX7_canBegin 126 = .ok (.aload_n 0, 1) := by decide +kernel
theorem dX7_canBegin_127 : decode cX7_canBegin 127 = .ok (.iload_n 1, 1) := by decide +kernel
theorem dX7_canBegin_128 : decode cX7_canBegin 128 = .ok (.iload 4, 2) := by decide +kernel
theorem dX7_canBegin_130 : decode cX7_canBegin 130 = .ok (.ifCond .eq 7, 3) := by decide +kernel
theorem dX7_canBegin_133 : decode cX7_canBegin 133 = .ok (.iconst (-1), 1) := by decide +kernel
theorem dX7_canBegin_134 : decode cX7_canBegin 134 = .ok (.goto 5, 3) := by decide +kernel
theorem dX7_canBegin_137 : decode cX7_canBegin 137 = .ok (.iload 6, 2) := by decide +kernel
theorem dX7_canBegin_139 : decode cX7_canBegin 139 = .ok (.iload_n 3, 1) := by decide +kernel
theorem dX7_canBegin_140 : decode cX7_canBegin 140 = .ok (.bipush 60, 2) := by decide +kernel
theorem dX7_canBegin_142 : decode cX7_canBegin 142 = .ok (.iadd, 1) := by decide +kernel
theorem dX7_canBegin_143 : decode cX7_canBegin 143 = .ok (.invokevirtual 93, 3) := by decide +kernel
theorem dX7_canBegin_146 : decode cX7_canBegin 146 = .ok (.ifCond .ne 5, 3) := by decide +kernel
theorem dX7_canBegin_149 : decode cX7_canBegin 149 = .ok (.iconst 0, 1) := by decide +kernel
theorem dX7_canBegin_150 : decode cX7_canBegin 150 = .ok (.ireturn, 1) := by decide +kernel
theorem dX7_canBegin_151 : decode cX7_canBegin 151 = .ok (.iload 4, 2) := by decide +kernel
theorem dX7_canBegin_153 : decode cX7_canBegin 153 = .ok (.ifCond .ne 30, 3) := by decide +kernel
theorem dX7_canBegin_156 : decode cX7_canBegin 156 = .ok (.aload_n 0, 1) := by decide +kernel
theorem dX7_canBegin_157 : decode cX7_canBegin 157 = .ok (.getfield 23, 3) := by decide +kernel
theorem dX7_canBegin_160 : decode cX7_canBegin 160 = .ok (.iload_n 2, 1) := by decide +kernel
theorem dX7_canBegin_161 : decode cX7_canBegin 161 = .ok (.iaload, 1) := by decide +kernel
theorem dX7_canBegin_162 : decode cX7_canBegin 162 = .ok (.aload_n 0, 1) := by decide +kernel
theorem dX7_canBegin_163 : decode cX7_canBegin 163 = .ok (.getfield 29, 3) := by decide +kernel
theorem dX7_canBegin_166 : decode cX7_canBegin 166 = .ok (.iload_n 1, 1) := by decide +kernel
theorem dX7_canBegin_167 : decode cX7_canBegin 167 = .ok (.iaload, 1) := by decide +kernel
theorem dX7_canBegin_168 : decode cX7_canBegin 168 = .ok (.if_icmp .lt 13, 3) := by decide +kernel
theorem dX7_canBegin_171 : decode cX7_canBegin 171 = .ok (.aload_n 0, 1) := by decide +kernel
theorem dX7_canBegin_172 : decode cX7_canBegin 172 = .ok (.iload_n 1, 1) := by decide +kernel
theorem dX7_canBegin_173 : decode cX7_canBegin 173 = .ok (.iload_n 2, 1) := by decide +kernel
theorem dX7_canBegin_174 : decode cX7_canBegin 174 = .ok (.iload_n 3, 1) := by decide +kernel
theorem dX7_canBegin_175 : decode cX7_canBegin 175 = .ok (.invokevirtual 142, 3) := by decide +kernel
theorem dX7_canBegin_178 : decode cX7_canBegin 178 = .ok (.ifCond .ne 5, 3) := by decide +kernel
theorem dX7_canBegin_181 : decode cX7_canBegin 181 = .ok (.iconst 0, 1) := by decide +kernel
theorem dX7_canBegin_182 : decode cX7_canBegin 182 = .ok (.ireturn, 1) := by decide +kernel
theorem dX7_canBegin_183 : decode cX7_canBegin 183 = .ok (.aload_n 0, 1) := by decide +kernel
theorem dX7_canBegin_184 : decode cX7_canBegin 184 = .ok (.iload 4, 2) := by decide +kernel
theorem dX7_canBegin_186 : decode cX7_canBegin 186 = .ok (.iload_n 3, 1) := by decide +kernel
theorem dX7_canBegin_187 : decode cX7_canBegin 187 = .ok (.invokevirtual 145, 3) := by decide +kernel
theorem dX7_canBegin_190 : decode cX7_canBegin 190 = .ok (.ifCond .eq 40, 3) := by decide +kernel
theorem dX7_canBegin_193 : decode cX7_canBegin 193 = .ok (.aload_n 0, 1) := by decide +kernel
theorem dX7_canBegin_194 : decode cX7_canBegin 194 = .ok (.aload_n 0, 1) := by decide +kernel
theorem dX7_canBegin_195 : decode cX7_canBegin 195 = .ok (.getfield 29, 3) := by decide +kernel
theorem dX7_canBegin_198 : decode cX7_canBegin 198 = .ok (.iload_n 1, 1) := by decide +kernel
theorem dX7_canBegin_199 : decode cX7_canBegin 199 = .ok (.iaload, 1) := by decide +kernel
theorem dX7_canBegin_200 : decode cX7_canBegin 200 = .ok (.iload 4, 2) := by decide +kernel
theorem dX7_canBegin_202 : decode cX7_canBegin 202 = .ok (.iload_n 3, 1) := by decide +kernel
theorem dX7_canBegin_203 : decode cX7_canBegin 203 = .ok (.invokevirtual 149, 3) := by decide +kernel
theorem dX7_canBegin_206 : decode cX7_canBegin 206 = .ok (.iconst (-1), 1) := by decide +kernel
theorem dX7_canBegin_207 : decode cX7_canBegin 207 = .ok (.if_icmp .eq 23, 3) := by decide +kernel
theorem dX7_canBegin_210 : decode cX7_canBegin 210 = .ok (.aload_n 0, 1) := by decide +kernel
theorem dX7_canBegin_211 : decode cX7_canBegin 211 = .ok (.aload_n 0, 1) := by decide +kernel
theorem dX7_canBegin_212 : decode cX7_canBegin 212 = .ok (.getfield 29, 3) := by decide +kernel
theorem dX7_canBegin_215 : decode cX7_canBegin 215 = .ok (.iload_n 1, 1) := by decide +kernel
theorem dX7_canBegin_216 : decode cX7_canBegin 216 = .ok (.iaload, 1) := by decide +kernel
theorem dX7_canBegin_217 : decode cX7_canBegin 217 = .ok (.iload 4, 2) := by decide +kernel
theorem dX7_canBegin_219 : decode cX7_canBegin 219 = .ok (.iload_n 3, 1) := by decide +kernel
theorem dX7_canBegin_220 : decode cX7_canBegin 220 = .ok (.invokevirtual 153, 3) := by decide +kernel
theorem dX7_canBegin_223 : decode cX7_canBegin 223 = .ok (.ifCond .eq 7, 3) := by decide +kernel
theorem dX7_canBegin_226 : decode cX7_canBegin 226 = .ok (.iconst 1, 1) := by decide +kernel
theorem dX7_canBegin_227 : decode cX7_canBegin 227 = .ok (.goto 4, 3) := by decide +kernel
theorem dX7_canBegin_230 : decode cX7_canBegin 230 = .ok (.iconst 0, 1) := by decide +kernel
theorem dX7_canBegin_231 : decode cX7_canBegin 231 = .ok (.ireturn, 1) := by decide +kernel
set_option maxRecDepth 20000 in
theorem ggX7_earliestFor_X7_canBegin : GoodIn wsX7_earliestFor wsX7_canBegin := goodIn_r _ [5, 6, 7, 8, 9, 10, 4, 11, 12, 13, 14, 15, 16, 17, 18, 19, 20, 21, 22, 23, 24, 25, 26, 27, 28, 29, 30, 31, 32, 33, 34, 35, 36, 37, 38, 39, 40, 41, 42, 43, 44, 45, 46, 47, 48, 49, 50, 51, 52, 53, 54, 55, 56, 57, 58, 59, 60, 61, 62, 63, 64, 65, 66, 67, 68, 69, 70, 71, 72, 73, 74, 75, 76, 77, 78, 79, 80, 81, 82, 83, 84, 85, 86, 87, 88, 89, 90, 91, 92, 93, 94, 95, 96, 97, 98, 99, 100, 101, 102, 103, 104, 105, 106, 107, 108, 109, 110, 111, 112, 113, 114, 115, 116, 117, 118, 119] (by decide +kernel) (by decide +kernel)
set_option maxRecDepth 20000 in
theorem gX7_earliestFor_X7_canBegin : GoodIn wsX7_earliestFor (wsV RX7 157 RX7 yX7_canBegin wsX7_canBegin) := goodIn_app (goodIn_of _ (by decide +kernel)) ggX7_earliestFor_X7_canBegin
theorem dX7_earliestFor_0 : decode cX7_earliestFor 0 = .ok (.iload_n 3, 1) := by decide +kernel
theorem dX7_earliestFor_1 : decode cX7_earliestFor 1 = .ok (.istore 4, 2) := by decide +kernel
theorem dX7_earliestFor_3 : decode cX7_earliestFor 3 = .ok (.iload 4, 2) := by decide +kernel
theorem dX7_earliestFor_5 : decode cX7_earliestFor 5 = .ok (.bipush 60, 2) := by decide +kernel
theorem dX7_earliestFor_7 : decode cX7_earliestFor 7 = .ok (.iadd, 1) := by decide +kernel
theorem dX7_earliestFor_8 : decode cX7_earliestFor 8 = .ok (.sipush 2879, 3) := by decide +kernel
theorem dX7_earliestFor_11 : decode cX7_earliestFor 11 = .ok (.if_icmp .gt 23, 3) := by decide +kernel
theorem dX7_earliestFor_14 : decode cX7_earliestFor 14 = .ok (.aload_n 0, 1) := by decide +kernel
theorem dX7_earliestFor_15 : decode cX7_earliestFor 15 = .ok (.iload_n 1, 1) := by decide +kernel
theorem dX7_earliestFor_16 : decode cX7_earliestFor 16 = .ok (.iload_n 2, 1) := by decide +kernel
theorem dX7_earliestFor_17 : decode cX7_earliestFor 17 = .ok (.iload 4, 2) := by decide +kernel
theorem dX7_earliestFor_19 : decode cX7_earliestFor 19 = .ok (.invokevirtual 157, 3) := by decide +kernel
theorem dX7_earliestFor_22 : decode cX7_earliestFor 22 = .ok (.ifCond .eq 6, 3) := by decide +kernel
theorem dX7_earliestFor_25 : decode cX7_earliestFor 25 = .ok (.iload 4, 2) := by decide +kernel
theorem dX7_earliestFor_27 : decode cX7_earliestFor 27 = .ok (.ireturn, 1) := by decide +kernel
theorem dX7_earliestFor_28 : decode cX7_earliestFor 28 = .ok (.iinc 4 1, 3) := by decide +kernel
theorem dX7_earliestFor_31 : decode cX7_earliestFor 31 = .ok (.goto (-28), 3) := by decide +kernel
theorem dX7_earliestFor_34 : decode cX7_earliestFor 34 = .ok (.iconst (-1), 1) := by decide +kernel
theorem dX7_earliestFor_35 : decode cX7_earliestFor 35 = .ok (.ireturn, 1) := by decide +kernel
set_option maxRecDepth 20000 in
theorem ggX7_why_X7_isShip : GoodIn wsX7_why wsX7_isShip := goodIn_r _ [5, 6, 7, 8, 4, 9, 18, 19, 20, 21, 22, 23, 24, 25, 26, 27, 28, 29, 30, 31, 32, 33, 34, 35] (by decide +kernel) (by decide +kernel)
set_option maxRecDepth 20000 in
theorem gX7_why_X7_isShip : GoodIn wsX7_why (wsV RX7 78 RX7 yX7_isShip wsX7_isShip) := goodIn_app (goodIn_of _ (by decide +kernel)) ggX7_why_X7_isShip
set_option maxRecDepth 20000 in
theorem ggX7_why_X7_isBerth : GoodIn wsX7_why wsX7_isBerth := goodIn_r _ [13, 14, 7, 8, 4, 9, 18, 19, 20, 21, 22, 23, 24, 25, 26, 27, 28, 29, 30, 31, 32, 33, 34, 35] (by decide +kernel) (by decide +kernel)
set_option maxRecDepth 20000 in
theorem gX7_why_X7_isBerth : GoodIn wsX7_why (wsV RX7 90 RX7 yX7_isBerth wsX7_isBerth) := goodIn_app (goodIn_of _ (by decide +kernel)) ggX7_why_X7_isBerth
set_option maxRecDepth 20000 in
theorem ggX7_why_X7_isTime : GoodIn wsX7_why wsX7_isTime := goodIn_r _ [17, 7, 8, 4, 9] (by decide +kernel) (by decide +kernel)
set_option maxRecDepth 20000 in
theorem gX7_why_X7_isTime : GoodIn wsX7_why (va_wsS RX7 61 yX7_isTime wsX7_isTime) := goodIn_app (goodIn_of _ (by decide +kernel)) ggX7_why_X7_isTime
theorem dX7_why_0 : decode cX7_why 0 = .ok (.aload_n 0, 1) := by decide +kernel
theorem dX7_why_1 : decode cX7_why 1 = .ok (.iload_n 1, 1) := by decide +kernel
theorem dX7_why_2 : decode cX7_why 2 = .ok (.invokevirtual 78, 3) := by decide +kernel
theorem dX7_why_5 : decode cX7_why 5 = .ok (.ifCond .eq 16, 3) := by decide +kernel
theorem dX7_why_8 : decode cX7_why 8 = .ok (.iload_n 2, 1) := by decide +kernel
theorem dX7_why_9 : decode cX7_why 9 = .ok (.iconst (-1), 1) := by decide +kernel
theorem dX7_why_10 : decode cX7_why 10 = .ok (.if_icmp .eq 15, 3) := by decide +kernel
theorem dX7_why_13 : decode cX7_why 13 = .ok (.aload_n 0, 1) := by decide +kernel
theorem dX7_why_14 : decode cX7_why 14 = .ok (.iload_n 2, 1) := by decide +kernel
theorem dX7_why_15 : decode cX7_why 15 = .ok (.invokevirtual 90, 3) := by decide +kernel
theorem dX7_why_18 : decode cX7_why 18 = .ok (.ifCond .ne 7, 3) := by decide +kernel
theorem dX7_why_21 : decode cX7_why 21 = .ok (.iconst 1, 1) := by decide +kernel
theorem dX7_why_22 : decode cX7_why 22 = .ok (.goto 15, 3) := by decide +kernel
theorem dX7_why_25 : decode cX7_why 25 = .ok (.iload_n 3, 1) := by decide +kernel
theorem dX7_why_26 : decode cX7_why 26 = .ok (.invokestatic 61, 3) := by decide +kernel
theorem dX7_why_29 : decode cX7_why 29 = .ok (.ifCond .ne 7, 3) := by decide +kernel
theorem dX7_why_32 : decode cX7_why 32 = .ok (.iconst 2, 1) := by decide +kernel
theorem dX7_why_33 : decode cX7_why 33 = .ok (.goto 4, 3) := by decide +kernel
theorem dX7_why_36 : decode cX7_why 36 = .ok (.iconst 0, 1) := by decide +kernel
theorem dX7_why_37 : decode cX7_why 37 = .ok (.ireturn, 1) := by decide +kernel
set_option maxRecDepth 20000 in
theorem ggX7_earliest_X7_why : GoodIn wsX7_earliest wsX7_why := goodIn_r _ [6, 7, 8, 9, 5, 10, 11, 12, 13, 14, 15, 16, 17, 18, 19, 20, 21, 22, 124, 125, 126, 127, 128, 129, 130, 131, 132, 133, 134, 135, 136, 137, 138, 139, 140, 141] (by decide +kernel) (by decide +kernel)
set_option maxRecDepth 20000 in
theorem gX7_earliest_X7_why : GoodIn wsX7_earliest (wsV RX7 160 RX7 yX7_why wsX7_why) := goodIn_app (goodIn_of _ (by decide +kernel)) ggX7_earliest_X7_why
set_option maxRecDepth 20000 in
theorem ggX7_earliest_X7_earliestFor : GoodIn wsX7_earliest wsX7_earliestFor := goodIn_r _ [26, 27, 28, 29, 5, 30, 31, 32, 33, 34, 35, 36, 37, 38, 39, 40, 41, 42, 43, 44, 45, 46, 47, 48, 49, 50, 51, 52, 53, 54, 55, 56, 57, 58, 59, 60, 61, 62, 63, 64, 65, 66, 67, 68, 69, 70, 71, 72, 73, 74, 75, 76, 77, 78, 79, 80, 81, 82, 83, 84, 85, 86, 87, 88, 89, 90, 91, 92, 93, 94, 95, 96, 97, 98, 99, 100, 101, 102, 103, 104, 105, 106, 107, 108, 109, 110, 111, 112, 113, 114, 115, 116, 117, 118, 119, 120, 121, 122, 123, 12, 13, 14, 124, 125, 126, 127, 128, 129, 130, 131, 132, 133, 134, 135, 136, 137, 138, 139, 140, 141] (by decide +kernel) (by decide +kernel)
set_option maxRecDepth 20000 in
theorem gX7_earliest_X7_earliestFor : GoodIn wsX7_earliest (wsV RX7 164 RX7 yX7_earliestFor wsX7_earliestFor) := goodIn_app (goodIn_of _ (by decide +kernel)) ggX7_earliest_X7_earliestFor
theorem dX7_earliest_0 : decode cX7_earliest 0 = .ok (.aload_n 0, 1) := by decide +kernel
theorem dX7_earliest_1 : decode cX7_earliest 1 = .ok (.aload_n 0, 1) := by decide +kernel
theorem dX7_earliest_2 : decode cX7_earliest 2 = .ok (.iload_n 1, 1) := by decide +kernel
theorem dX7_earliest_3 : decode cX7_earliest 3 = .ok (.iload_n 2, 1) := by decide +kernel
theorem dX7_earliest_4 : decode cX7_earliest 4 = .ok (.iload_n 3, 1) := by decide +kernel
theorem dX7_earliest_5 : decode cX7_earliest 5 = .ok (.invokevirtual 160, 3) := by decide +kernel
theorem dX7_earliest_8 : decode cX7_earliest 8 = .ok (.putfield 48, 3) := by decide +kernel
theorem dX7_earliest_11 : decode cX7_earliest 11 = .ok (.aload_n 0, 1) := by decide +kernel
theorem dX7_earliest_12 : decode cX7_earliest 12 = .ok (.getfield 48, 3) := by decide +kernel
theorem dX7_earliest_15 : decode cX7_earliest 15 = .ok (.ifCond .ne 13, 3) := by decide +kernel
theorem dX7_earliest_18 : decode cX7_earliest 18 = .ok (.aload_n 0, 1) := by decide +kernel
theorem dX7_earliest_19 : decode cX7_earliest 19 = .ok (.iload_n 1, 1) := by decide +kernel
theorem dX7_earliest_20 : decode cX7_earliest 20 = .ok (.iload_n 2, 1) := by decide +kernel
theorem dX7_earliest_21 : decode cX7_earliest 21 = .ok (.iload_n 3, 1) := by decide +kernel
theorem dX7_earliest_22 : decode cX7_earliest 22 = .ok (.invokevirtual 164, 3) := by decide +kernel
theorem dX7_earliest_25 : decode cX7_earliest 25 = .ok (.goto 4, 3) := by decide +kernel
theorem dX7_earliest_28 : decode cX7_earliest 28 = .ok (.iconst 0, 1) := by decide +kernel
theorem dX7_earliest_29 : decode cX7_earliest 29 = .ok (.ireturn, 1) := by decide +kernel
set_option maxRecDepth 20000 in
theorem ggX7_book_X7_why : GoodIn wsX7_book wsX7_why := goodIn_r _ [14, 15, 16, 17, 13, 18, 19, 20, 21, 22, 23, 24, 25, 26, 27, 28, 29, 30, 133, 134, 135, 136, 137, 138, 139, 140, 141, 142, 143, 144, 145, 146, 147, 148, 149, 150] (by decide +kernel) (by decide +kernel)
set_option maxRecDepth 20000 in
theorem gX7_book_X7_why : GoodIn wsX7_book (wsV RX7 160 RX7 yX7_why wsX7_why) := goodIn_app (goodIn_of _ (by decide +kernel)) ggX7_book_X7_why
set_option maxRecDepth 20000 in
theorem ggX7_book_X7_earliestFor : GoodIn wsX7_book wsX7_earliestFor := goodIn_r _ [34, 35, 36, 37, 13, 38, 39, 4, 40, 41, 42, 43, 2, 44, 45, 46, 47, 5, 48, 49, 50, 51, 52, 53, 54, 55, 56, 57, 58, 59, 60, 61, 62, 63, 64, 65, 66, 67, 68, 69, 70, 71, 72, 73, 74, 75, 76, 77, 78, 79, 80, 81, 82, 83, 84, 85, 86, 87, 88, 89, 90, 91, 92, 93, 94, 95, 96, 97, 98, 99, 100, 101, 102, 103, 104, 105, 106, 107, 108, 109, 110, 111, 112, 113, 114, 115, 116, 117, 118, 119, 120, 121, 122, 123, 124, 125, 126, 127, 128, 20, 21, 22, 133, 134, 135, 136, 137, 138, 139, 140, 141, 142, 143, 144, 145, 146, 147, 148, 149, 150] (by decide +kernel) (by decide +kernel)
set_option maxRecDepth 20000 in
theorem gX7_book_X7_earliestFor : GoodIn wsX7_book (wsV RX7 164 RX7 yX7_earliestFor wsX7_earliestFor) := goodIn_app (goodIn_of _ (by decide +kernel)) ggX7_book_X7_earliestFor
set_option maxRecDepth 20000 in
theorem ggX7_book_X7_fail : GoodIn wsX7_book wsX7_fail := goodIn_r _ [132, 1, 133, 134, 135, 136, 137, 138, 139, 140, 141, 142, 143, 144, 145, 146, 147, 148, 149, 150] (by decide +kernel) (by decide +kernel)
set_option maxRecDepth 20000 in
theorem gX7_book_X7_fail : GoodIn wsX7_book (wsV RX7 65 RX7 yX7_fail wsX7_fail) := goodIn_app (goodIn_of _ (by decide +kernel)) ggX7_book_X7_fail
set_option maxRecDepth 20000 in
theorem ggX7_book_X7_pilotFor : GoodIn wsX7_book wsX7_pilotFor := goodIn_r _ [101, 102, 103, 104, 105, 13, 106, 107, 108, 109, 110, 111, 2, 44, 45, 46, 47, 5, 48, 49, 50, 51, 112, 113, 114, 115, 116, 52, 53, 54, 55, 56, 57, 58, 59, 133, 134, 135, 136, 137, 138, 139, 140, 141, 142, 143, 144, 145, 146, 147, 148, 149, 150] (by decide +kernel) (by decide +kernel)
set_option maxRecDepth 20000 in
theorem gX7_book_X7_pilotFor : GoodIn wsX7_book (wsV RX7 149 RX7 yX7_pilotFor wsX7_pilotFor) := goodIn_app (goodIn_of _ (by decide +kernel)) ggX7_book_X7_pilotFor
set_option maxRecDepth 20000 in
theorem ggX7_book_X7_tugsFor : GoodIn wsX7_book wsX7_tugsFor := goodIn_r _ [124] (by decide +kernel) (by decide +kernel)
set_option maxRecDepth 20000 in
theorem gX7_book_X7_tugsFor : GoodIn wsX7_book (va_wsS RX7 123 yX7_tugsFor wsX7_tugsFor) := goodIn_app (goodIn_of _ (by decide +kernel)) ggX7_book_X7_tugsFor
set_option maxRecDepth 20000 in
theorem ggX7_book_X7_latest : GoodIn wsX7_book wsX7_latest := goodIn_r _ [43, 2, 44, 45, 46, 13, 47, 5, 48, 49, 50, 51, 133, 134, 135, 136, 137, 138, 139, 140, 141, 142, 143, 144, 145, 146, 147, 148, 149, 150] (by decide +kernel) (by decide +kernel)
set_option maxRecDepth 20000 in
theorem gX7_book_X7_latest : GoodIn wsX7_book (wsV RX7 114 RX7 yX7_latest wsX7_latest) := goodIn_app (goodIn_of _ (by decide +kernel)) ggX7_book_X7_latest
set_option maxRecDepth 20000 in
theorem ggX7_book_X7_get : GoodIn wsX7_book wsX7_get := goodIn_r _ [47, 5, 133, 134, 135, 136, 137, 138, 139, 140, 141, 142, 143, 144, 145, 146, 147, 148, 149, 150] (by decide +kernel) (by decide +kernel)
set_option maxRecDepth 20000 in
theorem gX7_book_X7_get : GoodIn wsX7_book (wsV RX7 96 RX7 yX7_get wsX7_get) := goodIn_app (goodIn_of _ (by decide +kernel)) ggX7_book_X7_get
theorem dX7_book_0 : decode cX7_book 0 = .ok (.aload_n 0, 1) := by decide +kernel
theorem dX7_book_1 : decode cX7_book 1 = .ok (.aload_n 0, 1) := by decide +kernel
theorem dX7_book_2 : decode cX7_book 2 = .ok (.iload_n 1, 1) := by decide +kernel
theorem dX7_book_3 : decode cX7_book 3 = .ok (.iload_n 2, 1) := by decide +kernel
theorem dX7_book_4 : decode cX7_book 4 = .ok (.iload_n 3, 1) := by decide +kernel
theorem dX7_book_5 : decode cX7_book 5 = .ok (.invokevirtual 160, 3) := by decide +kernel
theorem dX7_book_8 : decode cX7_book 8 = .ok (.putfield 48, 3) := by decide +kernel
theorem dX7_book_11 : decode cX7_book 11 = .ok (.aload_n 0, 1) := by decide +kernel
theorem dX7_book_12 : decode cX7_book 12 = .ok (.getfield 48, 3) := by decide +kernel
theorem dX7_book_15 : decode cX7_book 15 = .ok (.ifCond .eq 5, 3) := by decide +kernel
theorem dX7_book_18 : decode cX7_book 18 = .ok (.iconst 0, 1) := by decide +kernel
theorem dX7_book_19 : decode cX7_book 19 = .ok (.ireturn, 1) := by decide +kernel
theorem dX7_book_20 : decode cX7_book 20 = .ok (.aload_n 0, 1) := by decide +kernel
theorem dX7_book_21 : decode cX7_book 21 = .ok (.iload_n 1, 1) := by decide +kernel
theorem dX7_book_22 : decode cX7_book 22 = .ok (.iload_n 2, 1) := by decide +kernel
theorem dX7_book_23 : decode cX7_book 23 = .ok (.iload_n 3, 1) := by decide +kernel
theorem dX7_book_24 : decode cX7_book 24 = .ok (.invokevirtual 164, 3) := by decide +kernel
theorem dX7_book_27 : decode cX7_book 27 = .ok (.istore 4, 2) := by decide +kernel
theorem dX7_book_29 : decode cX7_book 29 = .ok (.iload 4, 2) := by decide +kernel
theorem dX7_book_31 : decode cX7_book 31 = .ok (.iconst (-1), 1) := by decide +kernel
theorem dX7_book_32 : decode cX7_book 32 = .ok (.if_icmp .eq 12, 3) := by decide +kernel
theorem dX7_book_35 : decode cX7_book 35 = .ok (.aload_n 0, 1) := by decide +kernel
theorem dX7_book_36 : decode cX7_book 36 = .ok (.getfield 72, 3) := by decide +kernel
theorem dX7_book_39 : decode cX7_book 39 = .ok (.bipush 40, 2) := by decide +kernel
theorem dX7_book_41 : decode cX7_book 41 = .ok (.if_icmp .ne 9, 3) := by decide +kernel
theorem dX7_book_44 : decode cX7_book 44 = .ok (.aload_n 0, 1) := by decide +kernel
theorem dX7_book_45 : decode cX7_book 45 = .ok (.iconst 3, 1) := by decide +kernel
theorem dX7_book_46 : decode cX7_book 46 = .ok (.invokevirtual 65, 3) := by decide +kernel
theorem dX7_book_49 : decode cX7_book 49 = .ok (.ireturn, 1) := by decide +kernel
theorem dX7_book_50 : decode cX7_book 50 = .ok (.iload_n 2, 1) := by decide +kernel
theorem dX7_book_51 : decode cX7_book 51 = .ok (.iconst (-1), 1) := by decide +kernel
theorem dX7_book_52 : decode cX7_book 52 = .ok (.if_icmp .ne 7, 3) := by decide +kernel
theorem dX7_book_55 : decode cX7_book 55 = .ok (.iconst 1, 1) := by decide +kernel
theorem dX7_book_56 : decode cX7_book 56 = .ok (.goto 4, 3) := by decide +kernel
theorem dX7_book_59 : decode cX7_book 59 = .ok (.iconst 0, 1) := by decide +kernel
theorem dX7_book_60 : decode cX7_book 60 = .ok (.istore 5, 2) := by decide +kernel
theorem dX7_book_62 : decode cX7_book 62 = .ok (.bipush 7, 2) := by decide +kernel
theorem dX7_book_64 : decode cX7_book 64 = .ok (.newarray .int, 2) := by decide +kernel
theorem dX7_book_66 : decode cX7_book 66 = .ok (.dup, 1) := by decide +kernel
theorem dX7_book_67 : decode cX7_book 67 = .ok (.iconst 0, 1) := by decide +kernel
theorem dX7_book_68 : decode cX7_book 68 = .ok (.iload_n 1, 1) := by decide +kernel
theorem dX7_book_69 : decode cX7_book 69 = .ok (.iastore, 1) := by decide +kernel
theorem dX7_book_70 : decode cX7_book 70 = .ok (.dup, 1) := by decide +kernel
theorem dX7_book_71 : decode cX7_book 71 = .ok (.iconst 1, 1) := by decide +kernel
theorem dX7_book_72 : decode cX7_book 72 = .ok (.iload 4, 2) := by decide +kernel
theorem dX7_book_74 : decode cX7_book 74 = .ok (.iastore, 1) := by decide +kernel
theorem dX7_book_75 : decode cX7_book 75 = .ok (.dup, 1) := by decide +kernel
theorem dX7_book_76 : decode cX7_book 76 = .ok (.iconst 2, 1) := by decide +kernel
theorem dX7_book_77 : decode cX7_book 77 = .ok (.aload_n 0, 1) := by decide +kernel
theorem dX7_book_78 : decode cX7_book 78 = .ok (.aload_n 0, 1) := by decide +kernel
theorem dX7_book_79 : decode cX7_book 79 = .ok (.getfield 29, 3) := by decide +kernel
theorem dX7_book_82 : decode cX7_book 82 = .ok (.iload_n 1, 1) := by decide +kernel
theorem dX7_book_83 : decode cX7_book 83 = .ok (.iaload, 1) := by decide +kernel
theorem dX7_book_84 : decode cX7_book 84 = .ok (.iload 5, 2) := by decide +kernel
theorem dX7_book_86 : decode cX7_book 86 = .ok (.iload 4, 2) := by decide +kernel
theorem dX7_book_88 : decode cX7_book 88 = .ok (.invokevirtual 149, 3) := by decide +kernel
theorem dX7_book_91 : decode cX7_book 91 = .ok (.iastore, 1) := by decide +kernel
theorem dX7_book_92 : decode cX7_book 92 = .ok (.dup, 1) := by decide +kernel
theorem dX7_book_93 : decode cX7_book 93 = .ok (.iconst 3, 1) := by decide +kernel
theorem dX7_book_94 : decode cX7_book 94 = .ok (.aload_n 0, 1) := by decide +kernel
theorem dX7_book_95 : decode cX7_book 95 = .ok (.getfield 29, 3) := by decide +kernel
theorem dX7_book_98 : decode cX7_book 98 = .ok (.iload_n 1, 1) := by decide +kernel
theorem dX7_book_99 : decode cX7_book 99 = .ok (.iaload, 1) := by decide +kernel
theorem dX7_book_100 : decode cX7_book 100 = .ok (.invokestatic 123, 3) := by decide +kernel
theorem dX7_book_103 : decode cX7_book 103 = .ok (.iastore, 1) := by decide +kernel
theorem dX7_book_104 : decode cX7_book 104 = .ok (.dup, 1) := by decide +kernel
theorem dX7_book_105 : decode cX7_book 105 = .ok (.iconst 4, 1) := by decide +kernel
theorem dX7_book_106 : decode cX7_book 106 = .ok (.iload 5, 2) := by decide +kernel
theorem dX7_book_108 : decode cX7_book 108 = .ok (.ifCond .eq 17, 3) := by decide +kernel
theorem dX7_book_111 : decode cX7_book 111 = .ok (.aload_n 0, 1) := by decide +kernel
theorem dX7_book_112 : decode cX7_book 112 = .ok (.aload_n 0, 1) := by decide +kernel
theorem dX7_book_113 : decode cX7_book 113 = .ok (.iload_n 1, 1) := by decide +kernel
theorem dX7_book_114 : decode cX7_book 114 = .ok (.iconst (-1), 1) := by decide +kernel
theorem dX7_book_115 : decode cX7_book 115 = .ok (.invokevirtual 114, 3) := by decide +kernel
theorem dX7_book_118 : decode cX7_book 118 = .ok (.iconst 4, 1) := by decide +kernel
theorem dX7_book_119 : decode cX7_book 119 = .ok (.invokevirtual 96, 3) := by decide +kernel
theorem dX7_book_122 : decode cX7_book 122 = .ok (.goto 4, 3) := by decide +kernel
theorem dX7_book_125 : decode cX7_book 125 = .ok (.iload_n 2, 1) := by decide +kernel
theorem dX7_book_126 : decode cX7_book 126 = .ok (.iastore, 1) := by decide +kernel
theorem dX7_book_127 : decode cX7_book 127 = .ok (.dup, 1) := by decide +kernel
theorem dX7_book_128 : decode cX7_book 128 = .ok (.iconst 5, 1) := by decide +kernel
theorem dX7_book_129 : decode cX7_book 129 = .ok (.iload 5, 2) := by decide +kernel
theorem dX7_book_131 : decode cX7_book 131 = .ok (.ifCond .eq 7, 3) := by decide +kernel
theorem dX7_book_134 : decode cX7_book 134 = .ok (.iconst 1, 1) := by decide +kernel
theorem dX7_book_135 : decode cX7_book 135 = .ok (.goto 4, 3) := by decide +kernel
theorem dX7_book_138 : decode cX7_book 138 = .ok (.iconst 0, 1) := by decide +kernel
theorem dX7_book_139 : decode cX7_book 139 = .ok (.iastore, 1) := by decide +kernel
theorem dX7_book_140 : decode cX7_book 140 = .ok (.dup, 1) := by decide +kernel
theorem dX7_book_141 : decode cX7_book 141 = .ok (.bipush 6, 2) := by decide +kernel
theorem dX7_book_143 : decode cX7_book 143 = .ok (.iload_n 3, 1) := by decide +kernel
theorem dX7_book_144 : decode cX7_book 144 = .ok (.iastore, 1) := by decide +kernel
theorem dX7_book_145 : decode cX7_book 145 = .ok (.astore 6, 2) := by decide +kernel
theorem dX7_book_147 : decode cX7_book 147 = .ok (.aload 6, 2) := by decide +kernel
theorem dX7_book_149 : decode cX7_book 149 = .ok (.iconst 0, 1) := by decide +kernel
theorem dX7_book_150 : decode cX7_book 150 = .ok (.aload_n 0, 1) := by decide +kernel
theorem dX7_book_151 : decode cX7_book 151 = .ok (.getfield 45, 3) := by decide +kernel
theorem dX7_book_154 : decode cX7_book 154 = .ok (.bipush 7, 2) := by decide +kernel
theorem dX7_book_156 : decode cX7_book 156 = .ok (.aload_n 0, 1) := by decide +kernel
theorem dX7_book_157 : decode cX7_book 157 = .ok (.getfield 72, 3) := by decide +kernel
theorem dX7_book_160 : decode cX7_book 160 = .ok (.imul, 1) := by decide +kernel
theorem dX7_book_161 : decode cX7_book 161 = .ok (.bipush 7, 2) := by decide +kernel
theorem dX7_book_163 : decode cX7_book 163 = .ok (.invokestatic 167, 3) := by decide +kernel
theorem dX7_book_166 : decode cX7_book 166 = .ok (.aload_n 0, 1) := by decide +kernel
theorem dX7_book_167 : decode cX7_book 167 = .ok (.dup, 1) := by decide +kernel
theorem dX7_book_168 : decode cX7_book 168 = .ok (.getfield 72, 3) := by decide +kernel
theorem dX7_book_171 : decode cX7_book 171 = .ok (.iconst 1, 1) := by decide +kernel
theorem dX7_book_172 : decode cX7_book 172 = .ok (.iadd, 1) := by decide +kernel
theorem dX7_book_173 : decode cX7_book 173 = .ok (.putfield 72, 3) := by decide +kernel
theorem dX7_book_176 : decode cX7_book 176 = .ok (.aload_n 0, 1) := by decide +kernel
theorem dX7_book_177 : decode cX7_book 177 = .ok (.getfield 72, 3) := by decide +kernel
theorem dX7_book_180 : decode cX7_book 180 = .ok (.iconst 1, 1) := by decide +kernel
theorem dX7_book_181 : decode cX7_book 181 = .ok (.isub, 1) := by decide +kernel
theorem dX7_book_182 : decode cX7_book 182 = .ok (.ireturn, 1) := by decide +kernel
set_option maxRecDepth 20000 in
theorem ggX7_cancel_X7_fail : GoodIn wsX7_cancel wsX7_fail := goodIn_r _ [7, 1, 13, 14, 15, 16, 17, 18, 19, 20, 21, 22, 23, 24, 25, 26, 27, 28, 29, 30] (by decide +kernel) (by decide +kernel)
set_option maxRecDepth 20000 in
theorem gX7_cancel_X7_fail : GoodIn wsX7_cancel (wsV RX7 65 RX7 yX7_fail wsX7_fail) := goodIn_app (goodIn_of _ (by decide +kernel)) ggX7_cancel_X7_fail
set_option maxRecDepth 20000 in
theorem ggX7_cancel_X7_get : GoodIn wsX7_cancel wsX7_get := goodIn_r _ [11, 12, 13, 14, 15, 16, 17, 18, 19, 20, 21, 22, 23, 24, 25, 26, 27, 28, 29, 30] (by decide +kernel) (by decide +kernel)
set_option maxRecDepth 20000 in
theorem gX7_cancel_X7_get : GoodIn wsX7_cancel (wsV RX7 96 RX7 yX7_get wsX7_get) := goodIn_app (goodIn_of _ (by decide +kernel)) ggX7_cancel_X7_get
theorem dX7_cancel_0 : decode cX7_cancel 0 = .ok (.aload_n 0, 1) := by decide +kernel
theorem dX7_cancel_1 : decode cX7_cancel 1 = .ok (.iconst 0, 1) := by decide +kernel
theorem dX7_cancel_2 : decode cX7_cancel 2 = .ok (.putfield 48, 3) := by decide +kernel
theorem dX7_cancel_5 : decode cX7_cancel 5 = .ok (.aload_n 0, 1) := by decide +kernel
theorem dX7_cancel_6 : decode cX7_cancel 6 = .ok (.getfield 72, 3) := by decide +kernel
theorem dX7_cancel_9 : decode cX7_cancel 9 = .ok (.ifCond .ne 9, 3) := by decide +kernel
theorem dX7_cancel_12 : decode cX7_cancel 12 = .ok (.aload_n 0, 1) := by decide +kernel
theorem dX7_cancel_13 : decode cX7_cancel 13 = .ok (.iconst 1, 1) := by decide +kernel
theorem dX7_cancel_14 : decode cX7_cancel 14 = .ok (.invokevirtual 65, 3) := by decide +kernel
theorem dX7_cancel_17 : decode cX7_cancel 17 = .ok (.ireturn, 1) := by decide +kernel
theorem dX7_cancel_18 : decode cX7_cancel 18 = .ok (.aload_n 0, 1) := by decide +kernel
theorem dX7_cancel_19 : decode cX7_cancel 19 = .ok (.dup, 1) := by decide +kernel
theorem dX7_cancel_20 : decode cX7_cancel 20 = .ok (.getfield 72, 3) := by decide +kernel
theorem dX7_cancel_23 : decode cX7_cancel 23 = .ok (.iconst 1, 1) := by decide +kernel
theorem dX7_cancel_24 : decode cX7_cancel 24 = .ok (.isub, 1) := by decide +kernel
theorem dX7_cancel_25 : decode cX7_cancel 25 = .ok (.putfield 72, 3) := by decide +kernel
theorem dX7_cancel_28 : decode cX7_cancel 28 = .ok (.aload_n 0, 1) := by decide +kernel
theorem dX7_cancel_29 : decode cX7_cancel 29 = .ok (.aload_n 0, 1) := by decide +kernel
theorem dX7_cancel_30 : decode cX7_cancel 30 = .ok (.getfield 72, 3) := by decide +kernel
theorem dX7_cancel_33 : decode cX7_cancel 33 = .ok (.iconst 0, 1) := by decide +kernel
theorem dX7_cancel_34 : decode cX7_cancel 34 = .ok (.invokevirtual 96, 3) := by decide +kernel
theorem dX7_cancel_37 : decode cX7_cancel 37 = .ok (.ireturn, 1) := by decide +kernel
set_option maxRecDepth 20000 in
theorem ggX7_passage_X7_isIn : GoodIn wsX7_passage wsX7_isIn := goodIn_r _ [6] (by decide +kernel) (by decide +kernel)
set_option maxRecDepth 20000 in
theorem gX7_passage_X7_isIn : GoodIn wsX7_passage (va_wsS RX7 51 yX7_isIn wsX7_isIn) := goodIn_app (goodIn_of _ (by decide +kernel)) ggX7_passage_X7_isIn
set_option maxRecDepth 20000 in
theorem ggX7_passage_X7_get : GoodIn wsX7_passage wsX7_get := goodIn_r _ [10, 11, 16, 17, 18, 19, 20, 21, 22, 23, 24, 25, 26, 27, 28, 29, 30, 31, 32, 33] (by decide +kernel) (by decide +kernel)
set_option maxRecDepth 20000 in
theorem gX7_passage_X7_get : GoodIn wsX7_passage (wsV RX7 96 RX7 yX7_get wsX7_get) := goodIn_app (goodIn_of _ (by decide +kernel)) ggX7_passage_X7_get
set_option maxRecDepth 20000 in
theorem ggX7_passage_X7_fail : GoodIn wsX7_passage wsX7_fail := goodIn_r _ [15, 1, 16, 17, 18, 19, 20, 21, 22, 23, 24, 25, 26, 27, 28, 29, 30, 31, 32, 33] (by decide +kernel) (by decide +kernel)
set_option maxRecDepth 20000 in
theorem gX7_passage_X7_fail : GoodIn wsX7_passage (wsV RX7 65 RX7 yX7_fail wsX7_fail) := goodIn_app (goodIn_of _ (by decide +kernel)) ggX7_passage_X7_fail
theorem dX7_passage_0 : decode cX7_passage 0 = .ok (.aload_n 0, 1) := by decide +kernel
theorem dX7_passage_1 : decode cX7_passage 1 = .ok (.iconst 0, 1) := by decide +kernel
theorem dX7_passage_2 : decode cX7_passage 2 = .ok (.putfield 48, 3) := by decide +kernel
theorem dX7_passage_5 : decode cX7_passage 5 = .ok (.iload_n 1, 1) := by decide +kernel
theorem dX7_passage_6 : decode cX7_passage 6 = .ok (.iconst 0, 1) := by decide +kernel
theorem dX7_passage_7 : decode cX7_passage 7 = .ok (.aload_n 0, 1) := by decide +kernel
theorem dX7_passage_8 : decode cX7_passage 8 = .ok (.getfield 72, 3) := by decide +kernel
theorem dX7_passage_11 : decode cX7_passage 11 = .ok (.iconst 1, 1) := by decide +kernel
theorem dX7_passage_12 : decode cX7_passage 12 = .ok (.isub, 1) := by decide +kernel
theorem dX7_passage_13 : decode cX7_passage 13 = .ok (.invokestatic 51, 3) := by decide +kernel
theorem dX7_passage_16 : decode cX7_passage 16 = .ok (.ifCond .eq 21, 3) := by decide +kernel
theorem dX7_passage_19 : decode cX7_passage 19 = .ok (.iload_n 2, 1) := by decide +kernel
theorem dX7_passage_20 : decode cX7_passage 20 = .ok (.iconst 0, 1) := by decide +kernel
theorem dX7_passage_21 : decode cX7_passage 21 = .ok (.iconst 5, 1) := by decide +kernel
theorem dX7_passage_22 : decode cX7_passage 22 = .ok (.invokestatic 51, 3) := by decide +kernel
theorem dX7_passage_25 : decode cX7_passage 25 = .ok (.ifCond .eq 12, 3) := by decide +kernel
theorem dX7_passage_28 : decode cX7_passage 28 = .ok (.aload_n 0, 1) := by decide +kernel
theorem dX7_passage_29 : decode cX7_passage 29 = .ok (.iload_n 1, 1) := by decide +kernel
theorem dX7_passage_30 : decode cX7_passage 30 = .ok (.iload_n 2, 1) := by decide +kernel
theorem dX7_passage_31 : decode cX7_passage 31 = .ok (.invokevirtual 96, 3) := by decide +kernel
theorem dX7_passage_34 : decode cX7_passage 34 = .ok (.goto 8, 3) := by decide +kernel
theorem dX7_passage_37 : decode cX7_passage 37 = .ok (.aload_n 0, 1) := by decide +kernel
theorem dX7_passage_38 : decode cX7_passage 38 = .ok (.iconst 1, 1) := by decide +kernel
theorem dX7_passage_39 : decode cX7_passage 39 = .ok (.invokevirtual 65, 3) := by decide +kernel
theorem dX7_passage_42 : decode cX7_passage 42 = .ok (.ireturn, 1) := by decide +kernel
set_option maxRecDepth 20000 in
theorem ggX7_occupant_X7_isBerth : GoodIn wsX7_occupant wsX7_isBerth := goodIn_r _ [7, 8, 9, 10, 6, 11, 44, 45, 46, 47, 48, 49, 50, 51, 52, 53, 54, 55, 56, 57, 58, 59, 60, 61] (by decide +kernel) (by decide +kernel)
set_option maxRecDepth 20000 in
theorem gX7_occupant_X7_isBerth : GoodIn wsX7_occupant (wsV RX7 90 RX7 yX7_isBerth wsX7_isBerth) := goodIn_app (goodIn_of _ (by decide +kernel)) ggX7_occupant_X7_isBerth
set_option maxRecDepth 20000 in
theorem ggX7_occupant_X7_fail : GoodIn wsX7_occupant wsX7_fail := goodIn_r _ [15, 1, 44, 45, 46, 47, 48, 49, 50, 51, 52, 53, 54, 55, 56, 57, 58, 59, 60, 61] (by decide +kernel) (by decide +kernel)
set_option maxRecDepth 20000 in
theorem gX7_occupant_X7_fail : GoodIn wsX7_occupant (wsV RX7 65 RX7 yX7_fail wsX7_fail) := goodIn_app (goodIn_of _ (by decide +kernel)) ggX7_occupant_X7_fail
set_option maxRecDepth 20000 in
theorem ggX7_occupant_X7_isTime : GoodIn wsX7_occupant wsX7_isTime := goodIn_r _ [18, 9, 10, 6, 11] (by decide +kernel) (by decide +kernel)
set_option maxRecDepth 20000 in
theorem gX7_occupant_X7_isTime : GoodIn wsX7_occupant (va_wsS RX7 61 yX7_isTime wsX7_isTime) := goodIn_app (goodIn_of _ (by decide +kernel)) ggX7_occupant_X7_isTime
set_option maxRecDepth 20000 in
theorem ggX7_occupant_X7_isOut : GoodIn wsX7_occupant wsX7_isOut := goodIn_r _ [22, 23, 24, 25, 6, 26, 27, 44, 45, 46, 47, 48, 49, 50, 51, 52, 53, 54, 55, 56, 57, 58, 59, 60, 61] (by decide +kernel) (by decide +kernel)
set_option maxRecDepth 20000 in
theorem gX7_occupant_X7_isOut : GoodIn wsX7_occupant (wsV RX7 103 RX7 yX7_isOut wsX7_isOut) := goodIn_app (goodIn_of _ (by decide +kernel)) ggX7_occupant_X7_isOut
set_option maxRecDepth 20000 in
theorem ggX7_occupant_X7_get : GoodIn wsX7_occupant wsX7_get := goodIn_r _ [26, 27, 44, 45, 46, 47, 48, 49, 50, 51, 52, 53, 54, 55, 56, 57, 58, 59, 60, 61] (by decide +kernel) (by decide +kernel)
set_option maxRecDepth 20000 in
theorem gX7_occupant_X7_get : GoodIn wsX7_occupant (wsV RX7 96 RX7 yX7_get wsX7_get) := goodIn_app (goodIn_of _ (by decide +kernel)) ggX7_occupant_X7_get
set_option maxRecDepth 20000 in
theorem ggX7_occupant_X7_begin : GoodIn wsX7_occupant wsX7_begin := goodIn_r _ [31, 23, 24, 25, 6, 26, 27, 44, 45, 46, 47, 48, 49, 50, 51, 52, 53, 54, 55, 56, 57, 58, 59, 60, 61] (by decide +kernel) (by decide +kernel)
set_option maxRecDepth 20000 in
theorem gX7_occupant_X7_begin : GoodIn wsX7_occupant (wsV RX7 100 RX7 yX7_begin wsX7_begin) := goodIn_app (goodIn_of _ (by decide +kernel)) ggX7_occupant_X7_begin
set_option maxRecDepth 20000 in
theorem ggX7_occupant_X7_leaves : GoodIn wsX7_occupant wsX7_leaves := goodIn_r _ [35, 2, 36, 37, 38, 39, 23, 24, 25, 6, 26, 27, 19, 20, 21, 22, 28, 29, 30, 31, 40, 41, 42, 43, 44, 45, 46, 47, 48, 49, 50, 51, 52, 53, 54, 55, 56, 57, 58, 59, 60, 61] (by decide +kernel) (by decide +kernel)
set_option maxRecDepth 20000 in
theorem gX7_occupant_X7_leaves : GoodIn wsX7_occupant (wsV RX7 117 RX7 yX7_leaves wsX7_leaves) := goodIn_app (goodIn_of _ (by decide +kernel)) ggX7_occupant_X7_leaves
theorem dX7_occupant_0 : decode cX7_occupant 0 = .ok (.aload_n 0, 1) := by decide +kernel
theorem dX7_occupant_1 : decode cX7_occupant 1 = .ok (.iconst 0, 1) := by decide +kernel
theorem dX7_occupant_2 : decode cX7_occupant 2 = .ok (.putfield 48, 3) := by decide +kernel
theorem dX7_occupant_5 : decode cX7_occupant 5 = .ok (.aload_n 0, 1) := by decide +kernel
theorem dX7_occupant_6 : decode cX7_occupant 6 = .ok (.iload_n 1, 1) := by decide +kernel
theorem dX7_occupant_7 : decode cX7_occupant 7 = .ok (.invokevirtual 90, 3) := by decide +kernel
theorem dX7_occupant_10 : decode cX7_occupant 10 = .ok (.ifCond .ne 9, 3) := by decide +kernel
theorem dX7_occupant_13 : decode cX7_occupant 13 = .ok (.aload_n 0, 1) := by decide +kernel
theorem dX7_occupant_14 : decode cX7_occupant 14 = .ok (.iconst 1, 1) := by decide +kernel
theorem dX7_occupant_15 : decode cX7_occupant 15 = .ok (.invokevirtual 65, 3) := by decide +kernel
theorem dX7_occupant_18 : decode cX7_occupant 18 = .ok (.ireturn, 1) := by decide +kernel
theorem dX7_occupant_19 : decode cX7_occupant 19 = .ok (.iload_n 2, 1) := by decide +kernel
theorem dX7_occupant_20 : decode cX7_occupant 20 = .ok (.invokestatic 61, 3) := by decide +kernel
theorem dX7_occupant_23 : decode cX7_occupant 23 = .ok (.ifCond .ne 9, 3) := by decide +kernel
theorem dX7_occupant_26 : decode cX7_occupant 26 = .ok (.aload_n 0, 1) := by decide +kernel
theorem dX7_occupant_27 : decode cX7_occupant 27 = .ok (.iconst 2, 1) := by decide +kernel
theorem dX7_occupant_28 : decode cX7_occupant 28 = .ok (.invokevirtual 65, 3) := by decide +kernel
theorem dX7_occupant_31 : decode cX7_occupant 31 = .ok (.ireturn, 1) := by decide +kernel
theorem dX7_occupant_32 : decode cX7_occupant 32 = .ok (.iconst 0, 1) := by decide +kernel
theorem dX7_occupant_33 : decode cX7_occupant 33 = .ok (.istore_n 3, 1) := by decide +kernel
theorem dX7_occupant_34 : decode cX7_occupant 34 = .ok (.iload_n 3, 1) := by decide +kernel
theorem dX7_occupant_35 : decode cX7_occupant 35 = .ok (.aload_n 0, 1) := by decide +kernel
theorem dX7_occupant_36 : decode cX7_occupant 36 = .ok (.getfield 72, 3) := by decide +kernel
theorem dX7_occupant_39 : decode cX7_occupant 39 = .ok (.if_icmp .ge 52, 3) := by decide +kernel
theorem dX7_occupant_42 : decode cX7_occupant 42 = .ok (.aload_n 0, 1) := by decide +kernel
theorem dX7_occupant_43 : decode cX7_occupant 43 = .ok (.iload_n 3, 1) := by decide +kernel
theorem dX7_occupant_44 : decode cX7_occupant 44 = .ok (.invokevirtual 103, 3) := by decide +kernel
theorem dX7_occupant_47 : decode cX7_occupant 47 = .ok (.ifCond .ne 38, 3) := by decide +kernel
theorem dX7_occupant_50 : decode cX7_occupant 50 = .ok (.aload_n 0, 1) := by decide +kernel
theorem dX7_occupant_51 : decode cX7_occupant 51 = .ok (.iload_n 3, 1) := by decide +kernel
theorem dX7_occupant_52 : decode cX7_occupant 52 = .ok (.iconst 4, 1) := by decide +kernel
theorem dX7_occupant_53 : decode cX7_occupant 53 = .ok (.invokevirtual 96, 3) := by decide +kernel
theorem dX7_occupant_56 : decode cX7_occupant 56 = .ok (.iload_n 1, 1) := by decide +kernel
theorem dX7_occupant_57 : decode cX7_occupant 57 = .ok (.if_icmp .ne 28, 3) := by decide +kernel
theorem dX7_occupant_60 : decode cX7_occupant 60 = .ok (.aload_n 0, 1) := by decide +kernel
theorem dX7_occupant_61 : decode cX7_occupant 61 = .ok (.iload_n 3, 1) := by decide +kernel
theorem dX7_occupant_62 : decode cX7_occupant 62 = .ok (.invokevirtual 100, 3) := by decide +kernel
theorem dX7_occupant_65 : decode cX7_occupant 65 = .ok (.iload_n 2, 1) := by decide +kernel
theorem dX7_occupant_66 : decode cX7_occupant 66 = .ok (.if_icmp .gt 19, 3) := by decide +kernel
theorem dX7_occupant_69 : decode cX7_occupant 69 = .ok (.iload_n 2, 1) := by decide +kernel
theorem dX7_occupant_70 : decode cX7_occupant 70 = .ok (.aload_n 0, 1) := by decide +kernel
theorem dX7_occupant_71 : decode cX7_occupant 71 = .ok (.iload_n 3, 1) := by decide +kernel
theorem dX7_occupant_72 : decode cX7_occupant 72 = .ok (.invokevirtual 117, 3) := by decide +kernel
theorem dX7_occupant_75 : decode cX7_occupant 75 = .ok (.if_icmp .ge 10, 3) := by decide +kernel
theorem dX7_occupant_78 : decode cX7_occupant 78 = .ok (.aload_n 0, 1) := by decide +kernel
theorem dX7_occupant_79 : decode cX7_occupant 79 = .ok (.iload_n 3, 1) := by decide +kernel
theorem dX7_occupant_80 : decode cX7_occupant 80 = .ok (.iconst 0, 1) := by decide +kernel
theorem dX7_occupant_81 : decode cX7_occupant 81 = .ok (.invokevirtual 96, 3) := by decide +kernel
theorem dX7_occupant_84 : decode cX7_occupant 84 = .ok (.ireturn, 1) := by decide +kernel
theorem dX7_occupant_85 : decode cX7_occupant 85 = .ok (.iinc 3 1, 3) := by decide +kernel
theorem dX7_occupant_88 : decode cX7_occupant 88 = .ok (.goto (-54), 3) := by decide +kernel
theorem dX7_occupant_91 : decode cX7_occupant 91 = .ok (.iconst (-1), 1) := by decide +kernel
theorem dX7_occupant_92 : decode cX7_occupant 92 = .ok (.ireturn, 1) := by decide +kernel
set_option maxRecDepth 20000 in
theorem ggX7_freeTugs_X7_isTime : GoodIn wsX7_freeTugs wsX7_isTime := goodIn_r _ [6, 7, 8, 5, 9] (by decide +kernel) (by decide +kernel)
set_option maxRecDepth 20000 in
theorem gX7_freeTugs_X7_isTime : GoodIn wsX7_freeTugs (va_wsS RX7 61 yX7_isTime wsX7_isTime) := goodIn_app (goodIn_of _ (by decide +kernel)) ggX7_freeTugs_X7_isTime
set_option maxRecDepth 20000 in
theorem ggX7_freeTugs_X7_tugsAt : GoodIn wsX7_freeTugs wsX7_tugsAt := goodIn_r _ [13, 14, 15, 16, 17, 5, 18, 19, 20, 21, 22, 23, 24, 25, 26, 27, 7, 8, 9, 32, 33, 34, 35, 36, 37, 38, 39, 40, 41, 42, 43, 44, 45, 46, 47, 48, 49] (by decide +kernel) (by decide +kernel)
set_option maxRecDepth 20000 in
theorem gX7_freeTugs_X7_tugsAt : GoodIn wsX7_freeTugs (wsV RX7 126 RX7 yX7_tugsAt wsX7_tugsAt) := goodIn_app (goodIn_of _ (by decide +kernel)) ggX7_freeTugs_X7_tugsAt
set_option maxRecDepth 20000 in
theorem ggX7_freeTugs_X7_fail : GoodIn wsX7_freeTugs wsX7_fail := goodIn_r _ [31, 1, 32, 33, 34, 35, 36, 37, 38, 39, 40, 41, 42, 43, 44, 45, 46, 47, 48, 49] (by decide +kernel) (by decide +kernel)
set_option maxRecDepth 20000 in
theorem gX7_freeTugs_X7_fail : GoodIn wsX7_freeTugs (wsV RX7 65 RX7 yX7_fail wsX7_fail) := goodIn_app (goodIn_of _ (by decide +kernel)) ggX7_freeTugs_X7_fail
theorem dX7_freeTugs_0 : decode cX7_freeTugs 0 = .ok (.aload_n 0, 1) := by decide +kernel
theorem dX7_freeTugs_1 : decode cX7_freeTugs 1 = .ok (.iconst 0, 1) := by decide +kernel
theorem dX7_freeTugs_2 : decode cX7_freeTugs 2 = .ok (.putfield 48, 3) := by decide +kernel
theorem dX7_freeTugs_5 : decode cX7_freeTugs 5 = .ok (.iload_n 1, 1) := by decide +kernel
theorem dX7_freeTugs_6 : decode cX7_freeTugs 6 = .ok (.invokestatic 61, 3) := by decide +kernel
theorem dX7_freeTugs_9 : decode cX7_freeTugs 9 = .ok (.ifCond .eq 16, 3) := by decide +kernel
theorem dX7_freeTugs_12 : decode cX7_freeTugs 12 = .ok (.aload_n 0, 1) := by decide +kernel
theorem dX7_freeTugs_13 : decode cX7_freeTugs 13 = .ok (.getfield 42, 3) := by decide +kernel
theorem dX7_freeTugs_16 : decode cX7_freeTugs 16 = .ok (.aload_n 0, 1) := by decide +kernel
theorem dX7_freeTugs_17 : decode cX7_freeTugs 17 = .ok (.iload_n 1, 1) := by decide +kernel
theorem dX7_freeTugs_18 : decode cX7_freeTugs 18 = .ok (.invokevirtual 126, 3) := by decide +kernel
theorem dX7_freeTugs_21 : decode cX7_freeTugs 21 = .ok (.isub, 1) := by decide +kernel
theorem dX7_freeTugs_22 : decode cX7_freeTugs 22 = .ok (.goto 8, 3) := by decide +kernel
theorem dX7_freeTugs_25 : decode cX7_freeTugs 25 = .ok (.aload_n 0, 1) := by decide +kernel
theorem dX7_freeTugs_26 : decode cX7_freeTugs 26 = .ok (.iconst 1, 1) := by decide +kernel
theorem dX7_freeTugs_27 : decode cX7_freeTugs 27 = .ok (.invokevirtual 65, 3) := by decide +kernel
theorem dX7_freeTugs_30 : decode cX7_freeTugs 30 = .ok (.ireturn, 1) := by decide +kernel
set_option maxRecDepth 20000 in
theorem ggX7_trips_X7_isIn : GoodIn wsX7_trips wsX7_isIn := goodIn_r _ [7] (by decide +kernel) (by decide +kernel)
set_option maxRecDepth 20000 in
theorem gX7_trips_X7_isIn : GoodIn wsX7_trips (va_wsS RX7 51 yX7_isIn wsX7_isIn) := goodIn_app (goodIn_of _ (by decide +kernel)) ggX7_trips_X7_isIn
set_option maxRecDepth 20000 in
theorem ggX7_trips_X7_fail : GoodIn wsX7_trips wsX7_fail := goodIn_r _ [11, 1, 17, 18, 19, 20, 21, 22, 23, 24, 25, 26, 27, 28, 29, 30, 31, 32, 33, 34] (by decide +kernel) (by decide +kernel)
set_option maxRecDepth 20000 in
theorem gX7_trips_X7_fail : GoodIn wsX7_trips (wsV RX7 65 RX7 yX7_fail wsX7_fail) := goodIn_app (goodIn_of _ (by decide +kernel)) ggX7_trips_X7_fail
set_option maxRecDepth 20000 in
theorem ggX7_trips_X7_get : GoodIn wsX7_trips wsX7_get := goodIn_r _ [15, 16, 17, 18, 19, 20, 21, 22, 23, 24, 25, 26, 27, 28, 29, 30, 31, 32, 33, 34] (by decide +kernel) (by decide +kernel)
set_option maxRecDepth 20000 in
theorem gX7_trips_X7_get : GoodIn wsX7_trips (wsV RX7 96 RX7 yX7_get wsX7_get) := goodIn_app (goodIn_of _ (by decide +kernel)) ggX7_trips_X7_get
theorem dX7_trips_0 : decode cX7_trips 0 = .ok (.aload_n 0, 1) := by decide +kernel
theorem dX7_trips_1 : decode cX7_trips 1 = .ok (.iconst 0, 1) := by decide +kernel
theorem dX7_trips_2 : decode cX7_trips 2 = .ok (.putfield 48, 3) := by decide +kernel
theorem dX7_trips_5 : decode cX7_trips 5 = .ok (.iload_n 1, 1) := by decide +kernel
theorem dX7_trips_6 : decode cX7_trips 6 = .ok (.iconst 0, 1) := by decide +kernel
theorem dX7_trips_7 : decode cX7_trips 7 = .ok (.aload_n 0, 1) := by decide +kernel
theorem dX7_trips_8 : decode cX7_trips 8 = .ok (.getfield 81, 3) := by decide +kernel
theorem dX7_trips_11 : decode cX7_trips 11 = .ok (.iconst 1, 1) := by decide +kernel
theorem dX7_trips_12 : decode cX7_trips 12 = .ok (.isub, 1) := by decide +kernel
theorem dX7_trips_13 : decode cX7_trips 13 = .ok (.invokestatic 51, 3) := by decide +kernel
theorem dX7_trips_16 : decode cX7_trips 16 = .ok (.ifCond .ne 9, 3) := by decide +kernel
theorem dX7_trips_19 : decode cX7_trips 19 = .ok (.aload_n 0, 1) := by decide +kernel
theorem dX7_trips_20 : decode cX7_trips 20 = .ok (.iconst 1, 1) := by decide +kernel
theorem dX7_trips_21 : decode cX7_trips 21 = .ok (.invokevirtual 65, 3) := by decide +kernel
theorem dX7_trips_24 : decode cX7_trips 24 = .ok (.ireturn, 1) := by decide +kernel
theorem dX7_trips_25 : decode cX7_trips 25 = .ok (.iconst 0, 1) := by decide +kernel
theorem dX7_trips_26 : decode cX7_trips 26 = .ok (.istore_n 2, 1) := by decide +kernel
theorem dX7_trips_27 : decode cX7_trips 27 = .ok (.iconst 0, 1) := by decide +kernel
theorem dX7_trips_28 : decode cX7_trips 28 = .ok (.istore_n 3, 1) := by decide +kernel
theorem dX7_trips_29 : decode cX7_trips 29 = .ok (.iload_n 3, 1) := by decide +kernel
theorem dX7_trips_30 : decode cX7_trips 30 = .ok (.aload_n 0, 1) := by decide +kernel
theorem dX7_trips_31 : decode cX7_trips 31 = .ok (.getfield 72, 3) := by decide +kernel
theorem dX7_trips_34 : decode cX7_trips 34 = .ok (.if_icmp .ge 27, 3) := by decide +kernel
theorem dX7_trips_37 : decode cX7_trips 37 = .ok (.iload_n 2, 1) := by decide +kernel
theorem dX7_trips_38 : decode cX7_trips 38 = .ok (.aload_n 0, 1) := by decide +kernel
theorem dX7_trips_39 : decode cX7_trips 39 = .ok (.iload_n 3, 1) := by decide +kernel
theorem dX7_trips_40 : decode cX7_trips 40 = .ok (.iconst 2, 1) := by decide +kernel
theorem dX7_trips_41 : decode cX7_trips 41 = .ok (.invokevirtual 96, 3) := by decide +kernel
theorem dX7_trips_44 : decode cX7_trips 44 = .ok (.iload_n 1, 1) := by decide +kernel
theorem dX7_trips_45 : decode cX7_trips 45 = .ok (.if_icmp .ne 7, 3) := by decide +kernel
theorem dX7_trips_48 : decode cX7_trips 48 = .ok (.iconst 1, 1) := by decide +kernel
theorem dX7_trips_49 : decode cX7_trips 49 = .ok (.goto 4, 3) := by decide +kernel
theorem dX7_trips_52 : decode cX7_trips 52 = .ok (.iconst 0, 1) := by decide +kernel
theorem dX7_trips_53 : decode cX7_trips 53 = .ok (.iadd, 1) := by decide +kernel
theorem dX7_trips_54 : decode cX7_trips 54 = .ok (.istore_n 2, 1) := by decide +kernel
theorem dX7_trips_55 : decode cX7_trips 55 = .ok (.iinc 3 1, 3) := by decide +kernel
theorem dX7_trips_58 : decode cX7_trips 58 = .ok (.goto (-29), 3) := by decide +kernel
theorem dX7_trips_61 : decode cX7_trips 61 = .ok (.iload_n 2, 1) := by decide +kernel
theorem dX7_trips_62 : decode cX7_trips 62 = .ok (.ireturn, 1) := by decide +kernel
set_option maxRecDepth 20000 in
theorem ggX7_isInPort_X7_isIn : GoodIn wsX7_isInPort wsX7_isIn := goodIn_r _ [6] (by decide +kernel) (by decide +kernel)
set_option maxRecDepth 20000 in
theorem gX7_isInPort_X7_isIn : GoodIn wsX7_isInPort (va_wsS RX7 51 yX7_isIn wsX7_isIn) := goodIn_app (goodIn_of _ (by decide +kernel)) ggX7_isInPort_X7_isIn
set_option maxRecDepth 20000 in
theorem ggX7_isInPort_X7_isPortSide : GoodIn wsX7_isInPort wsX7_isPortSide := goodIn_r _ [10, 11, 12, 13, 14, 5, 15, 16, 17, 18, 19, 20, 21, 22, 23, 24, 25, 26, 27, 28, 29, 30, 31, 32, 33, 34, 35, 36, 37, 38, 39, 40, 41, 42, 43, 44, 45, 46, 47] (by decide +kernel) (by decide +kernel)
set_option maxRecDepth 20000 in
theorem gX7_isInPort_X7_isPortSide : GoodIn wsX7_isInPort (wsV RX7 132 RX7 yX7_isPortSide wsX7_isPortSide) := goodIn_app (goodIn_of _ (by decide +kernel)) ggX7_isInPort_X7_isPortSide
theorem dX7_isInPort_0 : decode cX7_isInPort 0 = .ok (.aload_n 0, 1) := by decide +kernel
theorem dX7_isInPort_1 : decode cX7_isInPort 1 = .ok (.iload_n 1, 1) := by decide +kernel
theorem dX7_isInPort_2 : decode cX7_isInPort 2 = .ok (.iconst 0, 1) := by decide +kernel
theorem dX7_isInPort_3 : decode cX7_isInPort 3 = .ok (.aload_n 0, 1) := by decide +kernel
theorem dX7_isInPort_4 : decode cX7_isInPort 4 = .ok (.getfield 81, 3) := by decide +kernel
theorem dX7_isInPort_7 : decode cX7_isInPort 7 = .ok (.iconst 1, 1) := by decide +kernel
theorem dX7_isInPort_8 : decode cX7_isInPort 8 = .ok (.isub, 1) := by decide +kernel
theorem dX7_isInPort_9 : decode cX7_isInPort 9 = .ok (.invokestatic 51, 3) := by decide +kernel
theorem dX7_isInPort_12 : decode cX7_isInPort 12 = .ok (.ifCond .eq 7, 3) := by decide +kernel
theorem dX7_isInPort_15 : decode cX7_isInPort 15 = .ok (.iconst 0, 1) := by decide +kernel
theorem dX7_isInPort_16 : decode cX7_isInPort 16 = .ok (.goto 4, 3) := by decide +kernel
theorem dX7_isInPort_19 : decode cX7_isInPort 19 = .ok (.iconst 1, 1) := by decide +kernel
theorem dX7_isInPort_20 : decode cX7_isInPort 20 = .ok (.putfield 48, 3) := by decide +kernel
theorem dX7_isInPort_23 : decode cX7_isInPort 23 = .ok (.aload_n 0, 1) := by decide +kernel
theorem dX7_isInPort_24 : decode cX7_isInPort 24 = .ok (.getfield 48, 3) := by decide +kernel
theorem dX7_isInPort_27 : decode cX7_isInPort 27 = .ok (.ifCond .ne 15, 3) := by decide +kernel
theorem dX7_isInPort_30 : decode cX7_isInPort 30 = .ok (.aload_n 0, 1) := by decide +kernel
theorem dX7_isInPort_31 : decode cX7_isInPort 31 = .ok (.iload_n 1, 1) := by decide +kernel
theorem dX7_isInPort_32 : decode cX7_isInPort 32 = .ok (.invokevirtual 132, 3) := by decide +kernel
theorem dX7_isInPort_35 : decode cX7_isInPort 35 = .ok (.ifCond .eq 7, 3) := by decide +kernel
theorem dX7_isInPort_38 : decode cX7_isInPort 38 = .ok (.iconst 1, 1) := by decide +kernel
theorem dX7_isInPort_39 : decode cX7_isInPort 39 = .ok (.goto 4, 3) := by decide +kernel
theorem dX7_isInPort_42 : decode cX7_isInPort 42 = .ok (.iconst 0, 1) := by decide +kernel
theorem dX7_isInPort_43 : decode cX7_isInPort 43 = .ok (.ireturn, 1) := by decide +kernel
set_option maxRecDepth 20000 in
theorem ggX7_delay_X7_begin : GoodIn wsX7_delay wsX7_begin := goodIn_r _ [7, 8, 9, 10, 6, 11, 12, 13, 14, 15, 16, 17, 18, 19, 20, 21, 22, 23, 24, 25, 26, 27, 28, 29, 30] (by decide +kernel) (by decide +kernel)
set_option maxRecDepth 20000 in
theorem gX7_delay_X7_begin : GoodIn wsX7_delay (wsV RX7 100 RX7 yX7_begin wsX7_begin) := goodIn_app (goodIn_of _ (by decide +kernel)) ggX7_delay_X7_begin
set_option maxRecDepth 20000 in
theorem ggX7_delay_X7_get : GoodIn wsX7_delay wsX7_get := goodIn_r _ [11, 12, 13, 14, 15, 16, 17, 18, 19, 20, 21, 22, 23, 24, 25, 26, 27, 28, 29, 30] (by decide +kernel) (by decide +kernel)
set_option maxRecDepth 20000 in
theorem gX7_delay_X7_get : GoodIn wsX7_delay (wsV RX7 96 RX7 yX7_get wsX7_get) := goodIn_app (goodIn_of _ (by decide +kernel)) ggX7_delay_X7_get
theorem dX7_delay_0 : decode cX7_delay 0 = .ok (.aload_n 0, 1) := by decide +kernel
theorem dX7_delay_1 : decode cX7_delay 1 = .ok (.iconst 0, 1) := by decide +kernel
theorem dX7_delay_2 : decode cX7_delay 2 = .ok (.putfield 48, 3) := by decide +kernel
theorem dX7_delay_5 : decode cX7_delay 5 = .ok (.iconst 0, 1) := by decide +kernel
theorem dX7_delay_6 : decode cX7_delay 6 = .ok (.istore_n 1, 1) := by decide +kernel
theorem dX7_delay_7 : decode cX7_delay 7 = .ok (.iconst 0, 1) := by decide +kernel
theorem dX7_delay_8 : decode cX7_delay 8 = .ok (.istore_n 2, 1) := by decide +kernel
theorem dX7_delay_9 : decode cX7_delay 9 = .ok (.iload_n 2, 1) := by decide +kernel
theorem dX7_delay_10 : decode cX7_delay 10 = .ok (.aload_n 0, 1) := by decide +kernel
theorem dX7_delay_11 : decode cX7_delay 11 = .ok (.getfield 72, 3) := by decide +kernel
theorem dX7_delay_14 : decode cX7_delay 14 = .ok (.if_icmp .ge 25, 3) := by decide +kernel
theorem dX7_delay_17 : decode cX7_delay 17 = .ok (.iload_n 1, 1) := by decide +kernel
theorem dX7_delay_18 : decode cX7_delay 18 = .ok (.aload_n 0, 1) := by decide +kernel
theorem dX7_delay_19 : decode cX7_delay 19 = .ok (.iload_n 2, 1) := by decide +kernel
theorem dX7_delay_20 : decode cX7_delay 20 = .ok (.invokevirtual 100, 3) := by decide +kernel
theorem dX7_delay_23 : decode cX7_delay 23 = .ok (.aload_n 0, 1) := by decide +kernel
theorem dX7_delay_24 : decode cX7_delay 24 = .ok (.iload_n 2, 1) := by decide +kernel
theorem dX7_delay_25 : decode cX7_delay 25 = .ok (.bipush 6, 2) := by decide +kernel
theorem dX7_delay_27 : decode cX7_delay 27 = .ok (.invokevirtual 96, 3) := by decide +kernel
theorem dX7_delay_30 : decode cX7_delay 30 = .ok (.isub, 1) := by decide +kernel
theorem dX7_delay_31 : decode cX7_delay 31 = .ok (.iadd, 1) := by decide +kernel
theorem dX7_delay_32 : decode cX7_delay 32 = .ok (.istore_n 1, 1) := by decide +kernel
theorem dX7_delay_33 : decode cX7_delay 33 = .ok (.iinc 2 1, 3) := by decide +kernel
theorem dX7_delay_36 : decode cX7_delay 36 = .ok (.goto (-27), 3) := by decide +kernel
theorem dX7_delay_39 : decode cX7_delay 39 = .ok (.aload_n 0, 1) := by decide +kernel
