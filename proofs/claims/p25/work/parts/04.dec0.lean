theorem goodIn_k {big a : List Cond} {c : Cond} (i : Nat) (hi : big[i]? = some c) (hg : goodWord c = true) (h : GoodIn big a) : GoodIn big (c :: a) := fun w hw => (List.mem_cons.mp hw).elim (fun e => by subst e; exact ⟨List.mem_of_getElem? hi, good_of_word hg⟩) (h w)
theorem dX0_init_0 : decode cX0_init 0 = .ok (.aload_n 0, 1) := by decide +kernel
theorem dX0_init_1 : decode cX0_init 1 = .ok (.invokespecial 1, 3) := by decide +kernel
theorem dX0_init_4 : decode cX0_init 4 = .ok (.aload_n 0, 1) := by decide +kernel
theorem dX0_init_5 : decode cX0_init 5 = .ok (.iload_n 1, 1) := by decide +kernel
theorem dX0_init_6 : decode cX0_init 6 = .ok (.putfield 7, 3) := by decide +kernel
theorem dX0_init_9 : decode cX0_init 9 = .ok (.aload_n 0, 1) := by decide +kernel
theorem dX0_init_10 : decode cX0_init 10 = .ok (.iload_n 2, 1) := by decide +kernel
theorem dX0_init_11 : decode cX0_init 11 = .ok (.putfield 13, 3) := by decide +kernel
theorem dX0_init_14 : decode cX0_init 14 = .ok (.aload_n 0, 1) := by decide +kernel
theorem dX0_init_15 : decode cX0_init 15 = .ok (.iload_n 3, 1) := by decide +kernel
theorem dX0_init_16 : decode cX0_init 16 = .ok (.putfield 16, 3) := by decide +kernel
theorem dX0_init_19 : decode cX0_init 19 = .ok (.return_, 1) := by decide +kernel
theorem dX1_init_0 : decode cX1_init 0 = .ok (.aload_n 0, 1) := by decide +kernel
theorem dX1_init_1 : decode cX1_init 1 = .ok (.invokespecial 3, 3) := by decide +kernel
theorem dX1_init_4 : decode cX1_init 4 = .ok (.aload_n 0, 1) := by decide +kernel
theorem dX1_init_5 : decode cX1_init 5 = .ok (.aload_n 1, 1) := by decide +kernel
theorem dX1_init_6 : decode cX1_init 6 = .ok (.putfield 9, 3) := by decide +kernel
theorem dX1_init_9 : decode cX1_init 9 = .ok (.aload_n 0, 1) := by decide +kernel
theorem dX1_init_10 : decode cX1_init 10 = .ok (.iload_n 2, 1) := by decide +kernel
theorem dX1_init_11 : decode cX1_init 11 = .ok (.putfield 15, 3) := by decide +kernel
theorem dX1_init_14 : decode cX1_init 14 = .ok (.aload_n 0, 1) := by decide +kernel
theorem dX1_init_15 : decode cX1_init 15 = .ok (.iload_n 3, 1) := by decide +kernel
theorem dX1_init_16 : decode cX1_init 16 = .ok (.putfield 19, 3) := by decide +kernel
theorem dX1_init_19 : decode cX1_init 19 = .ok (.aload_n 0, 1) := by decide +kernel
theorem dX1_init_20 : decode cX1_init 20 = .ok (.aload 4, 2) := by decide +kernel
theorem dX1_init_22 : decode cX1_init 22 = .ok (.putfield 22, 3) := by decide +kernel
theorem dX1_init_25 : decode cX1_init 25 = .ok (.aload_n 0, 1) := by decide +kernel
theorem dX1_init_26 : decode cX1_init 26 = .ok (.aload_n 1, 1) := by decide +kernel
theorem dX1_init_27 : decode cX1_init 27 = .ok (.getfield 26, 3) := by decide +kernel
theorem dX1_init_30 : decode cX1_init 30 = .ok (.getfield 32, 3) := by decide +kernel
theorem dX1_init_33 : decode cX1_init 33 = .ok (.putfield 38, 3) := by decide +kernel
theorem dX1_init_36 : decode cX1_init 36 = .ok (.aload_n 0, 1) := by decide +kernel
theorem dX1_init_37 : decode cX1_init 37 = .ok (.aload 4, 2) := by decide +kernel
theorem dX1_init_39 : decode cX1_init 39 = .ok (.getfield 41, 3) := by decide +kernel
theorem dX1_init_42 : decode cX1_init 42 = .ok (.putfield 44, 3) := by decide +kernel
theorem dX1_init_45 : decode cX1_init 45 = .ok (.aload_n 0, 1) := by decide +kernel
theorem dX1_init_46 : decode cX1_init 46 = .ok (.aload_n 1, 1) := by decide +kernel
theorem dX1_init_47 : decode cX1_init 47 = .ok (.getfield 47, 3) := by decide +kernel
theorem dX1_init_50 : decode cX1_init 50 = .ok (.ifCond .eq 7, 3) := by decide +kernel
theorem dX1_init_53 : decode cX1_init 53 = .ok (.iload_n 3, 1) := by decide +kernel
theorem dX1_init_54 : decode cX1_init 54 = .ok (.goto 6, 3) := by decide +kernel
theorem dX1_init_57 : decode cX1_init 57 = .ok (.sipush 2880, 3) := by decide +kernel
theorem dX1_init_60 : decode cX1_init 60 = .ok (.putfield 51, 3) := by decide +kernel
theorem dX1_init_63 : decode cX1_init 63 = .ok (.return_, 1) := by decide +kernel
theorem dX1_end_0 : decode cX1_end 0 = .ok (.aload_n 0, 1) := by decide +kernel
theorem dX1_end_1 : decode cX1_end 1 = .ok (.getfield 19, 3) := by decide +kernel
theorem dX1_end_4 : decode cX1_end 4 = .ok (.bipush 60, 2) := by decide +kernel
theorem dX1_end_6 : decode cX1_end 6 = .ok (.iadd, 1) := by decide +kernel
theorem dX1_end_7 : decode cX1_end 7 = .ok (.ireturn, 1) := by decide +kernel
set_option maxRecDepth 20000 in
theorem ggX1_tugsFrom_X3_tugsFrom : GoodIn wsX1_tugsFrom wsX3_tugsFrom := goodIn_r _ [7, 8, 16, 17, 18, 19] (by decide +kernel) (by decide +kernel)
set_option maxRecDepth 20000 in
theorem gX1_tugsFrom_X3_tugsFrom : GoodIn wsX1_tugsFrom (wsV RX1 54 RX3 yX3_tugsFrom wsX3_tugsFrom) := goodIn_app (goodIn_of _ (by decide +kernel)) ggX1_tugsFrom_X3_tugsFrom
theorem dX1_tugsFrom_0 : decode cX1_tugsFrom 0 = .ok (.aload_n 0, 1) := by decide +kernel
theorem dX1_tugsFrom_1 : decode cX1_tugsFrom 1 = .ok (.getfield 9, 3) := by decide +kernel
theorem dX1_tugsFrom_4 : decode cX1_tugsFrom 4 = .ok (.aload_n 0, 1) := by decide +kernel
theorem dX1_tugsFrom_5 : decode cX1_tugsFrom 5 = .ok (.getfield 19, 3) := by decide +kernel
theorem dX1_tugsFrom_8 : decode cX1_tugsFrom 8 = .ok (.invokevirtual 54, 3) := by decide +kernel
theorem dX1_tugsFrom_11 : decode cX1_tugsFrom 11 = .ok (.ireturn, 1) := by decide +kernel
theorem dX1_holdsBerthAt_0 : decode cX1_holdsBerthAt 0 = .ok (.aload_n 0, 1) := by decide +kernel
theorem dX1_holdsBerthAt_1 : decode cX1_holdsBerthAt 1 = .ok (.getfield 19, 3) := by decide +kernel
theorem dX1_holdsBerthAt_4 : decode cX1_holdsBerthAt 4 = .ok (.iload_n 1, 1) := by decide +kernel
theorem dX1_holdsBerthAt_5 : decode cX1_holdsBerthAt 5 = .ok (.if_icmp .gt 15, 3) := by decide +kernel
theorem dX1_holdsBerthAt_8 : decode cX1_holdsBerthAt 8 = .ok (.iload_n 1, 1) := by decide +kernel
theorem dX1_holdsBerthAt_9 : decode cX1_holdsBerthAt 9 = .ok (.aload_n 0, 1) := by decide +kernel
theorem dX1_holdsBerthAt_10 : decode cX1_holdsBerthAt 10 = .ok (.getfield 51, 3) := by decide +kernel
theorem dX1_holdsBerthAt_13 : decode cX1_holdsBerthAt 13 = .ok (.if_icmp .ge 7, 3) := by decide +kernel
theorem dX1_holdsBerthAt_16 : decode cX1_holdsBerthAt 16 = .ok (.iconst 1, 1) := by decide +kernel
theorem dX1_holdsBerthAt_17 : decode cX1_holdsBerthAt 17 = .ok (.goto 4, 3) := by decide +kernel
theorem dX1_holdsBerthAt_20 : decode cX1_holdsBerthAt 20 = .ok (.iconst 0, 1) := by decide +kernel
theorem dX1_holdsBerthAt_21 : decode cX1_holdsBerthAt 21 = .ok (.ireturn, 1) := by decide +kernel
theorem dX2_init_0 : decode cX2_init 0 = .ok (.aload_n 0, 1) := by decide +kernel
theorem dX2_init_1 : decode cX2_init 1 = .ok (.invokespecial 3, 3) := by decide +kernel
theorem dX2_init_4 : decode cX2_init 4 = .ok (.aload_n 0, 1) := by decide +kernel
theorem dX2_init_5 : decode cX2_init 5 = .ok (.aconst_null, 1) := by decide +kernel
theorem dX2_init_6 : decode cX2_init 6 = .ok (.putfield 9, 3) := by decide +kernel
theorem dX2_init_9 : decode cX2_init 9 = .ok (.aload_n 0, 1) := by decide +kernel
theorem dX2_init_10 : decode cX2_init 10 = .ok (.iload_n 1, 1) := by decide +kernel
theorem dX2_init_11 : decode cX2_init 11 = .ok (.putfield 15, 3) := by decide +kernel
theorem dX2_init_14 : decode cX2_init 14 = .ok (.aload_n 0, 1) := by decide +kernel
theorem dX2_init_15 : decode cX2_init 15 = .ok (.iload_n 2, 1) := by decide +kernel
theorem dX2_init_16 : decode cX2_init 16 = .ok (.putfield 19, 3) := by decide +kernel
theorem dX2_init_19 : decode cX2_init 19 = .ok (.aload_n 0, 1) := by decide +kernel
theorem dX2_init_20 : decode cX2_init 20 = .ok (.iload_n 3, 1) := by decide +kernel
theorem dX2_init_21 : decode cX2_init 21 = .ok (.putfield 22, 3) := by decide +kernel
theorem dX2_init_24 : decode cX2_init 24 = .ok (.return_, 1) := by decide +kernel
theorem dX2_endsInPort_0 : decode cX2_endsInPort 0 = .ok (.aload_n 0, 1) := by decide +kernel
theorem dX2_endsInPort_1 : decode cX2_endsInPort 1 = .ok (.getfield 9, 3) := by decide +kernel
theorem dX2_endsInPort_4 : decode cX2_endsInPort 4 = .ok (.ifnonnull 10, 3) := by decide +kernel
theorem dX2_endsInPort_7 : decode cX2_endsInPort 7 = .ok (.aload_n 0, 1) := by decide +kernel
theorem dX2_endsInPort_8 : decode cX2_endsInPort 8 = .ok (.getfield 22, 3) := by decide +kernel
theorem dX2_endsInPort_11 : decode cX2_endsInPort 11 = .ok (.goto 21, 3) := by decide +kernel
theorem dX2_endsInPort_14 : decode cX2_endsInPort 14 = .ok (.aload_n 0, 1) := by decide +kernel
theorem dX2_endsInPort_15 : decode cX2_endsInPort 15 = .ok (.getfield 9, 3) := by decide +kernel
theorem dX2_endsInPort_18 : decode cX2_endsInPort 18 = .ok (.getfield 26, 3) := by decide +kernel
theorem dX2_endsInPort_21 : decode cX2_endsInPort 21 = .ok (.getfield 32, 3) := by decide +kernel
theorem dX2_endsInPort_24 : decode cX2_endsInPort 24 = .ok (.ifCond .ne 7, 3) := by decide +kernel
theorem dX2_endsInPort_27 : decode cX2_endsInPort 27 = .ok (.iconst 1, 1) := by decide +kernel
theorem dX2_endsInPort_28 : decode cX2_endsInPort 28 = .ok (.goto 4, 3) := by decide +kernel
theorem dX2_endsInPort_31 : decode cX2_endsInPort 31 = .ok (.iconst 0, 1) := by decide +kernel
theorem dX2_endsInPort_32 : decode cX2_endsInPort 32 = .ok (.ireturn, 1) := by decide +kernel
set_option maxRecDepth 20000 in
theorem ggX2_latestEnd_X1_end : GoodIn wsX2_latestEnd wsX1_end := goodIn_r _ [6, 7, 12, 13, 14, 15, 16, 17, 18] (by decide +kernel) (by decide +kernel)
set_option maxRecDepth 20000 in
theorem gX2_latestEnd_X1_end : GoodIn wsX2_latestEnd (wsV RX2 37 RX1 yX1_end wsX1_end) := goodIn_app (goodIn_of _ (by decide +kernel)) ggX2_latestEnd_X1_end
theorem dX2_latestEnd_0 : decode cX2_latestEnd 0 = .ok (.aload_n 0, 1) := by decide +kernel
theorem dX2_latestEnd_1 : decode cX2_latestEnd 1 = .ok (.getfield 9, 3) := by decide +kernel
theorem dX2_latestEnd_4 : decode cX2_latestEnd 4 = .ok (.ifnonnull 7, 3) := by decide +kernel
theorem dX2_latestEnd_7 : decode cX2_latestEnd 7 = .ok (.iconst (-1), 1) := by decide +kernel
theorem dX2_latestEnd_8 : decode cX2_latestEnd 8 = .ok (.goto 10, 3) := by decide +kernel
theorem dX2_latestEnd_11 : decode cX2_latestEnd 11 = .ok (.aload_n 0, 1) := by decide +kernel
theorem dX2_latestEnd_12 : decode cX2_latestEnd 12 = .ok (.getfield 9, 3) := by decide +kernel
theorem dX2_latestEnd_15 : decode cX2_latestEnd 15 = .ok (.invokevirtual 37, 3) := by decide +kernel
theorem dX2_latestEnd_18 : decode cX2_latestEnd 18 = .ok (.ireturn, 1) := by decide +kernel
set_option maxRecDepth 20000 in
theorem ggX2_canTake_X2_endsInPort : GoodIn wsX2_canTake wsX2_endsInPort := goodIn_r _ [7, 2, 8, 15, 16, 17, 18, 27, 28, 29, 30, 31, 32, 33, 19, 20, 21, 22] (by decide +kernel) (by decide +kernel)
set_option maxRecDepth 20000 in
theorem gX2_canTake_X2_endsInPort : GoodIn wsX2_canTake (wsV RX2 50 RX2 yX2_endsInPort wsX2_endsInPort) := goodIn_app (goodIn_of _ (by decide +kernel)) ggX2_canTake_X2_endsInPort
set_option maxRecDepth 20000 in
theorem ggX2_canTake_X1_end : GoodIn wsX2_canTake wsX1_end := goodIn_r _ [13, 14, 27, 28, 29, 30, 31, 32, 33] (by decide +kernel) (by decide +kernel)
set_option maxRecDepth 20000 in
theorem gX2_canTake_X1_end : GoodIn wsX2_canTake (wsV RX2 37 RX1 yX1_end wsX1_end) := goodIn_app (goodIn_of _ (by decide +kernel)) ggX2_canTake_X1_end
theorem dX2_canTake_0 : decode cX2_canTake 0 = .ok (.aload_n 0, 1) := by decide +kernel
theorem dX2_canTake_1 : decode cX2_canTake 1 = .ok (.getfield 19, 3) := by decide +kernel
theorem dX2_canTake_4 : decode cX2_canTake 4 = .ok (.aload_n 1, 1) := by decide +kernel
theorem dX2_canTake_5 : decode cX2_canTake 5 = .ok (.getfield 41, 3) := by decide +kernel
theorem dX2_canTake_8 : decode cX2_canTake 8 = .ok (.getfield 45, 3) := by decide +kernel
theorem dX2_canTake_11 : decode cX2_canTake 11 = .ok (.if_icmp .ge 5, 3) := by decide +kernel
theorem dX2_canTake_14 : decode cX2_canTake 14 = .ok (.iconst 0, 1) := by decide +kernel
theorem dX2_canTake_15 : decode cX2_canTake 15 = .ok (.ireturn, 1) := by decide +kernel
theorem dX2_canTake_16 : decode cX2_canTake 16 = .ok (.aload_n 0, 1) := by decide +kernel
theorem dX2_canTake_17 : decode cX2_canTake 17 = .ok (.invokevirtual 50, 3) := by decide +kernel
theorem dX2_canTake_20 : decode cX2_canTake 20 = .ok (.aload_n 1, 1) := by decide +kernel
theorem dX2_canTake_21 : decode cX2_canTake 21 = .ok (.getfield 32, 3) := by decide +kernel
theorem dX2_canTake_24 : decode cX2_canTake 24 = .ok (.if_icmp .ne 7, 3) := by decide +kernel
theorem dX2_canTake_27 : decode cX2_canTake 27 = .ok (.iconst 0, 1) := by decide +kernel
theorem dX2_canTake_28 : decode cX2_canTake 28 = .ok (.goto 5, 3) := by decide +kernel
theorem dX2_canTake_31 : decode cX2_canTake 31 = .ok (.bipush 60, 2) := by decide +kernel
theorem dX2_canTake_33 : decode cX2_canTake 33 = .ok (.istore_n 3, 1) := by decide +kernel
theorem dX2_canTake_34 : decode cX2_canTake 34 = .ok (.aload_n 0, 1) := by decide +kernel
theorem dX2_canTake_35 : decode cX2_canTake 35 = .ok (.getfield 9, 3) := by decide +kernel
theorem dX2_canTake_38 : decode cX2_canTake 38 = .ok (.ifnonnull 16, 3) := by decide +kernel
theorem dX2_canTake_41 : decode cX2_canTake 41 = .ok (.iload_n 2, 1) := by decide +kernel
theorem dX2_canTake_42 : decode cX2_canTake 42 = .ok (.iload_n 3, 1) := by decide +kernel
theorem dX2_canTake_43 : decode cX2_canTake 43 = .ok (.if_icmp .lt 7, 3) := by decide +kernel
theorem dX2_canTake_46 : decode cX2_canTake 46 = .ok (.iconst 1, 1) := by decide +kernel
theorem dX2_canTake_47 : decode cX2_canTake 47 = .ok (.goto 28, 3) := by decide +kernel
theorem dX2_canTake_50 : decode cX2_canTake 50 = .ok (.iconst 0, 1) := by decide +kernel
theorem dX2_canTake_51 : decode cX2_canTake 51 = .ok (.goto 24, 3) := by decide +kernel
theorem dX2_canTake_54 : decode cX2_canTake 54 = .ok (.iload_n 2, 1) := by decide +kernel
theorem dX2_canTake_55 : decode cX2_canTake 55 = .ok (.aload_n 0, 1) := by decide +kernel
theorem dX2_canTake_56 : decode cX2_canTake 56 = .ok (.getfield 9, 3) := by decide +kernel
theorem dX2_canTake_59 : decode cX2_canTake 59 = .ok (.invokevirtual 37, 3) := by decide +kernel
theorem dX2_canTake_62 : decode cX2_canTake 62 = .ok (.bipush 30, 2) := by decide +kernel
theorem dX2_canTake_64 : decode cX2_canTake 64 = .ok (.iadd, 1) := by decide +kernel
theorem dX2_canTake_65 : decode cX2_canTake 65 = .ok (.iload_n 3, 1) := by decide +kernel
theorem dX2_canTake_66 : decode cX2_canTake 66 = .ok (.iadd, 1) := by decide +kernel
theorem dX2_canTake_67 : decode cX2_canTake 67 = .ok (.if_icmp .lt 7, 3) := by decide +kernel
theorem dX2_canTake_70 : decode cX2_canTake 70 = .ok (.iconst 1, 1) := by decide +kernel
theorem dX2_canTake_71 : decode cX2_canTake 71 = .ok (.goto 4, 3) := by decide +kernel
theorem dX2_canTake_74 : decode cX2_canTake 74 = .ok (.iconst 0, 1) := by decide +kernel
theorem dX2_canTake_75 : decode cX2_canTake 75 = .ok (.ireturn, 1) := by decide +kernel
set_option maxRecDepth 20000 in
theorem ggX3_init_X3_tugsForLength : GoodIn wsX3_init wsX3_tugsForLength := goodIn_r _ [11] (by decide +kernel) (by decide +kernel)
set_option maxRecDepth 20000 in
theorem gX3_init_X3_tugsForLength : GoodIn wsX3_init (va_wsS RX3 29 yX3_tugsForLength wsX3_tugsForLength) := goodIn_app (goodIn_of _ (by decide +kernel)) ggX3_init_X3_tugsForLength
theorem dX3_init_0 : decode cX3_init 0 = .ok (.aload_n 0, 1) := by decide +kernel
theorem dX3_init_1 : decode cX3_init 1 = .ok (.invokespecial 3, 3) := by decide +kernel
theorem dX3_init_4 : decode cX3_init 4 = .ok (.aload_n 0, 1) := by decide +kernel
theorem dX3_init_5 : decode cX3_init 5 = .ok (.aload_n 1, 1) := by decide +kernel
theorem dX3_init_6 : decode cX3_init 6 = .ok (.putfield 9, 3) := by decide +kernel
theorem dX3_init_9 : decode cX3_init 9 = .ok (.aload_n 0, 1) := by decide +kernel
theorem dX3_init_10 : decode cX3_init 10 = .ok (.aload_n 2, 1) := by decide +kernel
theorem dX3_init_11 : decode cX3_init 11 = .ok (.putfield 15, 3) := by decide +kernel
theorem dX3_init_14 : decode cX3_init 14 = .ok (.aload_n 0, 1) := by decide +kernel
theorem dX3_init_15 : decode cX3_init 15 = .ok (.iload_n 3, 1) := by decide +kernel
theorem dX3_init_16 : decode cX3_init 16 = .ok (.putfield 19, 3) := by decide +kernel
theorem dX3_init_19 : decode cX3_init 19 = .ok (.aload_n 0, 1) := by decide +kernel
theorem dX3_init_20 : decode cX3_init 20 = .ok (.aload_n 1, 1) := by decide +kernel
theorem dX3_init_21 : decode cX3_init 21 = .ok (.getfield 23, 3) := by decide +kernel
theorem dX3_init_24 : decode cX3_init 24 = .ok (.invokestatic 29, 3) := by decide +kernel
theorem dX3_init_27 : decode cX3_init 27 = .ok (.putfield 33, 3) := by decide +kernel
theorem dX3_init_30 : decode cX3_init 30 = .ok (.return_, 1) := by decide +kernel
theorem dX3_tugsForLength_0 : decode cX3_tugsForLength 0 = .ok (.iload_n 0, 1) := by decide +kernel
theorem dX3_tugsForLength_1 : decode cX3_tugsForLength 1 = .ok (.bipush 100, 2) := by decide +kernel
theorem dX3_tugsForLength_3 : decode cX3_tugsForLength 3 = .ok (.if_icmp .ge 5, 3) := by decide +kernel
theorem dX3_tugsForLength_6 : decode cX3_tugsForLength 6 = .ok (.iconst 0, 1) := by decide +kernel
theorem dX3_tugsForLength_7 : decode cX3_tugsForLength 7 = .ok (.ireturn, 1) := by decide +kernel
theorem dX3_tugsForLength_8 : decode cX3_tugsForLength 8 = .ok (.iload_n 0, 1) := by decide +kernel
theorem dX3_tugsForLength_9 : decode cX3_tugsForLength 9 = .ok (.sipush 160, 3) := by decide +kernel
theorem dX3_tugsForLength_12 : decode cX3_tugsForLength 12 = .ok (.if_icmp .ge 5, 3) := by decide +kernel
theorem dX3_tugsForLength_15 : decode cX3_tugsForLength 15 = .ok (.iconst 1, 1) := by decide +kernel
theorem dX3_tugsForLength_16 : decode cX3_tugsForLength 16 = .ok (.ireturn, 1) := by decide +kernel
theorem dX3_tugsForLength_17 : decode cX3_tugsForLength 17 = .ok (.iload_n 0, 1) := by decide +kernel
theorem dX3_tugsForLength_18 : decode cX3_tugsForLength 18 = .ok (.sipush 220, 3) := by decide +kernel
theorem dX3_tugsForLength_21 : decode cX3_tugsForLength 21 = .ok (.if_icmp .ge 7, 3) := by decide +kernel
theorem dX3_tugsForLength_24 : decode cX3_tugsForLength 24 = .ok (.iconst 2, 1) := by decide +kernel
theorem dX3_tugsForLength_25 : decode cX3_tugsForLength 25 = .ok (.goto 4, 3) := by decide +kernel
theorem dX3_tugsForLength_28 : decode cX3_tugsForLength 28 = .ok (.iconst 3, 1) := by decide +kernel
theorem dX3_tugsForLength_29 : decode cX3_tugsForLength 29 = .ok (.ireturn, 1) := by decide +kernel
theorem dX3_barMinute_0 : decode cX3_barMinute 0 = .ok (.aload_n 0, 1) := by decide +kernel
theorem dX3_barMinute_1 : decode cX3_barMinute 1 = .ok (.getfield 19, 3) := by decide +kernel
theorem dX3_barMinute_4 : decode cX3_barMinute 4 = .ok (.ifCond .eq 10, 3) := by decide +kernel
theorem dX3_barMinute_7 : decode cX3_barMinute 7 = .ok (.iload_n 1, 1) := by decide +kernel
theorem dX3_barMinute_8 : decode cX3_barMinute 8 = .ok (.bipush 60, 2) := by decide +kernel
theorem dX3_barMinute_10 : decode cX3_barMinute 10 = .ok (.iadd, 1) := by decide +kernel
theorem dX3_barMinute_11 : decode cX3_barMinute 11 = .ok (.goto 4, 3) := by decide +kernel
theorem dX3_barMinute_14 : decode cX3_barMinute 14 = .ok (.iload_n 1, 1) := by decide +kernel
theorem dX3_barMinute_15 : decode cX3_barMinute 15 = .ok (.ireturn, 1) := by decide +kernel
theorem dX3_berthMinute_0 : decode cX3_berthMinute 0 = .ok (.aload_n 0, 1) := by decide +kernel
theorem dX3_berthMinute_1 : decode cX3_berthMinute 1 = .ok (.getfield 19, 3) := by decide +kernel
theorem dX3_berthMinute_4 : decode cX3_berthMinute 4 = .ok (.ifCond .eq 7, 3) := by decide +kernel
theorem dX3_berthMinute_7 : decode cX3_berthMinute 7 = .ok (.iload_n 1, 1) := by decide +kernel
theorem dX3_berthMinute_8 : decode cX3_berthMinute 8 = .ok (.goto 7, 3) := by decide +kernel
theorem dX3_berthMinute_11 : decode cX3_berthMinute 11 = .ok (.iload_n 1, 1) := by decide +kernel
theorem dX3_berthMinute_12 : decode cX3_berthMinute 12 = .ok (.bipush 60, 2) := by decide +kernel
theorem dX3_berthMinute_14 : decode cX3_berthMinute 14 = .ok (.iadd, 1) := by decide +kernel
theorem dX3_berthMinute_15 : decode cX3_berthMinute 15 = .ok (.ireturn, 1) := by decide +kernel
theorem dX3_tugsFrom_0 : decode cX3_tugsFrom 0 = .ok (.aload_n 0, 1) := by decide +kernel
theorem dX3_tugsFrom_1 : decode cX3_tugsFrom 1 = .ok (.getfield 19, 3) := by decide +kernel
theorem dX3_tugsFrom_4 : decode cX3_tugsFrom 4 = .ok (.ifCond .eq 7, 3) := by decide +kernel
theorem dX3_tugsFrom_7 : decode cX3_tugsFrom 7 = .ok (.iload_n 1, 1) := by decide +kernel
theorem dX3_tugsFrom_8 : decode cX3_tugsFrom 8 = .ok (.goto 10, 3) := by decide +kernel
theorem dX3_tugsFrom_11 : decode cX3_tugsFrom 11 = .ok (.iload_n 1, 1) := by decide +kernel
theorem dX3_tugsFrom_12 : decode cX3_tugsFrom 12 = .ok (.bipush 60, 2) := by decide +kernel
theorem dX3_tugsFrom_14 : decode cX3_tugsFrom 14 = .ok (.iadd, 1) := by decide +kernel
theorem dX3_tugsFrom_15 : decode cX3_tugsFrom 15 = .ok (.bipush 40, 2) := by decide +kernel
theorem dX3_tugsFrom_17 : decode cX3_tugsFrom 17 = .ok (.isub, 1) := by decide +kernel
theorem dX3_tugsFrom_18 : decode cX3_tugsFrom 18 = .ok (.ireturn, 1) := by decide +kernel
theorem dX4_init_0 : decode cX4_init 0 = .ok (.aload_n 0, 1) := by decide +kernel
theorem dX4_init_1 : decode cX4_init 1 = .ok (.invokespecial 1, 3) := by decide +kernel
theorem dX4_init_4 : decode cX4_init 4 = .ok (.aload_n 0, 1) := by decide +kernel
theorem dX4_init_5 : decode cX4_init 5 = .ok (.aconst_null, 1) := by decide +kernel
theorem dX4_init_6 : decode cX4_init 6 = .ok (.putfield 7, 3) := by decide +kernel
theorem dX4_init_9 : decode cX4_init 9 = .ok (.aload_n 0, 1) := by decide +kernel
theorem dX4_init_10 : decode cX4_init 10 = .ok (.iload_n 1, 1) := by decide +kernel
theorem dX4_init_11 : decode cX4_init 11 = .ok (.putfield 13, 3) := by decide +kernel
theorem dX4_init_14 : decode cX4_init 14 = .ok (.aload_n 0, 1) := by decide +kernel
theorem dX4_init_15 : decode cX4_init 15 = .ok (.iload_n 2, 1) := by decide +kernel
theorem dX4_init_16 : decode cX4_init 16 = .ok (.putfield 17, 3) := by decide +kernel
theorem dX4_init_19 : decode cX4_init 19 = .ok (.aload_n 0, 1) := by decide +kernel
theorem dX4_init_20 : decode cX4_init 20 = .ok (.iload_n 3, 1) := by decide +kernel
theorem dX4_init_21 : decode cX4_init 21 = .ok (.putfield 20, 3) := by decide +kernel
theorem dX4_init_24 : decode cX4_init 24 = .ok (.return_, 1) := by decide +kernel
theorem dX5_init_0 : decode cX5_init 0 = .ok (.aload_n 0, 1) := by decide +kernel
theorem dX5_init_1 : decode cX5_init 1 = .ok (.invokespecial 3, 3) := by decide +kernel
theorem dX5_init_4 : decode cX5_init 4 = .ok (.aload_n 0, 1) := by decide +kernel
theorem dX5_init_5 : decode cX5_init 5 = .ok (.bipush 30, 2) := by decide +kernel
theorem dX5_init_7 : decode cX5_init 7 = .ok (.newarray .int, 2) := by decide +kernel
theorem dX5_init_9 : decode cX5_init 9 = .ok (.putfield 9, 3) := by decide +kernel
theorem dX5_init_12 : decode cX5_init 12 = .ok (.aload_n 0, 1) := by decide +kernel
theorem dX5_init_13 : decode cX5_init 13 = .ok (.bipush 30, 2) := by decide +kernel
theorem dX5_init_15 : decode cX5_init 15 = .ok (.newarray .int, 2) := by decide +kernel
theorem dX5_init_17 : decode cX5_init 17 = .ok (.putfield 15, 3) := by decide +kernel
theorem dX5_init_20 : decode cX5_init 20 = .ok (.aload_n 0, 1) := by decide +kernel
theorem dX5_init_21 : decode cX5_init 21 = .ok (.iconst 0, 1) := by decide +kernel
theorem dX5_init_22 : decode cX5_init 22 = .ok (.putfield 18, 3) := by decide +kernel
theorem dX5_init_25 : decode cX5_init 25 = .ok (.return_, 1) := by decide +kernel
theorem dX5_pointsUpTo_0 : decode cX5_pointsUpTo 0 = .ok (.iconst 0, 1) := by decide +kernel
theorem dX5_pointsUpTo_1 : decode cX5_pointsUpTo 1 = .ok (.istore_n 2, 1) := by decide +kernel
theorem dX5_pointsUpTo_2 : decode cX5_pointsUpTo 2 = .ok (.iload_n 2, 1) := by decide +kernel
theorem dX5_pointsUpTo_3 : decode cX5_pointsUpTo 3 = .ok (.aload_n 0, 1) := by decide +kernel
theorem dX5_pointsUpTo_4 : decode cX5_pointsUpTo 4 = .ok (.getfield 18, 3) := by decide +kernel
theorem dX5_pointsUpTo_7 : decode cX5_pointsUpTo 7 = .ok (.if_icmp .ge 19, 3) := by decide +kernel
theorem dX5_pointsUpTo_10 : decode cX5_pointsUpTo 10 = .ok (.aload_n 0, 1) := by decide +kernel
theorem dX5_pointsUpTo_11 : decode cX5_pointsUpTo 11 = .ok (.getfield 9, 3) := by decide +kernel
theorem dX5_pointsUpTo_14 : decode cX5_pointsUpTo 14 = .ok (.iload_n 2, 1) := by decide +kernel
theorem dX5_pointsUpTo_15 : decode cX5_pointsUpTo 15 = .ok (.iaload, 1) := by decide +kernel
theorem dX5_pointsUpTo_16 : decode cX5_pointsUpTo 16 = .ok (.iload_n 1, 1) := by decide +kernel
theorem dX5_pointsUpTo_17 : decode cX5_pointsUpTo 17 = .ok (.if_icmp .gt 9, 3) := by decide +kernel
theorem dX5_pointsUpTo_20 : decode cX5_pointsUpTo 20 = .ok (.iinc 2 1, 3) := by decide +kernel
theorem dX5_pointsUpTo_23 : decode cX5_pointsUpTo 23 = .ok (.goto (-21), 3) := by decide +kernel
theorem dX5_pointsUpTo_26 : decode cX5_pointsUpTo 26 = .ok (.iload_n 2, 1) := by decide +kernel
theorem dX5_pointsUpTo_27 : decode cX5_pointsUpTo 27 = .ok (.ireturn, 1) := by decide +kernel
set_option maxRecDepth 20000 in
theorem ggX5_hasPointAt_X5_pointsUpTo : GoodIn wsX5_hasPointAt wsX5_pointsUpTo := goodIn_r _ [6, 7, 1, 8, 9, 10] (by decide +kernel) (by decide +kernel)
set_option maxRecDepth 20000 in
theorem gX5_hasPointAt_X5_pointsUpTo : GoodIn wsX5_hasPointAt (wsV RX5 22 RX5 yX5_pointsUpTo wsX5_pointsUpTo) := goodIn_app (goodIn_of _ (by decide +kernel)) ggX5_hasPointAt_X5_pointsUpTo
theorem dX5_hasPointAt_0 : decode cX5_hasPointAt 0 = .ok (.aload_n 0, 1) := by decide +kernel
theorem dX5_hasPointAt_1 : decode cX5_hasPointAt 1 = .ok (.iload_n 1, 1) := by decide +kernel
theorem dX5_hasPointAt_2 : decode cX5_hasPointAt 2 = .ok (.invokevirtual 22, 3) := by decide +kernel
theorem dX5_hasPointAt_5 : decode cX5_hasPointAt 5 = .ok (.istore_n 2, 1) := by decide +kernel
theorem dX5_hasPointAt_6 : decode cX5_hasPointAt 6 = .ok (.iload_n 2, 1) := by decide +kernel
theorem dX5_hasPointAt_7 : decode cX5_hasPointAt 7 = .ok (.ifCond .le 19, 3) := by decide +kernel
theorem dX5_hasPointAt_10 : decode cX5_hasPointAt 10 = .ok (.aload_n 0, 1) := by decide +kernel
theorem dX5_hasPointAt_11 : decode cX5_hasPointAt 11 = .ok (.getfield 9, 3) := by decide +kernel
theorem dX5_hasPointAt_14 : decode cX5_hasPointAt 14 = .ok (.iload_n 2, 1) := by decide +kernel
theorem dX5_hasPointAt_15 : decode cX5_hasPointAt 15 = .ok (.iconst 1, 1) := by decide +kernel
theorem dX5_hasPointAt_16 : decode cX5_hasPointAt 16 = .ok (.isub, 1) := by decide +kernel
theorem dX5_hasPointAt_17 : decode cX5_hasPointAt 17 = .ok (.iaload, 1) := by decide +kernel
theorem dX5_hasPointAt_18 : decode cX5_hasPointAt 18 = .ok (.iload_n 1, 1) := by decide +kernel
theorem dX5_hasPointAt_19 : decode cX5_hasPointAt 19 = .ok (.if_icmp .ne 7, 3) := by decide +kernel
theorem dX5_hasPointAt_22 : decode cX5_hasPointAt 22 = .ok (.iconst 1, 1) := by decide +kernel
theorem dX5_hasPointAt_23 : decode cX5_hasPointAt 23 = .ok (.goto 4, 3) := by decide +kernel
theorem dX5_hasPointAt_26 : decode cX5_hasPointAt 26 = .ok (.iconst 0, 1) := by decide +kernel
theorem dX5_hasPointAt_27 : decode cX5_hasPointAt 27 = .ok (.ireturn, 1) := by decide +kernel
set_option maxRecDepth 20000 in
theorem ggX5_insert_X5_pointsUpTo : GoodIn wsX5_insert wsX5_pointsUpTo := goodIn_r _ [8, 1, 2, 9, 10, 11] (by decide +kernel) (by decide +kernel)
set_option maxRecDepth 20000 in
theorem gX5_insert_X5_pointsUpTo : GoodIn wsX5_insert (wsV RX5 22 RX5 yX5_pointsUpTo wsX5_pointsUpTo) := goodIn_app (goodIn_of _ (by decide +kernel)) ggX5_insert_X5_pointsUpTo
theorem dX5_insert_0 : decode cX5_insert 0 = .ok (.aload_n 0, 1) := by decide +kernel
theorem dX5_insert_1 : decode cX5_insert 1 = .ok (.getfield 18, 3) := by decide +kernel
theorem dX5_insert_4 : decode cX5_insert 4 = .ok (.bipush 30, 2) := by decide +kernel
theorem dX5_insert_6 : decode cX5_insert 6 = .ok (.if_icmp .lt 4, 3) := by decide +kernel
theorem dX5_insert_9 : decode cX5_insert 9 = .ok (.return_, 1) := by decide +kernel
theorem dX5_insert_10 : decode cX5_insert 10 = .ok (.aload_n 0, 1) := by decide +kernel
theorem dX5_insert_11 : decode cX5_insert 11 = .ok (.iload_n 1, 1) := by decide +kernel
theorem dX5_insert_12 : decode cX5_insert 12 = .ok (.invokevirtual 22, 3) := by decide +kernel
theorem dX5_insert_15 : decode cX5_insert 15 = .ok (.istore_n 3, 1) := by decide +kernel
theorem dX5_insert_16 : decode cX5_insert 16 = .ok (.aload_n 0, 1) := by decide +kernel
theorem dX5_insert_17 : decode cX5_insert 17 = .ok (.getfield 18, 3) := by decide +kernel
theorem dX5_insert_20 : decode cX5_insert 20 = .ok (.istore 4, 2) := by decide +kernel
theorem dX5_insert_22 : decode cX5_insert 22 = .ok (.iload 4, 2) := by decide +kernel
theorem dX5_insert_24 : decode cX5_insert 24 = .ok (.iload_n 3, 1) := by decide +kernel
theorem dX5_insert_25 : decode cX5_insert 25 = .ok (.if_icmp .le 41, 3) := by decide +kernel
theorem dX5_insert_28 : decode cX5_insert 28 = .ok (.aload_n 0, 1) := by decide +kernel
theorem dX5_insert_29 : decode cX5_insert 29 = .ok (.getfield 9, 3) := by decide +kernel
theorem dX5_insert_32 : decode cX5_insert 32 = .ok (.iload 4, 2) := by decide +kernel
theorem dX5_insert_34 : decode cX5_insert 34 = .ok (.aload_n 0, 1) := by decide +kernel
theorem dX5_insert_35 : decode cX5_insert 35 = .ok (.getfield 9, 3) := by decide +kernel
theorem dX5_insert_38 : decode cX5_insert 38 = .ok (.iload 4, 2) := by decide +kernel
theorem dX5_insert_40 : decode cX5_insert 40 = .ok (.iconst 1, 1) := by decide +kernel
theorem dX5_insert_41 : decode cX5_insert 41 = .ok (.isub, 1) := by decide +kernel
theorem dX5_insert_42 : decode cX5_insert 42 = .ok (.iaload, 1) := by decide +kernel
theorem dX5_insert_43 : decode cX5_insert 43 = .ok (.iastore, 1) := by decide +kernel
theorem dX5_insert_44 : decode cX5_insert 44 = .ok (.aload_n 0, 1) := by decide +kernel
theorem dX5_insert_45 : decode cX5_insert 45 = .ok (.getfield 15, 3) := by decide +kernel
theorem dX5_insert_48 : decode cX5_insert 48 = .ok (.iload 4, 2) := by decide +kernel
theorem dX5_insert_50 : decode cX5_insert 50 = .ok (.aload_n 0, 1) := by decide +kernel
theorem dX5_insert_51 : decode cX5_insert 51 = .ok (.getfield 15, 3) := by decide +kernel
theorem dX5_insert_54 : decode cX5_insert 54 = .ok (.iload 4, 2) := by decide +kernel
theorem dX5_insert_56 : decode cX5_insert 56 = .ok (.iconst 1, 1) := by decide +kernel
theorem dX5_insert_57 : decode cX5_insert 57 = .ok (.isub, 1) := by decide +kernel
theorem dX5_insert_58 : decode cX5_insert 58 = .ok (.iaload, 1) := by decide +kernel
theorem dX5_insert_59 : decode cX5_insert 59 = .ok (.iastore, 1) := by decide +kernel
theorem dX5_insert_60 : decode cX5_insert 60 = .ok (.iinc 4 (-1), 3) := by decide +kernel
theorem dX5_insert_63 : decode cX5_insert 63 = .ok (.goto (-41), 3) := by decide +kernel
theorem dX5_insert_66 : decode cX5_insert 66 = .ok (.aload_n 0, 1) := by decide +kernel
theorem dX5_insert_67 : decode cX5_insert 67 = .ok (.getfield 9, 3) := by decide +kernel
theorem dX5_insert_70 : decode cX5_insert 70 = .ok (.iload_n 3, 1) := by decide +kernel
theorem dX5_insert_71 : decode cX5_insert 71 = .ok (.iload_n 1, 1) := by decide +kernel
theorem dX5_insert_72 : decode cX5_insert 72 = .ok (.iastore, 1) := by decide +kernel
theorem dX5_insert_73 : decode cX5_insert 73 = .ok (.aload_n 0, 1) := by decide +kernel
theorem dX5_insert_74 : decode cX5_insert 74 = .ok (.getfield 15, 3) := by decide +kernel
theorem dX5_insert_77 : decode cX5_insert 77 = .ok (.iload_n 3, 1) := by decide +kernel
theorem dX5_insert_78 : decode cX5_insert 78 = .ok (.iload_n 2, 1) := by decide +kernel
theorem dX5_insert_79 : decode cX5_insert 79 = .ok (.iastore, 1) := by decide +kernel
theorem dX5_insert_80 : decode cX5_insert 80 = .ok (.aload_n 0, 1) := by decide +kernel
theorem dX5_insert_81 : decode cX5_insert 81 = .ok (.dup, 1) := by decide +kernel
theorem dX5_insert_82 : decode cX5_insert 82 = .ok (.getfield 18, 3) := by decide +kernel
theorem dX5_insert_85 : decode cX5_insert 85 = .ok (.iconst 1, 1) := by decide +kernel
theorem dX5_insert_86 : decode cX5_insert 86 = .ok (.iadd, 1) := by decide +kernel
theorem dX5_insert_87 : decode cX5_insert 87 = .ok (.putfield 18, 3) := by decide +kernel
theorem dX5_insert_90 : decode cX5_insert 90 = .ok (.return_, 1) := by decide +kernel
set_option maxRecDepth 20000 in
theorem ggX5_heightAt_X5_pointsUpTo : GoodIn wsX5_heightAt wsX5_pointsUpTo := goodIn_r _ [8, 1, 3, 9, 10, 11] (by decide +kernel) (by decide +kernel)
set_option maxRecDepth 20000 in
theorem gX5_heightAt_X5_pointsUpTo : GoodIn wsX5_heightAt (wsV RX5 22 RX5 yX5_pointsUpTo wsX5_pointsUpTo) := goodIn_app (goodIn_of _ (by decide +kernel)) ggX5_heightAt_X5_pointsUpTo
theorem dX5_heightAt_0 : decode cX5_heightAt 0 = .ok (.aload_n 0, 1) := by decide +kernel
theorem dX5_heightAt_1 : decode cX5_heightAt 1 = .ok (.getfield 18, 3) := by decide +kernel
theorem dX5_heightAt_4 : decode cX5_heightAt 4 = .ok (.ifCond .ne 5, 3) := by decide +kernel
theorem dX5_heightAt_7 : decode cX5_heightAt 7 = .ok (.iconst 0, 1) := by decide +kernel
theorem dX5_heightAt_8 : decode cX5_heightAt 8 = .ok (.ireturn, 1) := by decide +kernel
theorem dX5_heightAt_9 : decode cX5_heightAt 9 = .ok (.aload_n 0, 1) := by decide +kernel
theorem dX5_heightAt_10 : decode cX5_heightAt 10 = .ok (.iload_n 1, 1) := by decide +kernel
theorem dX5_heightAt_11 : decode cX5_heightAt 11 = .ok (.invokevirtual 22, 3) := by decide +kernel
theorem dX5_heightAt_14 : decode cX5_heightAt 14 = .ok (.istore_n 2, 1) := by decide +kernel
theorem dX5_heightAt_15 : decode cX5_heightAt 15 = .ok (.iload_n 2, 1) := by decide +kernel
theorem dX5_heightAt_16 : decode cX5_heightAt 16 = .ok (.ifCond .ne 10, 3) := by decide +kernel
theorem dX5_heightAt_19 : decode cX5_heightAt 19 = .ok (.aload_n 0, 1) := by decide +kernel
theorem dX5_heightAt_20 : decode cX5_heightAt 20 = .ok (.getfield 15, 3) := by decide +kernel
theorem dX5_heightAt_23 : decode cX5_heightAt 23 = .ok (.iconst 0, 1) := by decide +kernel
theorem dX5_heightAt_24 : decode cX5_heightAt 24 = .ok (.iaload, 1) := by decide +kernel
theorem dX5_heightAt_25 : decode cX5_heightAt 25 = .ok (.ireturn, 1) := by decide +kernel
theorem dX5_heightAt_26 : decode cX5_heightAt 26 = .ok (.iload_n 2, 1) := by decide +kernel
theorem dX5_heightAt_27 : decode cX5_heightAt 27 = .ok (.iconst 1, 1) := by decide +kernel
theorem dX5_heightAt_28 : decode cX5_heightAt 28 = .ok (.isub, 1) := by decide +kernel
theorem dX5_heightAt_29 : decode cX5_heightAt 29 = .ok (.istore_n 3, 1) := by decide +kernel
theorem dX5_heightAt_30 : decode cX5_heightAt 30 = .ok (.iload_n 2, 1) := by decide +kernel
theorem dX5_heightAt_31 : decode cX5_heightAt 31 = .ok (.aload_n 0, 1) := by decide +kernel
theorem dX5_heightAt_32 : decode cX5_heightAt 32 = .ok (.getfield 18, 3) := by decide +kernel
theorem dX5_heightAt_35 : decode cX5_heightAt 35 = .ok (.if_icmp .ne 10, 3) := by decide +kernel
theorem dX5_heightAt_38 : decode cX5_heightAt 38 = .ok (.aload_n 0, 1) := by decide +kernel
theorem dX5_heightAt_39 : decode cX5_heightAt 39 = .ok (.getfield 15, 3) := by decide +kernel
theorem dX5_heightAt_42 : decode cX5_heightAt 42 = .ok (.iload_n 3, 1) := by decide +kernel
theorem dX5_heightAt_43 : decode cX5_heightAt 43 = .ok (.iaload, 1) := by decide +kernel
theorem dX5_heightAt_44 : decode cX5_heightAt 44 = .ok (.ireturn, 1) := by decide +kernel
theorem dX5_heightAt_45 : decode cX5_heightAt 45 = .ok (.aload_n 0, 1) := by decide +kernel
theorem dX5_heightAt_46 : decode cX5_heightAt 46 = .ok (.getfield 9, 3) := by decide +kernel
theorem dX5_heightAt_49 : decode cX5_heightAt 49 = .ok (.iload_n 2, 1) := by decide +kernel
theorem dX5_heightAt_50 : decode cX5_heightAt 50 = .ok (.iaload, 1) := by decide +kernel
theorem dX5_heightAt_51 : decode cX5_heightAt 51 = .ok (.aload_n 0, 1) := by decide +kernel
theorem dX5_heightAt_52 : decode cX5_heightAt 52 = .ok (.getfield 9, 3) := by decide +kernel
theorem dX5_heightAt_55 : decode cX5_heightAt 55 = .ok (.iload_n 3, 1) := by decide +kernel
theorem dX5_heightAt_56 : decode cX5_heightAt 56 = .ok (.iaload, 1) := by decide +kernel
theorem dX5_heightAt_57 : decode cX5_heightAt 57 = .ok (.isub, 1) := by decide +kernel
theorem dX5_heightAt_58 : decode cX5_heightAt 58 = .ok (.istore 4, 2) := by decide +kernel
theorem dX5_heightAt_60 : decode cX5_heightAt 60 = .ok (.aload_n 0, 1) := by decide +kernel
theorem dX5_heightAt_61 : decode cX5_heightAt 61 = .ok (.getfield 15, 3) := by decide +kernel
theorem dX5_heightAt_64 : decode cX5_heightAt 64 = .ok (.iload_n 2, 1) := by decide +kernel
theorem dX5_heightAt_65 : decode cX5_heightAt 65 = .ok (.iaload, 1) := by decide +kernel
theorem dX5_heightAt_66 : decode cX5_heightAt 66 = .ok (.aload_n 0, 1) := by decide +kernel
theorem dX5_heightAt_67 : decode cX5_heightAt 67 = .ok (.getfield 15, 3) := by decide +kernel
theorem dX5_heightAt_70 : decode cX5_heightAt 70 = .ok (.iload_n 3, 1) := by decide +kernel
theorem dX5_heightAt_71 : decode cX5_heightAt 71 = .ok (.iaload, 1) := by decide +kernel
theorem dX5_heightAt_72 : decode cX5_heightAt 72 = .ok (.isub, 1) := by decide +kernel
theorem dX5_heightAt_73 : decode cX5_heightAt 73 = .ok (.iload_n 1, 1) := by decide +kernel
theorem dX5_heightAt_74 : decode cX5_heightAt 74 = .ok (.aload_n 0, 1) := by decide +kernel
theorem dX5_heightAt_75 : decode cX5_heightAt 75 = .ok (.getfield 9, 3) := by decide +kernel
theorem dX5_heightAt_78 : decode cX5_heightAt 78 = .ok (.iload_n 3, 1) := by decide +kernel
theorem dX5_heightAt_79 : decode cX5_heightAt 79 = .ok (.iaload, 1) := by decide +kernel
theorem dX5_heightAt_80 : decode cX5_heightAt 80 = .ok (.isub, 1) := by decide +kernel
theorem dX5_heightAt_81 : decode cX5_heightAt 81 = .ok (.imul, 1) := by decide +kernel
theorem dX5_heightAt_82 : decode cX5_heightAt 82 = .ok (.istore 5, 2) := by decide +kernel
theorem dX5_heightAt_84 : decode cX5_heightAt 84 = .ok (.iload 4, 2) := by decide +kernel
theorem dX5_heightAt_86 : decode cX5_heightAt 86 = .ok (.ifCond .le 18, 3) := by decide +kernel
theorem dX5_heightAt_89 : decode cX5_heightAt 89 = .ok (.aload_n 0, 1) := by decide +kernel
theorem dX5_heightAt_90 : decode cX5_heightAt 90 = .ok (.getfield 15, 3) := by decide +kernel
theorem dX5_heightAt_93 : decode cX5_heightAt 93 = .ok (.iload_n 3, 1) := by decide +kernel
theorem dX5_heightAt_94 : decode cX5_heightAt 94 = .ok (.iaload, 1) := by decide +kernel
theorem dX5_heightAt_95 : decode cX5_heightAt 95 = .ok (.iload 5, 2) := by decide +kernel
theorem dX5_heightAt_97 : decode cX5_heightAt 97 = .ok (.iload 4, 2) := by decide +kernel
theorem dX5_heightAt_99 : decode cX5_heightAt 99 = .ok (.idiv, 1) := by decide +kernel
theorem dX5_heightAt_100 : decode cX5_heightAt 100 = .ok (.iadd, 1) := by decide +kernel
theorem dX5_heightAt_101 : decode cX5_heightAt 101 = .ok (.goto 9, 3) := by decide +kernel
theorem dX5_heightAt_104 : decode cX5_heightAt 104 = .ok (.aload_n 0, 1) := by decide +kernel
theorem dX5_heightAt_105 : decode cX5_heightAt 105 = .ok (.getfield 15, 3) := by decide +kernel
theorem dX5_heightAt_108 : decode cX5_heightAt 108 = .ok (.iload_n 3, 1) := by decide +kernel
theorem dX5_heightAt_109 : decode cX5_heightAt 109 = .ok (.iaload, 1) := by decide +kernel
theorem dX5_heightAt_110 : decode cX5_heightAt 110 = .ok (.ireturn, 1) := by decide +kernel
set_option maxRecDepth 20000 in
theorem ggX6_init_X5_init : GoodIn wsX6_init wsX5_init := goodIn_r _ [20, 21, 2, 3, 22, 23, 24, 25, 41, 42, 43] (by decide +kernel) (by decide +kernel)
set_option maxRecDepth 20000 in
theorem gX6_init_X5_init : GoodIn wsX6_init (wsX5_init) := ggX6_init_X5_init
set_option maxRecDepth 20000 in
theorem ggX6_init_Jx4a65c_init_da8c8 : GoodIn wsX6_init wsJx4a65c_init_da8c8 := goodIn_r _ [28, 29, 30, 31, 32, 33, 34, 35, 36, 37, 38, 39, 40, 2, 3, 52, 53, 54] (by decide +kernel) (by decide +kernel)
set_option maxRecDepth 20000 in
theorem gX6_init_Jx4a65c_init_da8c8 : GoodIn wsX6_init (wsJx4a65c_init_da8c8) := ggX6_init_Jx4a65c_init_da8c8
theorem dX6_init_0 : decode cX6_init 0 = .ok (.aload_n 0, 1) := by decide +kernel
theorem dX6_init_1 : decode cX6_init 1 = .ok (.invokespecial 3, 3) := by decide +kernel
theorem dX6_init_4 : decode cX6_init 4 = .ok (.aload_n 0, 1) := by decide +kernel
theorem dX6_init_5 : decode cX6_init 5 = .ok (.new 9, 3) := by decide +kernel
theorem dX6_init_8 : decode cX6_init 8 = .ok (.dup, 1) := by decide +kernel
theorem dX6_init_9 : decode cX6_init 9 = .ok (.invokespecial 11, 3) := by decide +kernel
theorem dX6_init_12 : decode cX6_init 12 = .ok (.putfield 12, 3) := by decide +kernel
theorem dX6_init_15 : decode cX6_init 15 = .ok (.aload_n 0, 1) := by decide +kernel
theorem dX6_init_16 : decode cX6_init 16 = .ok (.new 16, 3) := by decide +kernel
theorem dX6_init_19 : decode cX6_init 19 = .ok (.dup, 1) := by decide +kernel
theorem dX6_init_20 : decode cX6_init 20 = .ok (.invokespecial 18, 3) := by decide +kernel
theorem dX6_init_23 : decode cX6_init 23 = .ok (.putfield 19, 3) := by decide +kernel
theorem dX6_init_26 : decode cX6_init 26 = .ok (.aload_n 0, 1) := by decide +kernel
theorem dX6_init_27 : decode cX6_init 27 = .ok (.new 16, 3) := by decide +kernel
theorem dX6_init_30 : decode cX6_init 30 = .ok (.dup, 1) := by decide +kernel
theorem dX6_init_31 : decode cX6_init 31 = .ok (.invokespecial 18, 3) := by decide +kernel
theorem dX6_init_34 : decode cX6_init 34 = .ok (.putfield 23, 3) := by decide +kernel
theorem dX6_init_37 : decode cX6_init 37 = .ok (.aload_n 0, 1) := by decide +kernel
theorem dX6_init_38 : decode cX6_init 38 = .ok (.new 16, 3) := by decide +kernel
theorem dX6_init_41 : decode cX6_init 41 = .ok (.dup, 1) := by decide +kernel
theorem dX6_init_42 : decode cX6_init 42 = .ok (.invokespecial 18, 3) := by decide +kernel
theorem dX6_init_45 : decode cX6_init 45 = .ok (.putfield 26, 3) := by decide +kernel
theorem dX6_init_48 : decode cX6_init 48 = .ok (.aload_n 0, 1) := by decide +kernel
theorem dX6_init_49 : decode cX6_init 49 = .ok (.new 16, 3) := by decide +kernel
theorem dX6_init_52 : decode cX6_init 52 = .ok (.dup, 1) := by decide +kernel
theorem dX6_init_53 : decode cX6_init 53 = .ok (.invokespecial 18, 3) := by decide +kernel
theorem dX6_init_56 : decode cX6_init 56 = .ok (.putfield 29, 3) := by decide +kernel
theorem dX6_init_59 : decode cX6_init 59 = .ok (.aload_n 0, 1) := by decide +kernel
theorem dX6_init_60 : decode cX6_init 60 = .ok (.sipush 1000, 3) := by decide +kernel
theorem dX6_init_63 : decode cX6_init 63 = .ok (.putfield 32, 3) := by decide +kernel
theorem dX6_init_66 : decode cX6_init 66 = .ok (.aload_n 0, 1) := by decide +kernel
theorem dX6_init_67 : decode cX6_init 67 = .ok (.bipush 50, 2) := by decide +kernel
theorem dX6_init_69 : decode cX6_init 69 = .ok (.putfield 36, 3) := by decide +kernel
theorem dX6_init_72 : decode cX6_init 72 = .ok (.aload_n 0, 1) := by decide +kernel
theorem dX6_init_73 : decode cX6_init 73 = .ok (.iconst 4, 1) := by decide +kernel
theorem dX6_init_74 : decode cX6_init 74 = .ok (.putfield 39, 3) := by decide +kernel
theorem dX6_init_77 : decode cX6_init 77 = .ok (.return_, 1) := by decide +kernel
set_option maxRecDepth 20000 in
theorem ggX6_addTide_X6_checkTime : GoodIn wsX6_addTide wsX6_checkTime := goodIn_ca (goodIn_r _ [8, 9, 10, 7, 11, 12, 13] (by decide +kernel) (by decide +kernel)) (goodIn_sub (fun _ h => List.mem_cons_of_mem _ (List.mem_append_right _ h)) (by decide +kernel))
set_option maxRecDepth 20000 in
theorem gX6_addTide_X6_checkTime : GoodIn wsX6_addTide (va_wsS RX6 42 yX6_checkTime wsX6_checkTime) := goodIn_app (goodIn_of _ (by decide +kernel)) ggX6_addTide_X6_checkTime
set_option maxRecDepth 20000 in
theorem ggX6_addTide_X6_checkRange : GoodIn wsX6_addTide wsX6_checkRange := goodIn_ca (goodIn_r _ [11, 12, 13] (by decide +kernel) (by decide +kernel)) (goodIn_sub (fun _ h => List.mem_cons_of_mem _ (List.mem_append_right _ h)) (by decide +kernel))
set_option maxRecDepth 20000 in
theorem gX6_addTide_X6_checkRange : GoodIn wsX6_addTide (va_wsS RX6 46 yX6_checkRange wsX6_checkRange) := goodIn_app (goodIn_of _ (by decide +kernel)) ggX6_addTide_X6_checkRange
set_option maxRecDepth 20000 in
theorem ggX6_addTide_Jx4a65c_isEmpty_aae02 : GoodIn wsX6_addTide wsJx4a65c_isEmpty_aae02 := goodIn_r _ [18, 19, 47, 48, 49] (by decide +kernel) (by decide +kernel)
set_option maxRecDepth 20000 in
theorem gX6_addTide_Jx4a65c_isEmpty_aae02 : GoodIn wsX6_addTide (wsV RX6 50 RJx4a65c yJx4a65c_isEmpty_aae02 wsJx4a65c_isEmpty_aae02) := goodIn_app (goodIn_of _ (by decide +kernel)) ggX6_addTide_Jx4a65c_isEmpty_aae02
set_option maxRecDepth 20000 in
theorem ggX6_addTide_X5_hasPointAt : GoodIn wsX6_addTide wsX5_hasPointAt := goodIn_r _ [24, 25, 26, 27, 28, 23, 29, 30, 44, 45, 46] (by decide +kernel) (by decide +kernel)
set_option maxRecDepth 20000 in
theorem gX6_addTide_X5_hasPointAt : GoodIn wsX6_addTide (wsV RX6 57 RX5 yX5_hasPointAt wsX5_hasPointAt) := goodIn_app (goodIn_of _ (by decide +kernel)) ggX6_addTide_X5_hasPointAt
set_option maxRecDepth 20000 in
theorem ggX6_addTide_X5_insert : GoodIn wsX6_addTide wsX5_insert := goodIn_r _ [34, 30, 25, 35, 26, 27, 28, 23, 29, 44, 45, 46] (by decide +kernel) (by decide +kernel)
set_option maxRecDepth 20000 in
theorem gX6_addTide_X5_insert : GoodIn wsX6_addTide (wsV RX6 68 RX5 yX5_insert wsX5_insert) := goodIn_app (goodIn_of _ (by decide +kernel)) ggX6_addTide_X5_insert
theorem dX6_addTide_0 : decode cX6_addTide 0 = .ok (.iload_n 1, 1) := by decide +kernel
theorem dX6_addTide_1 : decode cX6_addTide 1 = .ok (.invokestatic 42, 3) := by decide +kernel
theorem dX6_addTide_4 : decode cX6_addTide 4 = .ok (.iload_n 2, 1) := by decide +kernel
theorem dX6_addTide_5 : decode cX6_addTide 5 = .ok (.sipush (-300), 3) := by decide +kernel
theorem dX6_addTide_8 : decode cX6_addTide 8 = .ok (.sipush 900, 3) := by decide +kernel
theorem dX6_addTide_11 : decode cX6_addTide 11 = .ok (.invokestatic 46, 3) := by decide +kernel
theorem dX6_addTide_14 : decode cX6_addTide 14 = .ok (.aload_n 0, 1) := by decide +kernel
theorem dX6_addTide_15 : decode cX6_addTide 15 = .ok (.getfield 29, 3) := by decide +kernel
theorem dX6_addTide_18 : decode cX6_addTide 18 = .ok (.invokevirtual 50, 3) := by decide +kernel
theorem dX6_addTide_21 : decode cX6_addTide 21 = .ok (.ifCond .eq 26, 3) := by decide +kernel
theorem dX6_addTide_24 : decode cX6_addTide 24 = .ok (.aload_n 0, 1) := by decide +kernel
theorem dX6_addTide_25 : decode cX6_addTide 25 = .ok (.getfield 12, 3) := by decide +kernel
theorem dX6_addTide_28 : decode cX6_addTide 28 = .ok (.getfield 54, 3) := by decide +kernel
theorem dX6_addTide_31 : decode cX6_addTide 31 = .ok (.bipush 30, 2) := by decide +kernel
theorem dX6_addTide_33 : decode cX6_addTide 33 = .ok (.if_icmp .ge 14, 3) := by decide +kernel
theorem dX6_addTide_36 : decode cX6_addTide 36 = .ok (.aload_n 0, 1) := by decide +kernel
theorem dX6_addTide_37 : decode cX6_addTide 37 = .ok (.getfield 12, 3) := by decide +kernel
theorem dX6_addTide_40 : decode cX6_addTide 40 = .ok (.iload_n 1, 1) := by decide +kernel
theorem dX6_addTide_41 : decode cX6_addTide 41 = .ok (.invokevirtual 57, 3) := by decide +kernel
theorem dX6_addTide_44 : decode cX6_addTide 44 = .ok (.ifCond .eq 13, 3) := by decide +kernel
theorem dX6_addTide_47 : decode cX6_addTide 47 = .ok (.new 61, 3) := by decide +kernel
theorem dX6_addTide_50 : decode cX6_addTide 50 = .ok (.dup, 1) := by decide +kernel
theorem dX6_addTide_51 : decode cX6_addTide 51 = .ok (.ldc 63, 2) := by decide +kernel
theorem dX6_addTide_53 : decode cX6_addTide 53 = .ok (.invokespecial 65, 3) := by decide +kernel
theorem dX6_addTide_56 : decode cX6_addTide 56 = .ok (.athrow, 1) := by decide +kernel
theorem dX6_addTide_57 : decode cX6_addTide 57 = .ok (.aload_n 0, 1) := by decide +kernel
theorem dX6_addTide_58 : decode cX6_addTide 58 = .ok (.getfield 12, 3) := by decide +kernel
theorem dX6_addTide_61 : decode cX6_addTide 61 = .ok (.iload_n 1, 1) := by decide +kernel
theorem dX6_addTide_62 : decode cX6_addTide 62 = .ok (.iload_n 2, 1) := by decide +kernel
theorem dX6_addTide_63 : decode cX6_addTide 63 = .ok (.invokevirtual 68, 3) := by decide +kernel
theorem dX6_addTide_66 : decode cX6_addTide 66 = .ok (.aload_n 0, 1) := by decide +kernel
theorem dX6_addTide_67 : decode cX6_addTide 67 = .ok (.getfield 12, 3) := by decide +kernel
theorem dX6_addTide_70 : decode cX6_addTide 70 = .ok (.getfield 54, 3) := by decide +kernel
theorem dX6_addTide_73 : decode cX6_addTide 73 = .ok (.ireturn, 1) := by decide +kernel
set_option maxRecDepth 20000 in
theorem ggX6_setWater_X6_checkRange : GoodIn wsX6_setWater wsX6_checkRange := goodIn_ca (goodIn_r _ [6, 7, 8] (by decide +kernel) (by decide +kernel)) (goodIn_sub (fun _ h => List.mem_cons_of_mem _ (List.mem_append_right _ h)) (by decide +kernel))
set_option maxRecDepth 20000 in
theorem gX6_setWater_X6_checkRange : GoodIn wsX6_setWater (va_wsS RX6 46 yX6_checkRange wsX6_checkRange) := goodIn_app (goodIn_of _ (by decide +kernel)) ggX6_setWater_X6_checkRange
theorem dX6_setWater_0 : decode cX6_setWater 0 = .ok (.iload_n 1, 1) := by decide +kernel
theorem dX6_setWater_1 : decode cX6_setWater 1 = .ok (.sipush 300, 3) := by decide +kernel
theorem dX6_setWater_4 : decode cX6_setWater 4 = .ok (.sipush 2500, 3) := by decide +kernel
theorem dX6_setWater_7 : decode cX6_setWater 7 = .ok (.invokestatic 46, 3) := by decide +kernel
theorem dX6_setWater_10 : decode cX6_setWater 10 = .ok (.iload_n 2, 1) := by decide +kernel
theorem dX6_setWater_11 : decode cX6_setWater 11 = .ok (.iconst 0, 1) := by decide +kernel
theorem dX6_setWater_12 : decode cX6_setWater 12 = .ok (.sipush 500, 3) := by decide +kernel
theorem dX6_setWater_15 : decode cX6_setWater 15 = .ok (.invokestatic 46, 3) := by decide +kernel
theorem dX6_setWater_18 : decode cX6_setWater 18 = .ok (.aload_n 0, 1) := by decide +kernel
theorem dX6_setWater_19 : decode cX6_setWater 19 = .ok (.getfield 32, 3) := by decide +kernel
theorem dX6_setWater_22 : decode cX6_setWater 22 = .ok (.istore_n 3, 1) := by decide +kernel
theorem dX6_setWater_23 : decode cX6_setWater 23 = .ok (.aload_n 0, 1) := by decide +kernel
theorem dX6_setWater_24 : decode cX6_setWater 24 = .ok (.iload_n 1, 1) := by decide +kernel
theorem dX6_setWater_25 : decode cX6_setWater 25 = .ok (.putfield 32, 3) := by decide +kernel
theorem dX6_setWater_28 : decode cX6_setWater 28 = .ok (.aload_n 0, 1) := by decide +kernel
theorem dX6_setWater_29 : decode cX6_setWater 29 = .ok (.iload_n 2, 1) := by decide +kernel
