theorem dJx4a65c_grow_d5877_2 : decode cJx4a65c_grow_d5877 2 = .ok (.getfield 48, 3) := by decide +kernel
theorem dJx4a65c_grow_d5877_5 : decode cJx4a65c_grow_d5877 5 = .ok (.iconst 1, 1) := by decide +kernel
theorem dJx4a65c_grow_d5877_6 : decode cJx4a65c_grow_d5877 6 = .ok (.iadd, 1) := by decide +kernel
theorem dJx4a65c_grow_d5877_7 : decode cJx4a65c_grow_d5877 7 = .ok (.invokevirtual 69, 3) := by decide +kernel
theorem dJx4a65c_grow_d5877_10 : decode cJx4a65c_grow_d5877 10 = .ok (.areturn, 1) := by decide +kernel
theorem dJx4a65c_size_8abf5_0 : decode cJx4a65c_size_8abf5 0 = .ok (.aload_n 0, 1) := by decide +kernel
theorem dJx4a65c_size_8abf5_1 : decode cJx4a65c_size_8abf5 1 = .ok (.getfield 48, 3) := by decide +kernel
theorem dJx4a65c_size_8abf5_4 : decode cJx4a65c_size_8abf5 4 = .ok (.ireturn, 1) := by decide +kernel
theorem dJx4a65c_isEmpty_aae02_0 : decode cJx4a65c_isEmpty_aae02 0 = .ok (.aload_n 0, 1) := by decide +kernel
theorem dJx4a65c_isEmpty_aae02_1 : decode cJx4a65c_isEmpty_aae02 1 = .ok (.getfield 48, 3) := by decide +kernel
theorem dJx4a65c_isEmpty_aae02_4 : decode cJx4a65c_isEmpty_aae02 4 = .ok (.ifCond .ne 7, 3) := by decide +kernel
theorem dJx4a65c_isEmpty_aae02_7 : decode cJx4a65c_isEmpty_aae02 7 = .ok (.iconst 1, 1) := by decide +kernel
theorem dJx4a65c_isEmpty_aae02_8 : decode cJx4a65c_isEmpty_aae02 8 = .ok (.goto 4, 3) := by decide +kernel
theorem dJx4a65c_isEmpty_aae02_11 : decode cJx4a65c_isEmpty_aae02 11 = .ok (.iconst 0, 1) := by decide +kernel
theorem dJx4a65c_isEmpty_aae02_12 : decode cJx4a65c_isEmpty_aae02 12 = .ok (.ireturn, 1) := by decide +kernel
theorem dJx4a65c_elementData_915e3_0 : decode cJx4a65c_elementData_915e3 0 = .ok (.aload_n 0, 1) := by decide +kernel
theorem dJx4a65c_elementData_915e3_1 : decode cJx4a65c_elementData_915e3 1 = .ok (.getfield 9, 3) := by decide +kernel
theorem dJx4a65c_elementData_915e3_4 : decode cJx4a65c_elementData_915e3 4 = .ok (.iload_n 1, 1) := by decide +kernel
theorem dJx4a65c_elementData_915e3_5 : decode cJx4a65c_elementData_915e3 5 = .ok (.aaload, 1) := by decide +kernel
theorem dJx4a65c_elementData_915e3_6 : decode cJx4a65c_elementData_915e3 6 = .ok (.areturn, 1) := by decide +kernel
set_option maxRecDepth 20000 in
theorem ggJx4a65c_get_915e3_J15_checkIndex_7cf53 : GoodIn wsJx4a65c_get_915e3 wsJ15_checkIndex_7cf53 := goodIn_r _ [5, 6, 7, 8, 9] (by decide +kernel) (by decide +kernel)
set_option maxRecDepth 20000 in
theorem gJx4a65c_get_915e3_J15_checkIndex_7cf53 : GoodIn wsJx4a65c_get_915e3 (va_wsS RJx4a65c 118 yJ15_checkIndex_7cf53 wsJ15_checkIndex_7cf53) := goodIn_app (goodIn_of _ (by decide +kernel)) ggJx4a65c_get_915e3_J15_checkIndex_7cf53
set_option maxRecDepth 20000 in
theorem ggJx4a65c_get_915e3_Jx4a65c_elementData_915e3 : GoodIn wsJx4a65c_get_915e3 wsJx4a65c_elementData_915e3 := goodIn_r _ [14, 15, 16, 17, 18] (by decide +kernel) (by decide +kernel)
set_option maxRecDepth 20000 in
theorem gJx4a65c_get_915e3_Jx4a65c_elementData_915e3 : GoodIn wsJx4a65c_get_915e3 (wsV RJx4a65c 123 RJx4a65c yJx4a65c_elementData_915e3 wsJx4a65c_elementData_915e3) := goodIn_app (goodIn_of _ (by decide +kernel)) ggJx4a65c_get_915e3_Jx4a65c_elementData_915e3
theorem dJx4a65c_get_915e3_0 : decode cJx4a65c_get_915e3 0 = .ok (.iload_n 1, 1) := by decide +kernel
theorem dJx4a65c_get_915e3_1 : decode cJx4a65c_get_915e3 1 = .ok (.aload_n 0, 1) := by decide +kernel
theorem dJx4a65c_get_915e3_2 : decode cJx4a65c_get_915e3 2 = .ok (.getfield 48, 3) := by decide +kernel
theorem dJx4a65c_get_915e3_5 : decode cJx4a65c_get_915e3 5 = .ok (.invokestatic 118, 3) := by decide +kernel
theorem dJx4a65c_get_915e3_8 : decode cJx4a65c_get_915e3 8 = .ok (.pop, 1) := by decide +kernel
theorem dJx4a65c_get_915e3_9 : decode cJx4a65c_get_915e3 9 = .ok (.aload_n 0, 1) := by decide +kernel
theorem dJx4a65c_get_915e3_10 : decode cJx4a65c_get_915e3 10 = .ok (.iload_n 1, 1) := by decide +kernel
theorem dJx4a65c_get_915e3_11 : decode cJx4a65c_get_915e3 11 = .ok (.invokevirtual 123, 3) := by decide +kernel
theorem dJx4a65c_get_915e3_14 : decode cJx4a65c_get_915e3 14 = .ok (.areturn, 1) := by decide +kernel
set_option maxRecDepth 20000 in
theorem ggJx4a65c_add_72be8_Jx4a65c_grow_d5877 : GoodIn wsJx4a65c_add_72be8 wsJx4a65c_grow_d5877 := goodIn_r _ [6, 1, 7, 8, 9, 5, 10, 11, 12, 13, 14, 15, 16, 17, 18, 19, 20, 21, 22, 23, 24, 25, 26, 27, 28, 29, 30, 31, 32, 33, 34, 35, 36, 37, 38, 39, 40, 41, 42, 43, 44, 45, 46, 47, 48, 49] (by decide +kernel) (by decide +kernel)
set_option maxRecDepth 20000 in
theorem gJx4a65c_add_72be8_Jx4a65c_grow_d5877 : GoodIn wsJx4a65c_add_72be8 (wsV RJx4a65c 129 RJx4a65c yJx4a65c_grow_d5877 wsJx4a65c_grow_d5877) := goodIn_app (goodIn_of _ (by decide +kernel)) ggJx4a65c_add_72be8_Jx4a65c_grow_d5877
theorem dJx4a65c_add_72be8_0 : decode cJx4a65c_add_72be8 0 = .ok (.iload_n 3, 1) := by decide +kernel
theorem dJx4a65c_add_72be8_1 : decode cJx4a65c_add_72be8 1 = .ok (.aload_n 2, 1) := by decide +kernel
theorem dJx4a65c_add_72be8_2 : decode cJx4a65c_add_72be8 2 = .ok (.arraylength, 1) := by decide +kernel
theorem dJx4a65c_add_72be8_3 : decode cJx4a65c_add_72be8 3 = .ok (.if_icmp .ne 8, 3) := by decide +kernel
theorem dJx4a65c_add_72be8_6 : decode cJx4a65c_add_72be8 6 = .ok (.aload_n 0, 1) := by decide +kernel
theorem dJx4a65c_add_72be8_7 : decode cJx4a65c_add_72be8 7 = .ok (.invokevirtual 129, 3) := by decide +kernel
theorem dJx4a65c_add_72be8_10 : decode cJx4a65c_add_72be8 10 = .ok (.astore_n 2, 1) := by decide +kernel
theorem dJx4a65c_add_72be8_11 : decode cJx4a65c_add_72be8 11 = .ok (.aload_n 2, 1) := by decide +kernel
theorem dJx4a65c_add_72be8_12 : decode cJx4a65c_add_72be8 12 = .ok (.iload_n 3, 1) := by decide +kernel
theorem dJx4a65c_add_72be8_13 : decode cJx4a65c_add_72be8 13 = .ok (.aload_n 1, 1) := by decide +kernel
theorem dJx4a65c_add_72be8_14 : decode cJx4a65c_add_72be8 14 = .ok (.aastore, 1) := by decide +kernel
theorem dJx4a65c_add_72be8_15 : decode cJx4a65c_add_72be8 15 = .ok (.aload_n 0, 1) := by decide +kernel
theorem dJx4a65c_add_72be8_16 : decode cJx4a65c_add_72be8 16 = .ok (.iload_n 3, 1) := by decide +kernel
theorem dJx4a65c_add_72be8_17 : decode cJx4a65c_add_72be8 17 = .ok (.iconst 1, 1) := by decide +kernel
theorem dJx4a65c_add_72be8_18 : decode cJx4a65c_add_72be8 18 = .ok (.iadd, 1) := by decide +kernel
theorem dJx4a65c_add_72be8_19 : decode cJx4a65c_add_72be8 19 = .ok (.putfield 48, 3) := by decide +kernel
theorem dJx4a65c_add_72be8_22 : decode cJx4a65c_add_72be8 22 = .ok (.return_, 1) := by decide +kernel
set_option maxRecDepth 20000 in
theorem ggJx4a65c_add_9ea2d_Jx4a65c_add_72be8 : GoodIn wsJx4a65c_add_9ea2d wsJx4a65c_add_72be8 := goodIn_r _ [9, 4, 10, 11, 12, 8, 13, 14, 15, 16, 17, 3, 18, 19, 20, 21, 22, 23, 24, 25, 26, 27, 28, 29, 30, 31, 32, 33, 34, 35, 36, 37, 38, 39, 40, 41, 42, 43, 44, 45, 46, 47, 48, 49, 50, 51, 52, 53, 54, 55] (by decide +kernel) (by decide +kernel)
set_option maxRecDepth 20000 in
theorem gJx4a65c_add_9ea2d_Jx4a65c_add_72be8 : GoodIn wsJx4a65c_add_9ea2d (wsV RJx4a65c 131 RJx4a65c yJx4a65c_add_72be8 wsJx4a65c_add_72be8) := goodIn_app (goodIn_of _ (by decide +kernel)) ggJx4a65c_add_9ea2d_Jx4a65c_add_72be8
theorem dJx4a65c_add_9ea2d_0 : decode cJx4a65c_add_9ea2d 0 = .ok (.aload_n 0, 1) := by decide +kernel
theorem dJx4a65c_add_9ea2d_1 : decode cJx4a65c_add_9ea2d 1 = .ok (.dup, 1) := by decide +kernel
theorem dJx4a65c_add_9ea2d_2 : decode cJx4a65c_add_9ea2d 2 = .ok (.getfield 63, 3) := by decide +kernel
theorem dJx4a65c_add_9ea2d_5 : decode cJx4a65c_add_9ea2d 5 = .ok (.iconst 1, 1) := by decide +kernel
theorem dJx4a65c_add_9ea2d_6 : decode cJx4a65c_add_9ea2d 6 = .ok (.iadd, 1) := by decide +kernel
theorem dJx4a65c_add_9ea2d_7 : decode cJx4a65c_add_9ea2d 7 = .ok (.putfield 63, 3) := by decide +kernel
theorem dJx4a65c_add_9ea2d_10 : decode cJx4a65c_add_9ea2d 10 = .ok (.aload_n 0, 1) := by decide +kernel
theorem dJx4a65c_add_9ea2d_11 : decode cJx4a65c_add_9ea2d 11 = .ok (.aload_n 1, 1) := by decide +kernel
theorem dJx4a65c_add_9ea2d_12 : decode cJx4a65c_add_9ea2d 12 = .ok (.aload_n 0, 1) := by decide +kernel
theorem dJx4a65c_add_9ea2d_13 : decode cJx4a65c_add_9ea2d 13 = .ok (.getfield 9, 3) := by decide +kernel
theorem dJx4a65c_add_9ea2d_16 : decode cJx4a65c_add_9ea2d 16 = .ok (.aload_n 0, 1) := by decide +kernel
theorem dJx4a65c_add_9ea2d_17 : decode cJx4a65c_add_9ea2d 17 = .ok (.getfield 48, 3) := by decide +kernel
theorem dJx4a65c_add_9ea2d_20 : decode cJx4a65c_add_9ea2d 20 = .ok (.invokevirtual 131, 3) := by decide +kernel
theorem dJx4a65c_add_9ea2d_23 : decode cJx4a65c_add_9ea2d 23 = .ok (.iconst 1, 1) := by decide +kernel
theorem dJx4a65c_add_9ea2d_24 : decode cJx4a65c_add_9ea2d 24 = .ok (.ireturn, 1) := by decide +kernel
set_option maxRecDepth 20000 in
theorem ggJ7_copyOf_1904c_J7_copyOf_6403c : GoodIn wsJ7_copyOf_1904c wsJ7_copyOf_6403c := goodIn_r _ [8, 9, 10, 11, 12, 13, 14, 15, 16, 17, 18] (by decide +kernel) (by decide +kernel)
set_option maxRecDepth 20000 in
theorem gJ7_copyOf_1904c_J7_copyOf_6403c : GoodIn wsJ7_copyOf_1904c (va_wsS RJ7 300 yJ7_copyOf_6403c wsJ7_copyOf_6403c) := goodIn_app (goodIn_of _ (by decide +kernel)) ggJ7_copyOf_1904c_J7_copyOf_6403c
theorem dJ7_copyOf_1904c_0 : decode cJ7_copyOf_1904c 0 = .ok (.aload_n 0, 1) := by decide +kernel
theorem dJ7_copyOf_1904c_1 : decode cJ7_copyOf_1904c 1 = .ok (.iload_n 1, 1) := by decide +kernel
theorem dJ7_copyOf_1904c_2 : decode cJ7_copyOf_1904c 2 = .ok (.aload_n 0, 1) := by decide +kernel
theorem dJ7_copyOf_1904c_3 : decode cJ7_copyOf_1904c 3 = .ok (.invokevirtual 86, 3) := by decide +kernel
theorem dJ7_copyOf_1904c_6 : decode cJ7_copyOf_1904c 6 = .ok (.invokestatic 300, 3) := by decide +kernel
theorem dJ7_copyOf_1904c_9 : decode cJ7_copyOf_1904c 9 = .ok (.areturn, 1) := by decide +kernel
theorem dJ7_copyOf_6403c_0 : decode cJ7_copyOf_6403c 0 = .ok (.aload_n 2, 1) := by decide +kernel
theorem dJ7_copyOf_6403c_1 : decode cJ7_copyOf_6403c 1 = .ok (.ldc 110, 2) := by decide +kernel
theorem dJ7_copyOf_6403c_3 : decode cJ7_copyOf_6403c 3 = .ok (.if_acmp .ne 10, 3) := by decide +kernel
theorem dJ7_copyOf_6403c_6 : decode cJ7_copyOf_6403c 6 = .ok (.iload_n 1, 1) := by decide +kernel
theorem dJ7_copyOf_6403c_7 : decode cJ7_copyOf_6403c 7 = .ok (.anewarray 2, 3) := by decide +kernel
theorem dJ7_copyOf_6403c_10 : decode cJ7_copyOf_6403c 10 = .ok (.goto 14, 3) := by decide +kernel
theorem dJ7_copyOf_6403c_13 : decode cJ7_copyOf_6403c 13 = .ok (.aload_n 2, 1) := by decide +kernel
theorem dJ7_copyOf_6403c_14 : decode cJ7_copyOf_6403c 14 = .ok (.invokevirtual 90, 3) := by decide +kernel
theorem dJ7_copyOf_6403c_17 : decode cJ7_copyOf_6403c 17 = .ok (.iload_n 1, 1) := by decide +kernel
theorem dJ7_copyOf_6403c_18 : decode cJ7_copyOf_6403c 18 = .ok (.invokestatic 95, 3) := by decide +kernel
theorem dJ7_copyOf_6403c_21 : decode cJ7_copyOf_6403c 21 = .ok (.checkcast 110, 3) := by decide +kernel
theorem dJ7_copyOf_6403c_24 : decode cJ7_copyOf_6403c 24 = .ok (.astore_n 3, 1) := by decide +kernel
theorem dJ7_copyOf_6403c_25 : decode cJ7_copyOf_6403c 25 = .ok (.aload_n 0, 1) := by decide +kernel
theorem dJ7_copyOf_6403c_26 : decode cJ7_copyOf_6403c 26 = .ok (.iconst 0, 1) := by decide +kernel
theorem dJ7_copyOf_6403c_27 : decode cJ7_copyOf_6403c 27 = .ok (.aload_n 3, 1) := by decide +kernel
theorem dJ7_copyOf_6403c_28 : decode cJ7_copyOf_6403c 28 = .ok (.iconst 0, 1) := by decide +kernel
theorem dJ7_copyOf_6403c_29 : decode cJ7_copyOf_6403c 29 = .ok (.aload_n 0, 1) := by decide +kernel
theorem dJ7_copyOf_6403c_30 : decode cJ7_copyOf_6403c 30 = .ok (.arraylength, 1) := by decide +kernel
theorem dJ7_copyOf_6403c_31 : decode cJ7_copyOf_6403c 31 = .ok (.iload_n 1, 1) := by decide +kernel
theorem dJ7_copyOf_6403c_32 : decode cJ7_copyOf_6403c 32 = .ok (.invokestatic 304, 3) := by decide +kernel
theorem dJ7_copyOf_6403c_35 : decode cJ7_copyOf_6403c 35 = .ok (.invokestatic 150, 3) := by decide +kernel
theorem dJ7_copyOf_6403c_38 : decode cJ7_copyOf_6403c 38 = .ok (.aload_n 3, 1) := by decide +kernel
theorem dJ7_copyOf_6403c_39 : decode cJ7_copyOf_6403c 39 = .ok (.areturn, 1) := by decide +kernel
set_option maxRecDepth 20000 in
theorem ggJ15_checkIndex_7cf53_J3_checkIndex_8e157 : GoodIn wsJ15_checkIndex_7cf53 wsJ3_checkIndex_8e157 := goodIn_r _ [4] (by decide +kernel) (by decide +kernel)
set_option maxRecDepth 20000 in
theorem gJ15_checkIndex_7cf53_J3_checkIndex_8e157 : GoodIn wsJ15_checkIndex_7cf53 (va_wsS RJ15 105 yJ3_checkIndex_8e157 wsJ3_checkIndex_8e157) := goodIn_app (goodIn_of _ (by decide +kernel)) ggJ15_checkIndex_7cf53_J3_checkIndex_8e157
theorem dJ15_checkIndex_7cf53_0 : decode cJ15_checkIndex_7cf53 0 = .ok (.iload_n 0, 1) := by decide +kernel
theorem dJ15_checkIndex_7cf53_1 : decode cJ15_checkIndex_7cf53 1 = .ok (.iload_n 1, 1) := by decide +kernel
theorem dJ15_checkIndex_7cf53_2 : decode cJ15_checkIndex_7cf53 2 = .ok (.aconst_null, 1) := by decide +kernel
theorem dJ15_checkIndex_7cf53_3 : decode cJ15_checkIndex_7cf53 3 = .ok (.invokestatic 105, 3) := by decide +kernel
theorem dJ15_checkIndex_7cf53_6 : decode cJ15_checkIndex_7cf53 6 = .ok (.ireturn, 1) := by decide +kernel
set_option maxRecDepth 20000 in
theorem ggJ8_newLength_cabcc_J8_hugeLength_7cf53 : GoodIn wsJ8_newLength_cabcc wsJ8_hugeLength_7cf53 := goodIn_r _ [9, 5] (by decide +kernel) (by decide +kernel)
set_option maxRecDepth 20000 in
theorem gJ8_newLength_cabcc_J8_hugeLength_7cf53 : GoodIn wsJ8_newLength_cabcc (va_wsS RJ8 201 yJ8_hugeLength_7cf53 wsJ8_hugeLength_7cf53) := goodIn_app (goodIn_of _ (by decide +kernel)) ggJ8_newLength_cabcc_J8_hugeLength_7cf53
theorem dJ8_newLength_cabcc_0 : decode cJ8_newLength_cabcc 0 = .ok (.iload_n 0, 1) := by decide +kernel
theorem dJ8_newLength_cabcc_1 : decode cJ8_newLength_cabcc 1 = .ok (.iload_n 1, 1) := by decide +kernel
theorem dJ8_newLength_cabcc_2 : decode cJ8_newLength_cabcc 2 = .ok (.iload_n 2, 1) := by decide +kernel
theorem dJ8_newLength_cabcc_3 : decode cJ8_newLength_cabcc 3 = .ok (.invokestatic 194, 3) := by decide +kernel
theorem dJ8_newLength_cabcc_6 : decode cJ8_newLength_cabcc 6 = .ok (.iadd, 1) := by decide +kernel
theorem dJ8_newLength_cabcc_7 : decode cJ8_newLength_cabcc 7 = .ok (.istore_n 3, 1) := by decide +kernel
theorem dJ8_newLength_cabcc_8 : decode cJ8_newLength_cabcc 8 = .ok (.iconst 0, 1) := by decide +kernel
theorem dJ8_newLength_cabcc_9 : decode cJ8_newLength_cabcc 9 = .ok (.iload_n 3, 1) := by decide +kernel
theorem dJ8_newLength_cabcc_10 : decode cJ8_newLength_cabcc 10 = .ok (.if_icmp .ge 11, 3) := by decide +kernel
theorem dJ8_newLength_cabcc_13 : decode cJ8_newLength_cabcc 13 = .ok (.iload_n 3, 1) := by decide +kernel
theorem dJ8_newLength_cabcc_14 : decode cJ8_newLength_cabcc 14 = .ok (.ldc 200, 2) := by decide +kernel
theorem dJ8_newLength_cabcc_16 : decode cJ8_newLength_cabcc 16 = .ok (.if_icmp .gt 5, 3) := by decide +kernel
theorem dJ8_newLength_cabcc_19 : decode cJ8_newLength_cabcc 19 = .ok (.iload_n 3, 1) := by decide +kernel
theorem dJ8_newLength_cabcc_20 : decode cJ8_newLength_cabcc 20 = .ok (.ireturn, 1) := by decide +kernel
theorem dJ8_newLength_cabcc_21 : decode cJ8_newLength_cabcc 21 = .ok (.iload_n 0, 1) := by decide +kernel
theorem dJ8_newLength_cabcc_22 : decode cJ8_newLength_cabcc 22 = .ok (.iload_n 1, 1) := by decide +kernel
theorem dJ8_newLength_cabcc_23 : decode cJ8_newLength_cabcc 23 = .ok (.invokestatic 201, 3) := by decide +kernel
theorem dJ8_newLength_cabcc_26 : decode cJ8_newLength_cabcc 26 = .ok (.ireturn, 1) := by decide +kernel
theorem dJ8_hugeLength_7cf53_0 : decode cJ8_hugeLength_7cf53 0 = .ok (.iload_n 0, 1) := by decide +kernel
theorem dJ8_hugeLength_7cf53_1 : decode cJ8_hugeLength_7cf53 1 = .ok (.iload_n 1, 1) := by decide +kernel
theorem dJ8_hugeLength_7cf53_2 : decode cJ8_hugeLength_7cf53 2 = .ok (.iadd, 1) := by decide +kernel
theorem dJ8_hugeLength_7cf53_3 : decode cJ8_hugeLength_7cf53 3 = .ok (.istore_n 2, 1) := by decide +kernel
theorem dJ8_hugeLength_7cf53_4 : decode cJ8_hugeLength_7cf53 4 = .ok (.iload_n 2, 1) := by decide +kernel
theorem dJ8_hugeLength_7cf53_5 : decode cJ8_hugeLength_7cf53 5 = .ok (.ifCond .ge 44, 3) := by decide +kernel
theorem dJ8_hugeLength_7cf53_8 : decode cJ8_hugeLength_7cf53 8 = .ok (.new 204, 3) := by decide +kernel
theorem dJ8_hugeLength_7cf53_11 : decode cJ8_hugeLength_7cf53 11 = .ok (.dup, 1) := by decide +kernel
theorem dJ8_hugeLength_7cf53_12 : decode cJ8_hugeLength_7cf53 12 = .ok (.new 89, 3) := by decide +kernel
theorem dJ8_hugeLength_7cf53_15 : decode cJ8_hugeLength_7cf53 15 = .ok (.dup, 1) := by decide +kernel
theorem dJ8_hugeLength_7cf53_16 : decode cJ8_hugeLength_7cf53 16 = .ok (.invokespecial 91, 3) := by decide +kernel
theorem dJ8_hugeLength_7cf53_19 : decode cJ8_hugeLength_7cf53 19 = .ok (.ldc 206, 2) := by decide +kernel
theorem dJ8_hugeLength_7cf53_21 : decode cJ8_hugeLength_7cf53 21 = .ok (.invokevirtual 94, 3) := by decide +kernel
theorem dJ8_hugeLength_7cf53_24 : decode cJ8_hugeLength_7cf53 24 = .ok (.iload_n 0, 1) := by decide +kernel
theorem dJ8_hugeLength_7cf53_25 : decode cJ8_hugeLength_7cf53 25 = .ok (.invokevirtual 98, 3) := by decide +kernel
theorem dJ8_hugeLength_7cf53_28 : decode cJ8_hugeLength_7cf53 28 = .ok (.ldc 208, 2) := by decide +kernel
theorem dJ8_hugeLength_7cf53_30 : decode cJ8_hugeLength_7cf53 30 = .ok (.invokevirtual 94, 3) := by decide +kernel
theorem dJ8_hugeLength_7cf53_33 : decode cJ8_hugeLength_7cf53 33 = .ok (.iload_n 1, 1) := by decide +kernel
theorem dJ8_hugeLength_7cf53_34 : decode cJ8_hugeLength_7cf53 34 = .ok (.invokevirtual 98, 3) := by decide +kernel
theorem dJ8_hugeLength_7cf53_37 : decode cJ8_hugeLength_7cf53 37 = .ok (.ldc 210, 2) := by decide +kernel
theorem dJ8_hugeLength_7cf53_39 : decode cJ8_hugeLength_7cf53 39 = .ok (.invokevirtual 94, 3) := by decide +kernel
theorem dJ8_hugeLength_7cf53_42 : decode cJ8_hugeLength_7cf53 42 = .ok (.invokevirtual 101, 3) := by decide +kernel
theorem dJ8_hugeLength_7cf53_45 : decode cJ8_hugeLength_7cf53 45 = .ok (.invokespecial 212, 3) := by decide +kernel
theorem dJ8_hugeLength_7cf53_48 : decode cJ8_hugeLength_7cf53 48 = .ok (.athrow, 1) := by decide +kernel
theorem dJ8_hugeLength_7cf53_49 : decode cJ8_hugeLength_7cf53 49 = .ok (.iload_n 2, 1) := by decide +kernel
theorem dJ8_hugeLength_7cf53_50 : decode cJ8_hugeLength_7cf53 50 = .ok (.ldc 200, 2) := by decide +kernel
theorem dJ8_hugeLength_7cf53_52 : decode cJ8_hugeLength_7cf53 52 = .ok (.if_icmp .gt 6, 3) := by decide +kernel
theorem dJ8_hugeLength_7cf53_55 : decode cJ8_hugeLength_7cf53 55 = .ok (.ldc 200, 2) := by decide +kernel
theorem dJ8_hugeLength_7cf53_57 : decode cJ8_hugeLength_7cf53 57 = .ok (.ireturn, 1) := by decide +kernel
theorem dJ8_hugeLength_7cf53_58 : decode cJ8_hugeLength_7cf53 58 = .ok (.iload_n 2, 1) := by decide +kernel
theorem dJ8_hugeLength_7cf53_59 : decode cJ8_hugeLength_7cf53 59 = .ok (.ireturn, 1) := by decide +kernel
theorem dJ3_checkIndex_8e157_0 : decode cJ3_checkIndex_8e157 0 = .ok (.iload_n 0, 1) := by decide +kernel
theorem dJ3_checkIndex_8e157_1 : decode cJ3_checkIndex_8e157 1 = .ok (.ifCond .lt 8, 3) := by decide +kernel
theorem dJ3_checkIndex_8e157_4 : decode cJ3_checkIndex_8e157 4 = .ok (.iload_n 0, 1) := by decide +kernel
theorem dJ3_checkIndex_8e157_5 : decode cJ3_checkIndex_8e157 5 = .ok (.iload_n 1, 1) := by decide +kernel
theorem dJ3_checkIndex_8e157_6 : decode cJ3_checkIndex_8e157 6 = .ok (.if_icmp .lt 10, 3) := by decide +kernel
theorem dJ3_checkIndex_8e157_9 : decode cJ3_checkIndex_8e157 9 = .ok (.aload_n 2, 1) := by decide +kernel
theorem dJ3_checkIndex_8e157_10 : decode cJ3_checkIndex_8e157 10 = .ok (.iload_n 0, 1) := by decide +kernel
theorem dJ3_checkIndex_8e157_11 : decode cJ3_checkIndex_8e157 11 = .ok (.iload_n 1, 1) := by decide +kernel
theorem dJ3_checkIndex_8e157_12 : decode cJ3_checkIndex_8e157 12 = .ok (.invokestatic 95, 3) := by decide +kernel
theorem dJ3_checkIndex_8e157_15 : decode cJ3_checkIndex_8e157 15 = .ok (.athrow, 1) := by decide +kernel
theorem dJ3_checkIndex_8e157_16 : decode cJ3_checkIndex_8e157 16 = .ok (.iload_n 0, 1) := by decide +kernel
theorem dJ3_checkIndex_8e157_17 : decode cJ3_checkIndex_8e157 17 = .ok (.ireturn, 1) := by decide +kernel
theorem dL_below_0 : decode cL_below 0 = .ok (.iload_n 0, 1) := by decide +kernel
theorem dL_below_1 : decode cL_below 1 = .ok (.ldc 7, 2) := by decide +kernel
theorem dL_below_3 : decode cL_below 3 = .ok (.iand, 1) := by decide +kernel
theorem dL_below_4 : decode cL_below 4 = .ok (.iload_n 1, 1) := by decide +kernel
theorem dL_below_5 : decode cL_below 5 = .ok (.irem, 1) := by decide +kernel
theorem dL_below_6 : decode cL_below 6 = .ok (.ireturn, 1) := by decide +kernel
theorem dL_cell_0 : decode cL_cell 0 = .ok (.iload_n 1, 1) := by decide +kernel
theorem dL_cell_1 : decode cL_cell 1 = .ok (.aload_n 0, 1) := by decide +kernel
theorem dL_cell_2 : decode cL_cell 2 = .ok (.arraylength, 1) := by decide +kernel
theorem dL_cell_3 : decode cL_cell 3 = .ok (.if_icmp .ge 9, 3) := by decide +kernel
theorem dL_cell_6 : decode cL_cell 6 = .ok (.aload_n 0, 1) := by decide +kernel
theorem dL_cell_7 : decode cL_cell 7 = .ok (.iload_n 1, 1) := by decide +kernel
theorem dL_cell_8 : decode cL_cell 8 = .ok (.iaload, 1) := by decide +kernel
theorem dL_cell_9 : decode cL_cell 9 = .ok (.goto 9, 3) := by decide +kernel
theorem dL_cell_12 : decode cL_cell 12 = .ok (.ldc 8, 2) := by decide +kernel
theorem dL_cell_14 : decode cL_cell 14 = .ok (.iload_n 1, 1) := by decide +kernel
theorem dL_cell_15 : decode cL_cell 15 = .ok (.iconst 3, 1) := by decide +kernel
theorem dL_cell_16 : decode cL_cell 16 = .ok (.iadd, 1) := by decide +kernel
theorem dL_cell_17 : decode cL_cell 17 = .ok (.imul, 1) := by decide +kernel
theorem dL_cell_18 : decode cL_cell 18 = .ok (.ireturn, 1) := by decide +kernel
set_option maxRecDepth 20000 in
theorem ggL_build_L_cell : GoodIn wsL_build wsL_cell := goodIn_r _ [5, 6] (by decide +kernel) (by decide +kernel)
set_option maxRecDepth 20000 in
theorem gL_build_L_cell : GoodIn wsL_build (va_wsS RL 9 yL_cell wsL_cell) := goodIn_app (goodIn_of _ (by decide +kernel)) ggL_build_L_cell
set_option maxRecDepth 20000 in
theorem ggL_build_L_below : GoodIn wsL_build wsL_below := goodIn_r _ [9, 10] (by decide +kernel) (by decide +kernel)
set_option maxRecDepth 20000 in
theorem gL_build_L_below : GoodIn wsL_build (va_wsS RL 15 yL_below wsL_below) := goodIn_app (goodIn_of _ (by decide +kernel)) ggL_build_L_below
set_option maxRecDepth 20000 in
theorem ggL_build_X6_addTide : GoodIn wsL_build wsX6_addTide := goodIn_ca (goodIn_ca (goodIn_r _ [15, 16, 17, 18, 19, 20, 21, 14, 22, 23, 24, 25, 26, 27, 28, 29, 30, 31, 32, 33, 34, 35, 36, 37, 38, 39, 40, 41, 42, 43, 44, 45, 46, 47, 48, 49, 177, 178, 179, 180, 181, 182, 183, 184, 185, 186, 187, 188, 189, 190] (by decide +kernel) (by decide +kernel)) (goodIn_sub (fun _ h => List.mem_cons_of_mem _ (List.mem_append_left _ (List.mem_append_left _ (List.mem_append_right _ h)))) (by decide +kernel))) (goodIn_sub (fun _ h => List.mem_cons_of_mem _ (List.mem_append_left _ (List.mem_append_right _ h))) (by decide +kernel))
set_option maxRecDepth 20000 in
theorem gL_build_X6_addTide : GoodIn wsL_build (wsV RL 19 RX6 yX6_addTide wsX6_addTide) := goodIn_app (goodIn_of _ (by decide +kernel)) ggL_build_X6_addTide
set_option maxRecDepth 20000 in
theorem ggL_build_X6_setWater : GoodIn wsL_build wsX6_setWater := goodIn_ca (goodIn_r _ [53, 54, 55, 23, 24, 14, 25, 26, 27, 177, 178, 179, 180, 181, 182, 183, 184] (by decide +kernel) (by decide +kernel)) (goodIn_sub (fun _ h => List.mem_cons_of_mem _ (List.mem_append_left _ (List.mem_append_right _ h))) (by decide +kernel))
set_option maxRecDepth 20000 in
theorem gL_build_X6_setWater : GoodIn wsL_build (wsV RL 24 RX6 yX6_setWater wsX6_setWater) := goodIn_app (goodIn_of _ (by decide +kernel)) ggL_build_X6_setWater
set_option maxRecDepth 20000 in
theorem ggL_build_X6_setTugs : GoodIn wsL_build wsX6_setTugs := goodIn_ca (goodIn_ca (goodIn_r _ [59, 16, 17, 18, 60, 23, 24, 14, 25, 26, 27, 28, 29, 30, 31, 32, 33, 177, 178, 179, 180, 181, 182, 183, 184, 188, 189, 190] (by decide +kernel) (by decide +kernel)) (goodIn_sub (fun _ h => List.mem_cons_of_mem _ (List.mem_append_left _ (List.mem_append_left _ (List.mem_append_right _ h)))) (by decide +kernel))) (goodIn_sub (fun _ h => List.mem_cons_of_mem _ (List.mem_append_left _ (List.mem_append_right _ h))) (by decide +kernel))
set_option maxRecDepth 20000 in
theorem gL_build_X6_setTugs : GoodIn wsL_build (wsV RL 27 RX6 yX6_setTugs wsX6_setTugs) := goodIn_app (goodIn_of _ (by decide +kernel)) ggL_build_X6_setTugs
set_option maxRecDepth 20000 in
theorem ggL_build_X6_addBerth : GoodIn wsL_build wsX6_addBerth := goodIn_ca (goodIn_ca (goodIn_r _ [64, 65, 66, 67, 68, 23, 24, 14, 25, 26, 27, 69, 70, 71, 31, 72, 33, 73, 74, 75, 16, 17, 76, 77, 78, 79, 80, 81, 82, 83, 84, 85, 86, 87, 88, 89, 90, 91, 92, 93, 94, 95, 96, 97, 98, 99, 100, 101, 102, 103, 104, 105, 106, 107, 108, 109, 110, 111, 112, 113, 114, 115, 116, 117, 118, 119, 120, 121, 122, 123, 124, 125, 126, 127, 128, 129, 130, 131, 132, 133, 134, 135, 136, 137, 138, 177, 178, 179, 180, 181, 182, 183, 184, 191, 192, 193, 188, 189, 190] (by decide +kernel) (by decide +kernel)) (goodIn_sub (fun _ h => List.mem_cons_of_mem _ (List.mem_append_left _ (List.mem_append_right _ h))) (by decide +kernel))) (goodIn_sub (fun _ h => List.mem_cons_of_mem _ (List.mem_append_left _ (List.mem_append_left _ (List.mem_append_right _ h)))) (by decide +kernel))
set_option maxRecDepth 20000 in
theorem gL_build_X6_addBerth : GoodIn wsL_build (wsV RL 31 RX6 yX6_addBerth wsX6_addBerth) := goodIn_app (goodIn_of _ (by decide +kernel)) ggL_build_X6_addBerth
set_option maxRecDepth 20000 in
theorem ggL_build_X6_addShip : GoodIn wsL_build wsX6_addShip := goodIn_ca (goodIn_ca (goodIn_r _ [142, 143, 144, 145, 146, 23, 24, 14, 25, 26, 27, 69, 70, 71, 31, 72, 33, 73, 74, 75, 16, 17, 147, 148, 149, 150, 80, 81, 151, 152, 153, 154, 85, 86, 87, 88, 89, 90, 91, 92, 93, 94, 95, 96, 97, 98, 99, 100, 101, 102, 103, 104, 105, 106, 107, 108, 109, 110, 111, 112, 113, 114, 115, 116, 117, 118, 119, 120, 121, 122, 123, 124, 125, 126, 127, 128, 129, 130, 131, 132, 133, 134, 135, 136, 137, 138, 177, 178, 179, 180, 181, 182, 183, 184, 194, 195, 196, 197, 188, 189, 190] (by decide +kernel) (by decide +kernel)) (goodIn_sub (fun _ h => List.mem_cons_of_mem _ (List.mem_append_left _ (List.mem_append_right _ h))) (by decide +kernel))) (goodIn_sub (fun _ h => List.mem_cons_of_mem _ (List.mem_append_left _ (List.mem_append_left _ (List.mem_append_right _ h)))) (by decide +kernel))
set_option maxRecDepth 20000 in
theorem gL_build_X6_addShip : GoodIn wsL_build (wsV RL 34 RX6 yX6_addShip wsX6_addShip) := goodIn_app (goodIn_of _ (by decide +kernel)) ggL_build_X6_addShip
set_option maxRecDepth 20000 in
theorem ggL_build_X6_addPilot : GoodIn wsL_build wsX6_addPilot := goodIn_ca (goodIn_ca (goodIn_r _ [158, 159, 160, 161, 162, 23, 24, 14, 25, 26, 27, 69, 70, 71, 31, 72, 33, 73, 74, 75, 16, 17, 163, 164, 165, 166, 80, 81, 167, 168, 169, 170, 85, 86, 87, 88, 89, 90, 91, 92, 93, 94, 95, 96, 97, 98, 99, 100, 101, 102, 103, 104, 105, 106, 107, 108, 109, 110, 111, 112, 113, 114, 115, 116, 117, 118, 119, 120, 121, 122, 123, 124, 125, 126, 127, 128, 129, 130, 131, 132, 133, 134, 135, 136, 137, 138, 177, 178, 179, 180, 181, 182, 183, 184, 198, 199, 200, 201, 188, 189, 190] (by decide +kernel) (by decide +kernel)) (goodIn_sub (fun _ h => List.mem_cons_of_mem _ (List.mem_append_left _ (List.mem_append_right _ h))) (by decide +kernel))) (goodIn_sub (fun _ h => List.mem_cons_of_mem _ (List.mem_append_left _ (List.mem_append_left _ (List.mem_append_right _ h)))) (by decide +kernel))
set_option maxRecDepth 20000 in
theorem gL_build_X6_addPilot : GoodIn wsL_build (wsV RL 37 RX6 yX6_addPilot wsX6_addPilot) := goodIn_app (goodIn_of _ (by decide +kernel)) ggL_build_X6_addPilot
set_option maxRecDepth 20000 in
theorem ggL_build_X6_count : GoodIn wsL_build wsX6_count := goodIn_ca (goodIn_r _ [174, 175, 176, 19, 65, 143, 159, 18, 69, 70, 71, 31, 72, 33, 177, 178, 179, 180, 181, 182, 183, 184, 185, 186, 187, 188, 189, 190] (by decide +kernel) (by decide +kernel)) (goodIn_sub (fun _ h => List.mem_cons_of_mem _ (List.mem_append_right _ h)) (by decide +kernel))
set_option maxRecDepth 20000 in
theorem gL_build_X6_count : GoodIn wsL_build (wsV RL 41 RX6 yX6_count wsX6_count) := goodIn_app (goodIn_of _ (by decide +kernel)) ggL_build_X6_count
theorem dL_build_0 : decode cL_build 0 = .ok (.bipush 7, 2) := by decide +kernel
theorem dL_build_2 : decode cL_build 2 = .ok (.newarray .int, 2) := by decide +kernel
theorem dL_build_4 : decode cL_build 4 = .ok (.dup, 1) := by decide +kernel
theorem dL_build_5 : decode cL_build 5 = .ok (.iconst 0, 1) := by decide +kernel
theorem dL_build_6 : decode cL_build 6 = .ok (.aload_n 1, 1) := by decide +kernel
theorem dL_build_7 : decode cL_build 7 = .ok (.iload_n 2, 1) := by decide +kernel
theorem dL_build_8 : decode cL_build 8 = .ok (.invokestatic 9, 3) := by decide +kernel
theorem dL_build_11 : decode cL_build 11 = .ok (.bipush 9, 2) := by decide +kernel
theorem dL_build_13 : decode cL_build 13 = .ok (.invokestatic 15, 3) := by decide +kernel
theorem dL_build_16 : decode cL_build 16 = .ok (.iastore, 1) := by decide +kernel
theorem dL_build_17 : decode cL_build 17 = .ok (.dup, 1) := by decide +kernel
theorem dL_build_18 : decode cL_build 18 = .ok (.iconst 1, 1) := by decide +kernel
theorem dL_build_19 : decode cL_build 19 = .ok (.iconst 1, 1) := by decide +kernel
theorem dL_build_20 : decode cL_build 20 = .ok (.aload_n 1, 1) := by decide +kernel
theorem dL_build_21 : decode cL_build 21 = .ok (.iload_n 2, 1) := by decide +kernel
theorem dL_build_22 : decode cL_build 22 = .ok (.invokestatic 9, 3) := by decide +kernel
theorem dL_build_25 : decode cL_build 25 = .ok (.iconst 4, 1) := by decide +kernel
theorem dL_build_26 : decode cL_build 26 = .ok (.ishr, 1) := by decide +kernel
theorem dL_build_27 : decode cL_build 27 = .ok (.iconst 3, 1) := by decide +kernel
theorem dL_build_28 : decode cL_build 28 = .ok (.invokestatic 15, 3) := by decide +kernel
theorem dL_build_31 : decode cL_build 31 = .ok (.iadd, 1) := by decide +kernel
theorem dL_build_32 : decode cL_build 32 = .ok (.iastore, 1) := by decide +kernel
theorem dL_build_33 : decode cL_build 33 = .ok (.dup, 1) := by decide +kernel
theorem dL_build_34 : decode cL_build 34 = .ok (.iconst 2, 1) := by decide +kernel
theorem dL_build_35 : decode cL_build 35 = .ok (.iconst 1, 1) := by decide +kernel
theorem dL_build_36 : decode cL_build 36 = .ok (.aload_n 1, 1) := by decide +kernel
theorem dL_build_37 : decode cL_build 37 = .ok (.iload_n 2, 1) := by decide +kernel
theorem dL_build_38 : decode cL_build 38 = .ok (.invokestatic 9, 3) := by decide +kernel
theorem dL_build_41 : decode cL_build 41 = .ok (.bipush 6, 2) := by decide +kernel
theorem dL_build_43 : decode cL_build 43 = .ok (.ishr, 1) := by decide +kernel
theorem dL_build_44 : decode cL_build 44 = .ok (.bipush 6, 2) := by decide +kernel
theorem dL_build_46 : decode cL_build 46 = .ok (.invokestatic 15, 3) := by decide +kernel
theorem dL_build_49 : decode cL_build 49 = .ok (.iadd, 1) := by decide +kernel
theorem dL_build_50 : decode cL_build 50 = .ok (.iastore, 1) := by decide +kernel
theorem dL_build_51 : decode cL_build 51 = .ok (.dup, 1) := by decide +kernel
theorem dL_build_52 : decode cL_build 52 = .ok (.iconst 3, 1) := by decide +kernel
theorem dL_build_53 : decode cL_build 53 = .ok (.iconst 1, 1) := by decide +kernel
theorem dL_build_54 : decode cL_build 54 = .ok (.aload_n 1, 1) := by decide +kernel
theorem dL_build_55 : decode cL_build 55 = .ok (.iload_n 2, 1) := by decide +kernel
theorem dL_build_56 : decode cL_build 56 = .ok (.invokestatic 9, 3) := by decide +kernel
theorem dL_build_59 : decode cL_build 59 = .ok (.bipush 9, 2) := by decide +kernel
theorem dL_build_61 : decode cL_build 61 = .ok (.ishr, 1) := by decide +kernel
theorem dL_build_62 : decode cL_build 62 = .ok (.iconst 3, 1) := by decide +kernel
theorem dL_build_63 : decode cL_build 63 = .ok (.invokestatic 15, 3) := by decide +kernel
theorem dL_build_66 : decode cL_build 66 = .ok (.iadd, 1) := by decide +kernel
theorem dL_build_67 : decode cL_build 67 = .ok (.iastore, 1) := by decide +kernel
theorem dL_build_68 : decode cL_build 68 = .ok (.dup, 1) := by decide +kernel
theorem dL_build_69 : decode cL_build 69 = .ok (.iconst 4, 1) := by decide +kernel
theorem dL_build_70 : decode cL_build 70 = .ok (.aload_n 1, 1) := by decide +kernel
theorem dL_build_71 : decode cL_build 71 = .ok (.iload_n 2, 1) := by decide +kernel
theorem dL_build_72 : decode cL_build 72 = .ok (.invokestatic 9, 3) := by decide +kernel
theorem dL_build_75 : decode cL_build 75 = .ok (.bipush 11, 2) := by decide +kernel
theorem dL_build_77 : decode cL_build 77 = .ok (.ishr, 1) := by decide +kernel
theorem dL_build_78 : decode cL_build 78 = .ok (.bipush 6, 2) := by decide +kernel
theorem dL_build_80 : decode cL_build 80 = .ok (.invokestatic 15, 3) := by decide +kernel
theorem dL_build_83 : decode cL_build 83 = .ok (.iastore, 1) := by decide +kernel
theorem dL_build_84 : decode cL_build 84 = .ok (.dup, 1) := by decide +kernel
theorem dL_build_85 : decode cL_build 85 = .ok (.iconst 5, 1) := by decide +kernel
theorem dL_build_86 : decode cL_build 86 = .ok (.sipush 700, 3) := by decide +kernel
theorem dL_build_89 : decode cL_build 89 = .ok (.aload_n 1, 1) := by decide +kernel
theorem dL_build_90 : decode cL_build 90 = .ok (.iload_n 2, 1) := by decide +kernel
theorem dL_build_91 : decode cL_build 91 = .ok (.iconst 1, 1) := by decide +kernel
theorem dL_build_92 : decode cL_build 92 = .ok (.iadd, 1) := by decide +kernel
theorem dL_build_93 : decode cL_build 93 = .ok (.invokestatic 9, 3) := by decide +kernel
theorem dL_build_96 : decode cL_build 96 = .ok (.sipush 500, 3) := by decide +kernel
theorem dL_build_99 : decode cL_build 99 = .ok (.invokestatic 15, 3) := by decide +kernel
theorem dL_build_102 : decode cL_build 102 = .ok (.iadd, 1) := by decide +kernel
theorem dL_build_103 : decode cL_build 103 = .ok (.iastore, 1) := by decide +kernel
theorem dL_build_104 : decode cL_build 104 = .ok (.dup, 1) := by decide +kernel
theorem dL_build_105 : decode cL_build 105 = .ok (.bipush 6, 2) := by decide +kernel
theorem dL_build_107 : decode cL_build 107 = .ok (.aload_n 1, 1) := by decide +kernel
theorem dL_build_108 : decode cL_build 108 = .ok (.iload_n 2, 1) := by decide +kernel
theorem dL_build_109 : decode cL_build 109 = .ok (.iconst 1, 1) := by decide +kernel
theorem dL_build_110 : decode cL_build 110 = .ok (.iadd, 1) := by decide +kernel
theorem dL_build_111 : decode cL_build 111 = .ok (.invokestatic 9, 3) := by decide +kernel
theorem dL_build_114 : decode cL_build 114 = .ok (.iconst 5, 1) := by decide +kernel
theorem dL_build_115 : decode cL_build 115 = .ok (.ishr, 1) := by decide +kernel
theorem dL_build_116 : decode cL_build 116 = .ok (.bipush 100, 2) := by decide +kernel
theorem dL_build_118 : decode cL_build 118 = .ok (.invokestatic 15, 3) := by decide +kernel
theorem dL_build_121 : decode cL_build 121 = .ok (.iastore, 1) := by decide +kernel
theorem dL_build_122 : decode cL_build 122 = .ok (.astore 7, 2) := by decide +kernel
theorem dL_build_124 : decode cL_build 124 = .ok (.iconst 0, 1) := by decide +kernel
theorem dL_build_125 : decode cL_build 125 = .ok (.istore 8, 2) := by decide +kernel
theorem dL_build_127 : decode cL_build 127 = .ok (.iload 8, 2) := by decide +kernel
theorem dL_build_129 : decode cL_build 129 = .ok (.aload 7, 2) := by decide +kernel
theorem dL_build_131 : decode cL_build 131 = .ok (.iconst 0, 1) := by decide +kernel
theorem dL_build_132 : decode cL_build 132 = .ok (.iaload, 1) := by decide +kernel
theorem dL_build_133 : decode cL_build 133 = .ok (.if_icmp .ge 74, 3) := by decide +kernel
theorem dL_build_136 : decode cL_build 136 = .ok (.aload_n 1, 1) := by decide +kernel
theorem dL_build_137 : decode cL_build 137 = .ok (.iload_n 2, 1) := by decide +kernel
theorem dL_build_138 : decode cL_build 138 = .ok (.iconst 2, 1) := by decide +kernel
theorem dL_build_139 : decode cL_build 139 = .ok (.iadd, 1) := by decide +kernel
theorem dL_build_140 : decode cL_build 140 = .ok (.iload 8, 2) := by decide +kernel
theorem dL_build_142 : decode cL_build 142 = .ok (.iconst 3, 1) := by decide +kernel
theorem dL_build_143 : decode cL_build 143 = .ok (.irem, 1) := by decide +kernel
theorem dL_build_144 : decode cL_build 144 = .ok (.iadd, 1) := by decide +kernel
theorem dL_build_145 : decode cL_build 145 = .ok (.invokestatic 9, 3) := by decide +kernel
theorem dL_build_148 : decode cL_build 148 = .ok (.iload 8, 2) := by decide +kernel
theorem dL_build_150 : decode cL_build 150 = .ok (.iconst 3, 1) := by decide +kernel
theorem dL_build_151 : decode cL_build 151 = .ok (.idiv, 1) := by decide +kernel
theorem dL_build_152 : decode cL_build 152 = .ok (.bipush 8, 2) := by decide +kernel
theorem dL_build_154 : decode cL_build 154 = .ok (.imul, 1) := by decide +kernel
theorem dL_build_155 : decode cL_build 155 = .ok (.ishr, 1) := by decide +kernel
theorem dL_build_156 : decode cL_build 156 = .ok (.istore 9, 2) := by decide +kernel
theorem dL_build_158 : decode cL_build 158 = .ok (.aload_n 3, 1) := by decide +kernel
theorem dL_build_159 : decode cL_build 159 = .ok (.iconst 2, 1) := by decide +kernel
theorem dL_build_160 : decode cL_build 160 = .ok (.iload 8, 2) := by decide +kernel
theorem dL_build_162 : decode cL_build 162 = .ok (.imul, 1) := by decide +kernel
theorem dL_build_163 : decode cL_build 163 = .ok (.sipush 300, 3) := by decide +kernel
theorem dL_build_166 : decode cL_build 166 = .ok (.iload 8, 2) := by decide +kernel
theorem dL_build_168 : decode cL_build 168 = .ok (.imul, 1) := by decide +kernel
theorem dL_build_169 : decode cL_build 169 = .ok (.iload 9, 2) := by decide +kernel
theorem dL_build_171 : decode cL_build 171 = .ok (.sipush 250, 3) := by decide +kernel
theorem dL_build_174 : decode cL_build 174 = .ok (.invokestatic 15, 3) := by decide +kernel
theorem dL_build_177 : decode cL_build 177 = .ok (.iadd, 1) := by decide +kernel
theorem dL_build_178 : decode cL_build 178 = .ok (.iastore, 1) := by decide +kernel
theorem dL_build_179 : decode cL_build 179 = .ok (.aload_n 3, 1) := by decide +kernel
theorem dL_build_180 : decode cL_build 180 = .ok (.iconst 2, 1) := by decide +kernel
theorem dL_build_181 : decode cL_build 181 = .ok (.iload 8, 2) := by decide +kernel
theorem dL_build_183 : decode cL_build 183 = .ok (.imul, 1) := by decide +kernel
theorem dL_build_184 : decode cL_build 184 = .ok (.iconst 1, 1) := by decide +kernel
theorem dL_build_185 : decode cL_build 185 = .ok (.iadd, 1) := by decide +kernel
theorem dL_build_186 : decode cL_build 186 = .ok (.iload 9, 2) := by decide +kernel
theorem dL_build_188 : decode cL_build 188 = .ok (.iconst 3, 1) := by decide +kernel
theorem dL_build_189 : decode cL_build 189 = .ok (.ishr, 1) := by decide +kernel
theorem dL_build_190 : decode cL_build 190 = .ok (.sipush 700, 3) := by decide +kernel
theorem dL_build_193 : decode cL_build 193 = .ok (.invokestatic 15, 3) := by decide +kernel
theorem dL_build_196 : decode cL_build 196 = .ok (.sipush 200, 3) := by decide +kernel
theorem dL_build_199 : decode cL_build 199 = .ok (.isub, 1) := by decide +kernel
theorem dL_build_200 : decode cL_build 200 = .ok (.iastore, 1) := by decide +kernel
theorem dL_build_201 : decode cL_build 201 = .ok (.iinc 8 1, 3) := by decide +kernel
theorem dL_build_204 : decode cL_build 204 = .ok (.goto (-77), 3) := by decide +kernel
theorem dL_build_207 : decode cL_build 207 = .ok (.aload 7, 2) := by decide +kernel
theorem dL_build_209 : decode cL_build 209 = .ok (.iconst 0, 1) := by decide +kernel
theorem dL_build_210 : decode cL_build 210 = .ok (.iaload, 1) := by decide +kernel
theorem dL_build_211 : decode cL_build 211 = .ok (.iconst 1, 1) := by decide +kernel
theorem dL_build_212 : decode cL_build 212 = .ok (.isub, 1) := by decide +kernel
theorem dL_build_213 : decode cL_build 213 = .ok (.istore 8, 2) := by decide +kernel
theorem dL_build_215 : decode cL_build 215 = .ok (.iload 8, 2) := by decide +kernel
theorem dL_build_217 : decode cL_build 217 = .ok (.ifCond .lt 39, 3) := by decide +kernel
theorem dL_build_220 : decode cL_build 220 = .ok (.aload_n 0, 1) := by decide +kernel
theorem dL_build_221 : decode cL_build 221 = .ok (.aload_n 3, 1) := by decide +kernel
theorem dL_build_222 : decode cL_build 222 = .ok (.iconst 2, 1) := by decide +kernel
theorem dL_build_223 : decode cL_build 223 = .ok (.iload 8, 2) := by decide +kernel
theorem dL_build_225 : decode cL_build 225 = .ok (.imul, 1) := by decide +kernel
theorem dL_build_226 : decode cL_build 226 = .ok (.iaload, 1) := by decide +kernel
theorem dL_build_227 : decode cL_build 227 = .ok (.aload_n 3, 1) := by decide +kernel
theorem dL_build_228 : decode cL_build 228 = .ok (.iconst 2, 1) := by decide +kernel
theorem dL_build_229 : decode cL_build 229 = .ok (.iload 8, 2) := by decide +kernel
theorem dL_build_231 : decode cL_build 231 = .ok (.imul, 1) := by decide +kernel
theorem dL_build_232 : decode cL_build 232 = .ok (.iconst 1, 1) := by decide +kernel
theorem dL_build_233 : decode cL_build 233 = .ok (.iadd, 1) := by decide +kernel
theorem dL_build_234 : decode cL_build 234 = .ok (.iaload, 1) := by decide +kernel
theorem dL_build_235 : decode cL_build 235 = .ok (.invokevirtual 19, 3) := by decide +kernel
theorem dL_build_238 : decode cL_build 238 = .ok (.aload 7, 2) := by decide +kernel
theorem dL_build_240 : decode cL_build 240 = .ok (.iconst 0, 1) := by decide +kernel
theorem dL_build_241 : decode cL_build 241 = .ok (.iaload, 1) := by decide +kernel
theorem dL_build_242 : decode cL_build 242 = .ok (.iload 8, 2) := by decide +kernel
theorem dL_build_244 : decode cL_build 244 = .ok (.isub, 1) := by decide +kernel
theorem dL_build_245 : decode cL_build 245 = .ok (.if_icmp .eq 5, 3) := by decide +kernel
theorem dL_build_248 : decode cL_build 248 = .ok (.aconst_null, 1) := by decide +kernel
theorem dL_build_249 : decode cL_build 249 = .ok (.areturn, 1) := by decide +kernel
theorem dL_build_250 : decode cL_build 250 = .ok (.iinc 8 (-1), 3) := by decide +kernel
theorem dL_build_253 : decode cL_build 253 = .ok (.goto (-38), 3) := by decide +kernel
theorem dL_build_256 : decode cL_build 256 = .ok (.aload_n 0, 1) := by decide +kernel
theorem dL_build_257 : decode cL_build 257 = .ok (.aload 7, 2) := by decide +kernel
theorem dL_build_259 : decode cL_build 259 = .ok (.iconst 5, 1) := by decide +kernel
theorem dL_build_260 : decode cL_build 260 = .ok (.iaload, 1) := by decide +kernel
theorem dL_build_261 : decode cL_build 261 = .ok (.aload 7, 2) := by decide +kernel
theorem dL_build_263 : decode cL_build 263 = .ok (.bipush 6, 2) := by decide +kernel
theorem dL_build_265 : decode cL_build 265 = .ok (.iaload, 1) := by decide +kernel
theorem dL_build_266 : decode cL_build 266 = .ok (.invokevirtual 24, 3) := by decide +kernel
theorem dL_build_269 : decode cL_build 269 = .ok (.sipush 1000, 3) := by decide +kernel
theorem dL_build_272 : decode cL_build 272 = .ok (.if_icmp .ne 15, 3) := by decide +kernel
theorem dL_build_275 : decode cL_build 275 = .ok (.aload_n 0, 1) := by decide +kernel
theorem dL_build_276 : decode cL_build 276 = .ok (.aload 7, 2) := by decide +kernel
theorem dL_build_278 : decode cL_build 278 = .ok (.iconst 4, 1) := by decide +kernel
theorem dL_build_279 : decode cL_build 279 = .ok (.iaload, 1) := by decide +kernel
theorem dL_build_280 : decode cL_build 280 = .ok (.invokevirtual 27, 3) := by decide +kernel
theorem dL_build_283 : decode cL_build 283 = .ok (.iconst 4, 1) := by decide +kernel
theorem dL_build_284 : decode cL_build 284 = .ok (.if_icmp .eq 5, 3) := by decide +kernel
theorem dL_build_287 : decode cL_build 287 = .ok (.aconst_null, 1) := by decide +kernel
theorem dL_build_288 : decode cL_build 288 = .ok (.areturn, 1) := by decide +kernel
theorem dL_build_289 : decode cL_build 289 = .ok (.iconst 0, 1) := by decide +kernel
theorem dL_build_290 : decode cL_build 290 = .ok (.istore 8, 2) := by decide +kernel
theorem dL_build_292 : decode cL_build 292 = .ok (.iload 8, 2) := by decide +kernel
theorem dL_build_294 : decode cL_build 294 = .ok (.aload 7, 2) := by decide +kernel
theorem dL_build_296 : decode cL_build 296 = .ok (.iconst 1, 1) := by decide +kernel
theorem dL_build_297 : decode cL_build 297 = .ok (.iaload, 1) := by decide +kernel
theorem dL_build_298 : decode cL_build 298 = .ok (.if_icmp .ge 95, 3) := by decide +kernel
theorem dL_build_301 : decode cL_build 301 = .ok (.aload 4, 2) := by decide +kernel
theorem dL_build_303 : decode cL_build 303 = .ok (.iconst 2, 1) := by decide +kernel
theorem dL_build_304 : decode cL_build 304 = .ok (.iload 8, 2) := by decide +kernel
theorem dL_build_306 : decode cL_build 306 = .ok (.imul, 1) := by decide +kernel
theorem dL_build_307 : decode cL_build 307 = .ok (.bipush 80, 2) := by decide +kernel
theorem dL_build_309 : decode cL_build 309 = .ok (.aload_n 1, 1) := by decide +kernel
theorem dL_build_310 : decode cL_build 310 = .ok (.iload_n 2, 1) := by decide +kernel
theorem dL_build_311 : decode cL_build 311 = .ok (.iconst 5, 1) := by decide +kernel
theorem dL_build_312 : decode cL_build 312 = .ok (.iadd, 1) := by decide +kernel
theorem dL_build_313 : decode cL_build 313 = .ok (.invokestatic 9, 3) := by decide +kernel
theorem dL_build_316 : decode cL_build 316 = .ok (.iconst 3, 1) := by decide +kernel
theorem dL_build_317 : decode cL_build 317 = .ok (.iload 8, 2) := by decide +kernel
theorem dL_build_319 : decode cL_build 319 = .ok (.imul, 1) := by decide +kernel
theorem dL_build_320 : decode cL_build 320 = .ok (.ishr, 1) := by decide +kernel
theorem dL_build_321 : decode cL_build 321 = .ok (.sipush 200, 3) := by decide +kernel
theorem dL_build_324 : decode cL_build 324 = .ok (.invokestatic 15, 3) := by decide +kernel
theorem dL_build_327 : decode cL_build 327 = .ok (.iadd, 1) := by decide +kernel
theorem dL_build_328 : decode cL_build 328 = .ok (.iastore, 1) := by decide +kernel
theorem dL_build_329 : decode cL_build 329 = .ok (.aload 4, 2) := by decide +kernel
theorem dL_build_331 : decode cL_build 331 = .ok (.iconst 2, 1) := by decide +kernel
theorem dL_build_332 : decode cL_build 332 = .ok (.iload 8, 2) := by decide +kernel
theorem dL_build_334 : decode cL_build 334 = .ok (.imul, 1) := by decide +kernel
theorem dL_build_335 : decode cL_build 335 = .ok (.iconst 1, 1) := by decide +kernel
theorem dL_build_336 : decode cL_build 336 = .ok (.iadd, 1) := by decide +kernel
theorem dL_build_337 : decode cL_build 337 = .ok (.sipush 600, 3) := by decide +kernel
theorem dL_build_340 : decode cL_build 340 = .ok (.aload_n 1, 1) := by decide +kernel
theorem dL_build_341 : decode cL_build 341 = .ok (.iload_n 2, 1) := by decide +kernel
theorem dL_build_342 : decode cL_build 342 = .ok (.iconst 5, 1) := by decide +kernel
theorem dL_build_343 : decode cL_build 343 = .ok (.iadd, 1) := by decide +kernel
theorem dL_build_344 : decode cL_build 344 = .ok (.invokestatic 9, 3) := by decide +kernel
theorem dL_build_347 : decode cL_build 347 = .ok (.iconst 4, 1) := by decide +kernel
theorem dL_build_348 : decode cL_build 348 = .ok (.iload 8, 2) := by decide +kernel
theorem dL_build_350 : decode cL_build 350 = .ok (.imul, 1) := by decide +kernel
theorem dL_build_351 : decode cL_build 351 = .ok (.ishr, 1) := by decide +kernel
theorem dL_build_352 : decode cL_build 352 = .ok (.sipush 700, 3) := by decide +kernel
theorem dL_build_355 : decode cL_build 355 = .ok (.invokestatic 15, 3) := by decide +kernel
theorem dL_build_358 : decode cL_build 358 = .ok (.iadd, 1) := by decide +kernel
theorem dL_build_359 : decode cL_build 359 = .ok (.iastore, 1) := by decide +kernel
theorem dL_build_360 : decode cL_build 360 = .ok (.aload_n 0, 1) := by decide +kernel
theorem dL_build_361 : decode cL_build 361 = .ok (.aload 4, 2) := by decide +kernel
theorem dL_build_363 : decode cL_build 363 = .ok (.iconst 2, 1) := by decide +kernel
theorem dL_build_364 : decode cL_build 364 = .ok (.iload 8, 2) := by decide +kernel
theorem dL_build_366 : decode cL_build 366 = .ok (.imul, 1) := by decide +kernel
theorem dL_build_367 : decode cL_build 367 = .ok (.iaload, 1) := by decide +kernel
theorem dL_build_368 : decode cL_build 368 = .ok (.aload 4, 2) := by decide +kernel
theorem dL_build_370 : decode cL_build 370 = .ok (.iconst 2, 1) := by decide +kernel
theorem dL_build_371 : decode cL_build 371 = .ok (.iload 8, 2) := by decide +kernel
theorem dL_build_373 : decode cL_build 373 = .ok (.imul, 1) := by decide +kernel
theorem dL_build_374 : decode cL_build 374 = .ok (.iconst 1, 1) := by decide +kernel
theorem dL_build_375 : decode cL_build 375 = .ok (.iadd, 1) := by decide +kernel
theorem dL_build_376 : decode cL_build 376 = .ok (.iaload, 1) := by decide +kernel
theorem dL_build_377 : decode cL_build 377 = .ok (.invokevirtual 31, 3) := by decide +kernel
theorem dL_build_380 : decode cL_build 380 = .ok (.iload 8, 2) := by decide +kernel
theorem dL_build_382 : decode cL_build 382 = .ok (.if_icmp .eq 5, 3) := by decide +kernel
theorem dL_build_385 : decode cL_build 385 = .ok (.aconst_null, 1) := by decide +kernel
theorem dL_build_386 : decode cL_build 386 = .ok (.areturn, 1) := by decide +kernel
theorem dL_build_387 : decode cL_build 387 = .ok (.iinc 8 1, 3) := by decide +kernel
theorem dL_build_390 : decode cL_build 390 = .ok (.goto (-98), 3) := by decide +kernel
theorem dL_build_393 : decode cL_build 393 = .ok (.iconst 0, 1) := by decide +kernel
theorem dL_build_394 : decode cL_build 394 = .ok (.istore 8, 2) := by decide +kernel
theorem dL_build_396 : decode cL_build 396 = .ok (.iload 8, 2) := by decide +kernel
theorem dL_build_398 : decode cL_build 398 = .ok (.aload 7, 2) := by decide +kernel
theorem dL_build_400 : decode cL_build 400 = .ok (.iconst 2, 1) := by decide +kernel
theorem dL_build_401 : decode cL_build 401 = .ok (.iaload, 1) := by decide +kernel
theorem dL_build_402 : decode cL_build 402 = .ok (.if_icmp .ge 97, 3) := by decide +kernel
theorem dL_build_405 : decode cL_build 405 = .ok (.aload 5, 2) := by decide +kernel
theorem dL_build_407 : decode cL_build 407 = .ok (.iconst 2, 1) := by decide +kernel
theorem dL_build_408 : decode cL_build 408 = .ok (.iload 8, 2) := by decide +kernel
theorem dL_build_410 : decode cL_build 410 = .ok (.imul, 1) := by decide +kernel
theorem dL_build_411 : decode cL_build 411 = .ok (.bipush 40, 2) := by decide +kernel
theorem dL_build_413 : decode cL_build 413 = .ok (.aload_n 1, 1) := by decide +kernel
theorem dL_build_414 : decode cL_build 414 = .ok (.iload_n 2, 1) := by decide +kernel
theorem dL_build_415 : decode cL_build 415 = .ok (.bipush 6, 2) := by decide +kernel
theorem dL_build_417 : decode cL_build 417 = .ok (.iadd, 1) := by decide +kernel
theorem dL_build_418 : decode cL_build 418 = .ok (.invokestatic 9, 3) := by decide +kernel
theorem dL_build_421 : decode cL_build 421 = .ok (.iconst 4, 1) := by decide +kernel
theorem dL_build_422 : decode cL_build 422 = .ok (.iload 8, 2) := by decide +kernel
theorem dL_build_424 : decode cL_build 424 = .ok (.imul, 1) := by decide +kernel
theorem dL_build_425 : decode cL_build 425 = .ok (.ishr, 1) := by decide +kernel
theorem dL_build_426 : decode cL_build 426 = .ok (.sipush 220, 3) := by decide +kernel
theorem dL_build_429 : decode cL_build 429 = .ok (.invokestatic 15, 3) := by decide +kernel
theorem dL_build_432 : decode cL_build 432 = .ok (.iadd, 1) := by decide +kernel
theorem dL_build_433 : decode cL_build 433 = .ok (.iastore, 1) := by decide +kernel
theorem dL_build_434 : decode cL_build 434 = .ok (.aload 5, 2) := by decide +kernel
theorem dL_build_436 : decode cL_build 436 = .ok (.iconst 2, 1) := by decide +kernel
theorem dL_build_437 : decode cL_build 437 = .ok (.iload 8, 2) := by decide +kernel
theorem dL_build_439 : decode cL_build 439 = .ok (.imul, 1) := by decide +kernel
theorem dL_build_440 : decode cL_build 440 = .ok (.iconst 1, 1) := by decide +kernel
theorem dL_build_441 : decode cL_build 441 = .ok (.iadd, 1) := by decide +kernel
theorem dL_build_442 : decode cL_build 442 = .ok (.sipush 300, 3) := by decide +kernel
theorem dL_build_445 : decode cL_build 445 = .ok (.aload_n 1, 1) := by decide +kernel
theorem dL_build_446 : decode cL_build 446 = .ok (.iload_n 2, 1) := by decide +kernel
theorem dL_build_447 : decode cL_build 447 = .ok (.bipush 7, 2) := by decide +kernel
theorem dL_build_449 : decode cL_build 449 = .ok (.iadd, 1) := by decide +kernel
theorem dL_build_450 : decode cL_build 450 = .ok (.invokestatic 9, 3) := by decide +kernel
theorem dL_build_453 : decode cL_build 453 = .ok (.iconst 4, 1) := by decide +kernel
theorem dL_build_454 : decode cL_build 454 = .ok (.iload 8, 2) := by decide +kernel
theorem dL_build_456 : decode cL_build 456 = .ok (.imul, 1) := by decide +kernel
theorem dL_build_457 : decode cL_build 457 = .ok (.ishr, 1) := by decide +kernel
theorem dL_build_458 : decode cL_build 458 = .ok (.sipush 600, 3) := by decide +kernel
theorem dL_build_461 : decode cL_build 461 = .ok (.invokestatic 15, 3) := by decide +kernel
theorem dL_build_464 : decode cL_build 464 = .ok (.iadd, 1) := by decide +kernel
theorem dL_build_465 : decode cL_build 465 = .ok (.iastore, 1) := by decide +kernel
theorem dL_build_466 : decode cL_build 466 = .ok (.aload_n 0, 1) := by decide +kernel
theorem dL_build_467 : decode cL_build 467 = .ok (.aload 5, 2) := by decide +kernel
theorem dL_build_469 : decode cL_build 469 = .ok (.iconst 2, 1) := by decide +kernel
theorem dL_build_470 : decode cL_build 470 = .ok (.iload 8, 2) := by decide +kernel
theorem dL_build_472 : decode cL_build 472 = .ok (.imul, 1) := by decide +kernel
theorem dL_build_473 : decode cL_build 473 = .ok (.iaload, 1) := by decide +kernel
theorem dL_build_474 : decode cL_build 474 = .ok (.aload 5, 2) := by decide +kernel
theorem dL_build_476 : decode cL_build 476 = .ok (.iconst 2, 1) := by decide +kernel
theorem dL_build_477 : decode cL_build 477 = .ok (.iload 8, 2) := by decide +kernel
theorem dL_build_479 : decode cL_build 479 = .ok (.imul, 1) := by decide +kernel
theorem dL_build_480 : decode cL_build 480 = .ok (.iconst 1, 1) := by decide +kernel
theorem dL_build_481 : decode cL_build 481 = .ok (.iadd, 1) := by decide +kernel
theorem dL_build_482 : decode cL_build 482 = .ok (.iaload, 1) := by decide +kernel
theorem dL_build_483 : decode cL_build 483 = .ok (.invokevirtual 34, 3) := by decide +kernel
theorem dL_build_486 : decode cL_build 486 = .ok (.iload 8, 2) := by decide +kernel
theorem dL_build_488 : decode cL_build 488 = .ok (.if_icmp .eq 5, 3) := by decide +kernel
theorem dL_build_491 : decode cL_build 491 = .ok (.aconst_null, 1) := by decide +kernel
