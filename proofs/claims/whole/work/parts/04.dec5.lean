theorem dX7_delay_40 : decode cX7_delay 40 = .ok (.getfield 72, 3) := by decide +kernel
theorem dX7_delay_43 : decode cX7_delay 43 = .ok (.ifCond .ne 7, 3) := by decide +kernel
theorem dX7_delay_46 : decode cX7_delay 46 = .ok (.dconst 0, 1) := by decide +kernel
theorem dX7_delay_47 : decode cX7_delay 47 = .ok (.goto 11, 3) := by decide +kernel
theorem dX7_delay_50 : decode cX7_delay 50 = .ok (.iload_n 1, 1) := by decide +kernel
theorem dX7_delay_51 : decode cX7_delay 51 = .ok (.i2d, 1) := by decide +kernel
theorem dX7_delay_52 : decode cX7_delay 52 = .ok (.aload_n 0, 1) := by decide +kernel
theorem dX7_delay_53 : decode cX7_delay 53 = .ok (.getfield 72, 3) := by decide +kernel
theorem dX7_delay_56 : decode cX7_delay 56 = .ok (.i2d, 1) := by decide +kernel
theorem dX7_delay_57 : decode cX7_delay 57 = .ok (.ddiv, 1) := by decide +kernel
theorem dX7_delay_58 : decode cX7_delay 58 = .ok (.dreturn, 1) := by decide +kernel
set_option maxRecDepth 20000 in
theorem ggX7_digest_X7_counted : GoodIn wsX7_digest wsX7_counted := goodIn_r _ [14, 15, 16, 7, 17, 9, 27, 28, 29, 30, 31, 32, 33, 34, 35, 36, 37, 38, 39, 40, 41, 42, 43, 44] (by decide +kernel) (by decide +kernel)
set_option maxRecDepth 20000 in
theorem gX7_digest_X7_counted : GoodIn wsX7_digest (wsV RX7 84 RX7 yX7_counted wsX7_counted) := goodIn_app (goodIn_of _ (by decide +kernel)) ggX7_digest_X7_counted
set_option maxRecDepth 20000 in
theorem ggX7_digest_X7_needOf : GoodIn wsX7_digest wsX7_needOf := goodIn_r _ [21, 8, 5, 27, 28, 29, 30, 31, 32, 33, 34, 35, 36, 37, 38, 39, 40, 41, 42, 43, 44] (by decide +kernel) (by decide +kernel)
set_option maxRecDepth 20000 in
theorem gX7_digest_X7_needOf : GoodIn wsX7_digest (wsV RX7 87 RX7 yX7_needOf wsX7_needOf) := goodIn_app (goodIn_of _ (by decide +kernel)) ggX7_digest_X7_needOf
set_option maxRecDepth 20000 in
theorem ggX7_digest_X7_get : GoodIn wsX7_digest wsX7_get := goodIn_r _ [25, 26, 27, 28, 29, 30, 31, 32, 33, 34, 35, 36, 37, 38, 39, 40, 41, 42, 43, 44] (by decide +kernel) (by decide +kernel)
set_option maxRecDepth 20000 in
theorem gX7_digest_X7_get : GoodIn wsX7_digest (wsV RX7 96 RX7 yX7_get wsX7_get) := goodIn_app (goodIn_of _ (by decide +kernel)) ggX7_digest_X7_get
theorem dX7_digest_0 : decode cX7_digest 0 = .ok (.aload_n 0, 1) := by decide +kernel
theorem dX7_digest_1 : decode cX7_digest 1 = .ok (.iconst 0, 1) := by decide +kernel
theorem dX7_digest_2 : decode cX7_digest 2 = .ok (.putfield 48, 3) := by decide +kernel
theorem dX7_digest_5 : decode cX7_digest 5 = .ok (.ldc2_w 173, 3) := by decide +kernel
theorem dX7_digest_8 : decode cX7_digest 8 = .ok (.lstore_n 1, 1) := by decide +kernel
theorem dX7_digest_9 : decode cX7_digest 9 = .ok (.iconst 0, 1) := by decide +kernel
theorem dX7_digest_10 : decode cX7_digest 10 = .ok (.istore_n 3, 1) := by decide +kernel
theorem dX7_digest_11 : decode cX7_digest 11 = .ok (.iload_n 3, 1) := by decide +kernel
theorem dX7_digest_12 : decode cX7_digest 12 = .ok (.iconst 5, 1) := by decide +kernel
theorem dX7_digest_13 : decode cX7_digest 13 = .ok (.if_icmp .ge 22, 3) := by decide +kernel
theorem dX7_digest_16 : decode cX7_digest 16 = .ok (.lload_n 1, 1) := by decide +kernel
theorem dX7_digest_17 : decode cX7_digest 17 = .ok (.ldc2_w 175, 3) := by decide +kernel
theorem dX7_digest_20 : decode cX7_digest 20 = .ok (.lmul, 1) := by decide +kernel
theorem dX7_digest_21 : decode cX7_digest 21 = .ok (.aload_n 0, 1) := by decide +kernel
theorem dX7_digest_22 : decode cX7_digest 22 = .ok (.iload_n 3, 1) := by decide +kernel
theorem dX7_digest_23 : decode cX7_digest 23 = .ok (.invokevirtual 84, 3) := by decide +kernel
theorem dX7_digest_26 : decode cX7_digest 26 = .ok (.i2l, 1) := by decide +kernel
theorem dX7_digest_27 : decode cX7_digest 27 = .ok (.ladd, 1) := by decide +kernel
theorem dX7_digest_28 : decode cX7_digest 28 = .ok (.lstore_n 1, 1) := by decide +kernel
theorem dX7_digest_29 : decode cX7_digest 29 = .ok (.iinc 3 1, 3) := by decide +kernel
theorem dX7_digest_32 : decode cX7_digest 32 = .ok (.goto (-21), 3) := by decide +kernel
theorem dX7_digest_35 : decode cX7_digest 35 = .ok (.lload_n 1, 1) := by decide +kernel
theorem dX7_digest_36 : decode cX7_digest 36 = .ok (.ldc2_w 175, 3) := by decide +kernel
theorem dX7_digest_39 : decode cX7_digest 39 = .ok (.lmul, 1) := by decide +kernel
theorem dX7_digest_40 : decode cX7_digest 40 = .ok (.aload_n 0, 1) := by decide +kernel
theorem dX7_digest_41 : decode cX7_digest 41 = .ok (.getfield 16, 3) := by decide +kernel
theorem dX7_digest_44 : decode cX7_digest 44 = .ok (.i2l, 1) := by decide +kernel
theorem dX7_digest_45 : decode cX7_digest 45 = .ok (.ladd, 1) := by decide +kernel
theorem dX7_digest_46 : decode cX7_digest 46 = .ok (.ldc2_w 175, 3) := by decide +kernel
theorem dX7_digest_49 : decode cX7_digest 49 = .ok (.lmul, 1) := by decide +kernel
theorem dX7_digest_50 : decode cX7_digest 50 = .ok (.aload_n 0, 1) := by decide +kernel
theorem dX7_digest_51 : decode cX7_digest 51 = .ok (.getfield 20, 3) := by decide +kernel
theorem dX7_digest_54 : decode cX7_digest 54 = .ok (.i2l, 1) := by decide +kernel
theorem dX7_digest_55 : decode cX7_digest 55 = .ok (.ladd, 1) := by decide +kernel
theorem dX7_digest_56 : decode cX7_digest 56 = .ok (.ldc2_w 175, 3) := by decide +kernel
theorem dX7_digest_59 : decode cX7_digest 59 = .ok (.lmul, 1) := by decide +kernel
theorem dX7_digest_60 : decode cX7_digest 60 = .ok (.aload_n 0, 1) := by decide +kernel
theorem dX7_digest_61 : decode cX7_digest 61 = .ok (.getfield 42, 3) := by decide +kernel
theorem dX7_digest_64 : decode cX7_digest 64 = .ok (.i2l, 1) := by decide +kernel
theorem dX7_digest_65 : decode cX7_digest 65 = .ok (.ladd, 1) := by decide +kernel
theorem dX7_digest_66 : decode cX7_digest 66 = .ok (.lstore_n 1, 1) := by decide +kernel
theorem dX7_digest_67 : decode cX7_digest 67 = .ok (.iconst 0, 1) := by decide +kernel
theorem dX7_digest_68 : decode cX7_digest 68 = .ok (.istore_n 3, 1) := by decide +kernel
theorem dX7_digest_69 : decode cX7_digest 69 = .ok (.iload_n 3, 1) := by decide +kernel
theorem dX7_digest_70 : decode cX7_digest 70 = .ok (.aload_n 0, 1) := by decide +kernel
theorem dX7_digest_71 : decode cX7_digest 71 = .ok (.getfield 55, 3) := by decide +kernel
theorem dX7_digest_74 : decode cX7_digest 74 = .ok (.if_icmp .ge 34, 3) := by decide +kernel
theorem dX7_digest_77 : decode cX7_digest 77 = .ok (.lload_n 1, 1) := by decide +kernel
theorem dX7_digest_78 : decode cX7_digest 78 = .ok (.ldc2_w 175, 3) := by decide +kernel
theorem dX7_digest_81 : decode cX7_digest 81 = .ok (.lmul, 1) := by decide +kernel
theorem dX7_digest_82 : decode cX7_digest 82 = .ok (.aload_n 0, 1) := by decide +kernel
theorem dX7_digest_83 : decode cX7_digest 83 = .ok (.getfield 32, 3) := by decide +kernel
theorem dX7_digest_86 : decode cX7_digest 86 = .ok (.iload_n 3, 1) := by decide +kernel
theorem dX7_digest_87 : decode cX7_digest 87 = .ok (.iaload, 1) := by decide +kernel
theorem dX7_digest_88 : decode cX7_digest 88 = .ok (.i2l, 1) := by decide +kernel
theorem dX7_digest_89 : decode cX7_digest 89 = .ok (.ladd, 1) := by decide +kernel
theorem dX7_digest_90 : decode cX7_digest 90 = .ok (.ldc2_w 175, 3) := by decide +kernel
theorem dX7_digest_93 : decode cX7_digest 93 = .ok (.lmul, 1) := by decide +kernel
theorem dX7_digest_94 : decode cX7_digest 94 = .ok (.aload_n 0, 1) := by decide +kernel
theorem dX7_digest_95 : decode cX7_digest 95 = .ok (.iload_n 3, 1) := by decide +kernel
theorem dX7_digest_96 : decode cX7_digest 96 = .ok (.invokevirtual 87, 3) := by decide +kernel
theorem dX7_digest_99 : decode cX7_digest 99 = .ok (.i2l, 1) := by decide +kernel
theorem dX7_digest_100 : decode cX7_digest 100 = .ok (.ladd, 1) := by decide +kernel
theorem dX7_digest_101 : decode cX7_digest 101 = .ok (.lstore_n 1, 1) := by decide +kernel
theorem dX7_digest_102 : decode cX7_digest 102 = .ok (.iinc 3 1, 3) := by decide +kernel
theorem dX7_digest_105 : decode cX7_digest 105 = .ok (.goto (-36), 3) := by decide +kernel
theorem dX7_digest_108 : decode cX7_digest 108 = .ok (.iconst 0, 1) := by decide +kernel
theorem dX7_digest_109 : decode cX7_digest 109 = .ok (.istore_n 3, 1) := by decide +kernel
theorem dX7_digest_110 : decode cX7_digest 110 = .ok (.iload_n 3, 1) := by decide +kernel
theorem dX7_digest_111 : decode cX7_digest 111 = .ok (.aload_n 0, 1) := by decide +kernel
theorem dX7_digest_112 : decode cX7_digest 112 = .ok (.getfield 72, 3) := by decide +kernel
theorem dX7_digest_115 : decode cX7_digest 115 = .ok (.if_icmp .ge 40, 3) := by decide +kernel
theorem dX7_digest_118 : decode cX7_digest 118 = .ok (.iconst 0, 1) := by decide +kernel
theorem dX7_digest_119 : decode cX7_digest 119 = .ok (.istore 4, 2) := by decide +kernel
theorem dX7_digest_121 : decode cX7_digest 121 = .ok (.iload 4, 2) := by decide +kernel
theorem dX7_digest_123 : decode cX7_digest 123 = .ok (.bipush 6, 2) := by decide +kernel
theorem dX7_digest_125 : decode cX7_digest 125 = .ok (.if_icmp .ge 24, 3) := by decide +kernel
theorem dX7_digest_128 : decode cX7_digest 128 = .ok (.lload_n 1, 1) := by decide +kernel
theorem dX7_digest_129 : decode cX7_digest 129 = .ok (.ldc2_w 175, 3) := by decide +kernel
theorem dX7_digest_132 : decode cX7_digest 132 = .ok (.lmul, 1) := by decide +kernel
theorem dX7_digest_133 : decode cX7_digest 133 = .ok (.aload_n 0, 1) := by decide +kernel
theorem dX7_digest_134 : decode cX7_digest 134 = .ok (.iload_n 3, 1) := by decide +kernel
theorem dX7_digest_135 : decode cX7_digest 135 = .ok (.iload 4, 2) := by decide +kernel
theorem dX7_digest_137 : decode cX7_digest 137 = .ok (.invokevirtual 96, 3) := by decide +kernel
theorem dX7_digest_140 : decode cX7_digest 140 = .ok (.i2l, 1) := by decide +kernel
theorem dX7_digest_141 : decode cX7_digest 141 = .ok (.ladd, 1) := by decide +kernel
theorem dX7_digest_142 : decode cX7_digest 142 = .ok (.lstore_n 1, 1) := by decide +kernel
theorem dX7_digest_143 : decode cX7_digest 143 = .ok (.iinc 4 1, 3) := by decide +kernel
theorem dX7_digest_146 : decode cX7_digest 146 = .ok (.goto (-25), 3) := by decide +kernel
theorem dX7_digest_149 : decode cX7_digest 149 = .ok (.iinc 3 1, 3) := by decide +kernel
theorem dX7_digest_152 : decode cX7_digest 152 = .ok (.goto (-42), 3) := by decide +kernel
theorem dX7_digest_155 : decode cX7_digest 155 = .ok (.lload_n 1, 1) := by decide +kernel
theorem dX7_digest_156 : decode cX7_digest 156 = .ok (.lreturn, 1) := by decide +kernel
theorem dJ9_abs_0f7a4_0 : decode cJ9_abs_0f7a4 0 = .ok (.iload_n 0, 1) := by decide +kernel
theorem dJ9_abs_0f7a4_1 : decode cJ9_abs_0f7a4 1 = .ok (.ifCond .ge 8, 3) := by decide +kernel
theorem dJ9_abs_0f7a4_4 : decode cJ9_abs_0f7a4 4 = .ok (.iload_n 0, 1) := by decide +kernel
theorem dJ9_abs_0f7a4_5 : decode cJ9_abs_0f7a4 5 = .ok (.ineg, 1) := by decide +kernel
theorem dJ9_abs_0f7a4_6 : decode cJ9_abs_0f7a4 6 = .ok (.goto 4, 3) := by decide +kernel
theorem dJ9_abs_0f7a4_9 : decode cJ9_abs_0f7a4 9 = .ok (.iload_n 0, 1) := by decide +kernel
theorem dJ9_abs_0f7a4_10 : decode cJ9_abs_0f7a4 10 = .ok (.ireturn, 1) := by decide +kernel
theorem dJ9_max_7cf53_0 : decode cJ9_max_7cf53 0 = .ok (.iload_n 0, 1) := by decide +kernel
theorem dJ9_max_7cf53_1 : decode cJ9_max_7cf53 1 = .ok (.iload_n 1, 1) := by decide +kernel
theorem dJ9_max_7cf53_2 : decode cJ9_max_7cf53 2 = .ok (.if_icmp .lt 7, 3) := by decide +kernel
theorem dJ9_max_7cf53_5 : decode cJ9_max_7cf53 5 = .ok (.iload_n 0, 1) := by decide +kernel
theorem dJ9_max_7cf53_6 : decode cJ9_max_7cf53 6 = .ok (.goto 4, 3) := by decide +kernel
theorem dJ9_max_7cf53_9 : decode cJ9_max_7cf53 9 = .ok (.iload_n 1, 1) := by decide +kernel
theorem dJ9_max_7cf53_10 : decode cJ9_max_7cf53 10 = .ok (.ireturn, 1) := by decide +kernel
theorem dJ9_min_7cf53_0 : decode cJ9_min_7cf53 0 = .ok (.iload_n 0, 1) := by decide +kernel
theorem dJ9_min_7cf53_1 : decode cJ9_min_7cf53 1 = .ok (.iload_n 1, 1) := by decide +kernel
theorem dJ9_min_7cf53_2 : decode cJ9_min_7cf53 2 = .ok (.if_icmp .gt 7, 3) := by decide +kernel
theorem dJ9_min_7cf53_5 : decode cJ9_min_7cf53 5 = .ok (.iload_n 0, 1) := by decide +kernel
theorem dJ9_min_7cf53_6 : decode cJ9_min_7cf53 6 = .ok (.goto 4, 3) := by decide +kernel
theorem dJ9_min_7cf53_9 : decode cJ9_min_7cf53 9 = .ok (.iload_n 1, 1) := by decide +kernel
theorem dJ9_min_7cf53_10 : decode cJ9_min_7cf53 10 = .ok (.ireturn, 1) := by decide +kernel
theorem dJxa1e45_init_da8c8_0 : decode cJxa1e45_init_da8c8 0 = .ok (.aload_n 0, 1) := by decide +kernel
theorem dJxa1e45_init_da8c8_1 : decode cJxa1e45_init_da8c8 1 = .ok (.invokespecial 1, 3) := by decide +kernel
theorem dJxa1e45_init_da8c8_4 : decode cJxa1e45_init_da8c8 4 = .ok (.return_, 1) := by decide +kernel
set_option maxRecDepth 20000 in
theorem ggJxc12de_init_da8c8_Jxa1e45_init_da8c8 : GoodIn wsJxc12de_init_da8c8 wsJxa1e45_init_da8c8 := goodIn_r _ [5, 6, 7, 8] (by decide +kernel) (by decide +kernel)
set_option maxRecDepth 20000 in
theorem gJxc12de_init_da8c8_Jxa1e45_init_da8c8 : GoodIn wsJxc12de_init_da8c8 (wsJxa1e45_init_da8c8) := ggJxc12de_init_da8c8_Jxa1e45_init_da8c8
theorem dJxc12de_init_da8c8_0 : decode cJxc12de_init_da8c8 0 = .ok (.aload_n 0, 1) := by decide +kernel
theorem dJxc12de_init_da8c8_1 : decode cJxc12de_init_da8c8 1 = .ok (.invokespecial 1, 3) := by decide +kernel
theorem dJxc12de_init_da8c8_4 : decode cJxc12de_init_da8c8 4 = .ok (.aload_n 0, 1) := by decide +kernel
theorem dJxc12de_init_da8c8_5 : decode cJxc12de_init_da8c8 5 = .ok (.iconst 0, 1) := by decide +kernel
theorem dJxc12de_init_da8c8_6 : decode cJxc12de_init_da8c8 6 = .ok (.putfield 7, 3) := by decide +kernel
theorem dJxc12de_init_da8c8_9 : decode cJxc12de_init_da8c8 9 = .ok (.return_, 1) := by decide +kernel
set_option maxRecDepth 20000 in
theorem ggJx4a65c_init_da8c8_Jxc12de_init_da8c8 : GoodIn wsJx4a65c_init_da8c8 wsJxc12de_init_da8c8 := goodIn_r _ [6, 7, 8, 9, 10, 11, 12, 13, 14, 15, 16, 17] (by decide +kernel) (by decide +kernel)
set_option maxRecDepth 20000 in
theorem gJx4a65c_init_da8c8_Jxc12de_init_da8c8 : GoodIn wsJx4a65c_init_da8c8 (wsJxc12de_init_da8c8) := ggJx4a65c_init_da8c8_Jxc12de_init_da8c8
theorem dJx4a65c_init_da8c8_0 : decode cJx4a65c_init_da8c8 0 = .ok (.aload_n 0, 1) := by decide +kernel
theorem dJx4a65c_init_da8c8_1 : decode cJx4a65c_init_da8c8 1 = .ok (.invokespecial 1, 3) := by decide +kernel
theorem dJx4a65c_init_da8c8_4 : decode cJx4a65c_init_da8c8 4 = .ok (.aload_n 0, 1) := by decide +kernel
theorem dJx4a65c_init_da8c8_5 : decode cJx4a65c_init_da8c8 5 = .ok (.getstatic 39, 3) := by decide +kernel
theorem dJx4a65c_init_da8c8_8 : decode cJx4a65c_init_da8c8 8 = .ok (.putfield 9, 3) := by decide +kernel
theorem dJx4a65c_init_da8c8_11 : decode cJx4a65c_init_da8c8 11 = .ok (.return_, 1) := by decide +kernel
set_option maxRecDepth 20000 in
theorem ggJx4a65c_grow_92f84_J8_newLength_cabcc : GoodIn wsJx4a65c_grow_92f84 wsJ8_newLength_cabcc := goodIn_r _ [11, 12, 4, 5, 6, 13, 14, 15, 10, 16] (by decide +kernel) (by decide +kernel)
set_option maxRecDepth 20000 in
theorem gJx4a65c_grow_92f84_J8_newLength_cabcc : GoodIn wsJx4a65c_grow_92f84 (va_wsS RJx4a65c 73 yJ8_newLength_cabcc wsJ8_newLength_cabcc) := goodIn_app (goodIn_of _ (by decide +kernel)) ggJx4a65c_grow_92f84_J8_newLength_cabcc
set_option maxRecDepth 20000 in
theorem ggJx4a65c_grow_92f84_J7_copyOf_1904c : GoodIn wsJx4a65c_grow_92f84 wsJ7_copyOf_1904c := goodIn_r _ [20, 21, 22, 23, 24, 25, 26, 19, 27, 28, 29, 30, 31, 5, 32, 33, 34, 35, 36] (by decide +kernel) (by decide +kernel)
set_option maxRecDepth 20000 in
theorem gJx4a65c_grow_92f84_J7_copyOf_1904c : GoodIn wsJx4a65c_grow_92f84 (va_wsS RJx4a65c 66 yJ7_copyOf_1904c wsJ7_copyOf_1904c) := goodIn_app (goodIn_of _ (by decide +kernel)) ggJx4a65c_grow_92f84_J7_copyOf_1904c
theorem dJx4a65c_grow_92f84_0 : decode cJx4a65c_grow_92f84 0 = .ok (.aload_n 0, 1) := by decide +kernel
theorem dJx4a65c_grow_92f84_1 : decode cJx4a65c_grow_92f84 1 = .ok (.getfield 9, 3) := by decide +kernel
theorem dJx4a65c_grow_92f84_4 : decode cJx4a65c_grow_92f84 4 = .ok (.arraylength, 1) := by decide +kernel
theorem dJx4a65c_grow_92f84_5 : decode cJx4a65c_grow_92f84 5 = .ok (.istore_n 2, 1) := by decide +kernel
theorem dJx4a65c_grow_92f84_6 : decode cJx4a65c_grow_92f84 6 = .ok (.iload_n 2, 1) := by decide +kernel
theorem dJx4a65c_grow_92f84_7 : decode cJx4a65c_grow_92f84 7 = .ok (.ifCond .gt 13, 3) := by decide +kernel
theorem dJx4a65c_grow_92f84_10 : decode cJx4a65c_grow_92f84 10 = .ok (.aload_n 0, 1) := by decide +kernel
theorem dJx4a65c_grow_92f84_11 : decode cJx4a65c_grow_92f84 11 = .ok (.getfield 9, 3) := by decide +kernel
theorem dJx4a65c_grow_92f84_14 : decode cJx4a65c_grow_92f84 14 = .ok (.getstatic 39, 3) := by decide +kernel
theorem dJx4a65c_grow_92f84_17 : decode cJx4a65c_grow_92f84 17 = .ok (.if_acmp .eq 28, 3) := by decide +kernel
theorem dJx4a65c_grow_92f84_20 : decode cJx4a65c_grow_92f84 20 = .ok (.iload_n 2, 1) := by decide +kernel
theorem dJx4a65c_grow_92f84_21 : decode cJx4a65c_grow_92f84 21 = .ok (.iload_n 1, 1) := by decide +kernel
theorem dJx4a65c_grow_92f84_22 : decode cJx4a65c_grow_92f84 22 = .ok (.iload_n 2, 1) := by decide +kernel
theorem dJx4a65c_grow_92f84_23 : decode cJx4a65c_grow_92f84 23 = .ok (.isub, 1) := by decide +kernel
theorem dJx4a65c_grow_92f84_24 : decode cJx4a65c_grow_92f84 24 = .ok (.iload_n 2, 1) := by decide +kernel
theorem dJx4a65c_grow_92f84_25 : decode cJx4a65c_grow_92f84 25 = .ok (.iconst 1, 1) := by decide +kernel
theorem dJx4a65c_grow_92f84_26 : decode cJx4a65c_grow_92f84 26 = .ok (.ishr, 1) := by decide +kernel
theorem dJx4a65c_grow_92f84_27 : decode cJx4a65c_grow_92f84 27 = .ok (.invokestatic 73, 3) := by decide +kernel
theorem dJx4a65c_grow_92f84_30 : decode cJx4a65c_grow_92f84 30 = .ok (.istore_n 3, 1) := by decide +kernel
theorem dJx4a65c_grow_92f84_31 : decode cJx4a65c_grow_92f84 31 = .ok (.aload_n 0, 1) := by decide +kernel
theorem dJx4a65c_grow_92f84_32 : decode cJx4a65c_grow_92f84 32 = .ok (.aload_n 0, 1) := by decide +kernel
theorem dJx4a65c_grow_92f84_33 : decode cJx4a65c_grow_92f84 33 = .ok (.getfield 9, 3) := by decide +kernel
theorem dJx4a65c_grow_92f84_36 : decode cJx4a65c_grow_92f84 36 = .ok (.iload_n 3, 1) := by decide +kernel
theorem dJx4a65c_grow_92f84_37 : decode cJx4a65c_grow_92f84 37 = .ok (.invokestatic 66, 3) := by decide +kernel
theorem dJx4a65c_grow_92f84_40 : decode cJx4a65c_grow_92f84 40 = .ok (.dup_x1, 1) := by decide +kernel
theorem dJx4a65c_grow_92f84_41 : decode cJx4a65c_grow_92f84 41 = .ok (.putfield 9, 3) := by decide +kernel
theorem dJx4a65c_grow_92f84_44 : decode cJx4a65c_grow_92f84 44 = .ok (.areturn, 1) := by decide +kernel
theorem dJx4a65c_grow_92f84_45 : decode cJx4a65c_grow_92f84 45 = .ok (.aload_n 0, 1) := by decide +kernel
theorem dJx4a65c_grow_92f84_46 : decode cJx4a65c_grow_92f84 46 = .ok (.bipush 10, 2) := by decide +kernel
theorem dJx4a65c_grow_92f84_48 : decode cJx4a65c_grow_92f84 48 = .ok (.iload_n 1, 1) := by decide +kernel
theorem dJx4a65c_grow_92f84_49 : decode cJx4a65c_grow_92f84 49 = .ok (.invokestatic 79, 3) := by decide +kernel
theorem dJx4a65c_grow_92f84_52 : decode cJx4a65c_grow_92f84 52 = .ok (.anewarray 7, 3) := by decide +kernel
theorem dJx4a65c_grow_92f84_55 : decode cJx4a65c_grow_92f84 55 = .ok (.dup_x1, 1) := by decide +kernel
theorem dJx4a65c_grow_92f84_56 : decode cJx4a65c_grow_92f84 56 = .ok (.putfield 9, 3) := by decide +kernel
theorem dJx4a65c_grow_92f84_59 : decode cJx4a65c_grow_92f84 59 = .ok (.areturn, 1) := by decide +kernel
set_option maxRecDepth 20000 in
theorem ggJx4a65c_grow_d5877_Jx4a65c_grow_92f84 : GoodIn wsJx4a65c_grow_d5877 wsJx4a65c_grow_92f84 := goodIn_r _ [6, 7, 8, 9, 10, 11, 12, 13, 14, 15, 16, 17, 18, 19, 20, 21, 22, 23, 24, 25, 26, 27, 28, 29, 30, 31, 32, 33, 34, 35, 36, 37, 38, 39, 40, 41, 42, 43, 44, 45] (by decide +kernel) (by decide +kernel)
set_option maxRecDepth 20000 in
theorem gJx4a65c_grow_d5877_Jx4a65c_grow_92f84 : GoodIn wsJx4a65c_grow_d5877 (wsV RJx4a65c 69 RJx4a65c yJx4a65c_grow_92f84 wsJx4a65c_grow_92f84) := goodIn_app (goodIn_of _ (by decide +kernel)) ggJx4a65c_grow_d5877_Jx4a65c_grow_92f84
theorem dJx4a65c_grow_d5877_0 : decode cJx4a65c_grow_d5877 0 = .ok (.aload_n 0, 1) := by decide +kernel
theorem dJx4a65c_grow_d5877_1 : decode cJx4a65c_grow_d5877 1 = .ok (.aload_n 0, 1) := by decide +kernel
theorem dJx4a65c_grow_d5877_2 : decode cJx4a65c_grow_d5877 2 = .ok (.getfield 48, 3) := by decide +kernel
theorem dJx4a65c_grow_d5877_5 : decode cJx4a65c_grow_d5877 5 = .ok (.iconst 1, 1) := by decide +kernel
theorem dJx4a65c_grow_d5877_6 : decode cJx4a65c_grow_d5877 6 = .ok (.iadd, 1) := by decide +kernel
theorem dJx4a65c_grow_d5877_7 : decode cJx4a65c_grow_d5877 7 = .ok (.invokevirtual 69, 3) := by decide +kernel
theorem dJx4a65c_grow_d5877_10 : decode cJx4a65c_grow_d5877 10 = .ok (.areturn, 1) := by decide +kernel
theorem dJx4a65c_size_8abf5_0 : decode cJx4a65c_size_8abf5 0 = .ok (.aload_n 0, 1) := by decide +kernel
theorem dJx4a65c_size_8abf5_1 : decode cJx4a65c_size_8abf5 1 = .ok (.getfield 48, 3) := by decide +kernel
theorem dJx4a65c_size_8abf5_4 : decode cJx4a65c_size_8abf5 4 = .ok (.ireturn, 1) := by decide +kernel
theorem dJx4a65c_isEmpty_aae02_0 : decode cJx4a65c_isEmpty_aae02 0 = .ok (.aload_n 0, 1) := by decide +kernel
theorem dJx4a65c_isEmpty_aae02_1 : decode cJx4a65c_isEmpty_aae02 1 = .ok (.getfield 48, 3) := by decide +kernel
theorem dJx4a65c_isEmpty_aae02_4 : decode cJx4a65c_isEmpty_aae02 4 = .ok (.ifCond .ne 7, 3) := by decide +kernel
theorem dJx4a65c_isEmpty_aae02_7 : decode cJx4a65c_isEmpty_aae02 7 = .ok (.iconst 1, 1) := by decide +kernel
theorem dJx4a65c_isEmpty_aae02_8 : decode cJx4a65c_isEmpty_aae02 8 = .ok (.goto 4, 3) := by decide +kernel
theorem dJx4a65c_isEmpty_aae02_11 : decode cJx4a65c_isEmpty_aae02 11 = .ok (.iconst 0, 1) := by decide +kernel
theorem dJx4a65c_isEmpty_aae02_12 : decode cJx4a65c_isEmpty_aae02 12 = .ok (.ireturn, 1) := by decide +kernel
theorem dJx4a65c_elementData_915e3_0 : decode cJx4a65c_elementData_915e3 0 = .ok (.aload_n 0, 1) := by decide +kernel
theorem dJx4a65c_elementData_915e3_1 : decode cJx4a65c_elementData_915e3 1 = .ok (.getfield 9, 3) := by decide +kernel
theorem dJx4a65c_elementData_915e3_4 : decode cJx4a65c_elementData_915e3 4 = .ok (.iload_n 1, 1) := by decide +kernel
theorem dJx4a65c_elementData_915e3_5 : decode cJx4a65c_elementData_915e3 5 = .ok (.aaload, 1) := by decide +kernel
theorem dJx4a65c_elementData_915e3_6 : decode cJx4a65c_elementData_915e3 6 = .ok (.areturn, 1) := by decide +kernel
set_option maxRecDepth 20000 in
theorem ggJx4a65c_get_915e3_J15_checkIndex_7cf53 : GoodIn wsJx4a65c_get_915e3 wsJ15_checkIndex_7cf53 := goodIn_r _ [5, 6, 7, 8, 9] (by decide +kernel) (by decide +kernel)
set_option maxRecDepth 20000 in
theorem gJx4a65c_get_915e3_J15_checkIndex_7cf53 : GoodIn wsJx4a65c_get_915e3 (va_wsS RJx4a65c 118 yJ15_checkIndex_7cf53 wsJ15_checkIndex_7cf53) := goodIn_app (goodIn_of _ (by decide +kernel)) ggJx4a65c_get_915e3_J15_checkIndex_7cf53
set_option maxRecDepth 20000 in
theorem ggJx4a65c_get_915e3_Jx4a65c_elementData_915e3 : GoodIn wsJx4a65c_get_915e3 wsJx4a65c_elementData_915e3 := goodIn_r _ [14, 15, 16, 17, 18] (by decide +kernel) (by decide +kernel)
set_option maxRecDepth 20000 in
theorem gJx4a65c_get_915e3_Jx4a65c_elementData_915e3 : GoodIn wsJx4a65c_get_915e3 (wsV RJx4a65c 123 RJx4a65c yJx4a65c_elementData_915e3 wsJx4a65c_elementData_915e3) := goodIn_app (goodIn_of _ (by decide +kernel)) ggJx4a65c_get_915e3_Jx4a65c_elementData_915e3
theorem dJx4a65c_get_915e3_0 : decode cJx4a65c_get_915e3 0 = .ok (.iload_n 1, 1) := by decide +kernel
theorem dJx4a65c_get_915e3_1 : decode cJx4a65c_get_915e3 1 = .ok (.aload_n 0, 1) := by decide +kernel
theorem dJx4a65c_get_915e3_2 : decode cJx4a65c_get_915e3 2 = .ok (.getfield 48, 3) := by decide +kernel
theorem dJx4a65c_get_915e3_5 : decode cJx4a65c_get_915e3 5 = .ok (.invokestatic 118, 3) := by decide +kernel
theorem dJx4a65c_get_915e3_8 : decode cJx4a65c_get_915e3 8 = .ok (.pop, 1) := by decide +kernel
theorem dJx4a65c_get_915e3_9 : decode cJx4a65c_get_915e3 9 = .ok (.aload_n 0, 1) := by decide +kernel
theorem dJx4a65c_get_915e3_10 : decode cJx4a65c_get_915e3 10 = .ok (.iload_n 1, 1) := by decide +kernel
theorem dJx4a65c_get_915e3_11 : decode cJx4a65c_get_915e3 11 = .ok (.invokevirtual 123, 3) := by decide +kernel
theorem dJx4a65c_get_915e3_14 : decode cJx4a65c_get_915e3 14 = .ok (.areturn, 1) := by decide +kernel
set_option maxRecDepth 20000 in
theorem ggJx4a65c_add_72be8_Jx4a65c_grow_d5877 : GoodIn wsJx4a65c_add_72be8 wsJx4a65c_grow_d5877 := goodIn_r _ [6, 1, 7, 8, 9, 5, 10, 11, 12, 13, 14, 15, 16, 17, 18, 19, 20, 21, 22, 23, 24, 25, 26, 27, 28, 29, 30, 31, 32, 33, 34, 35, 36, 37, 38, 39, 40, 41, 42, 43, 44, 45, 46, 47, 48, 49] (by decide +kernel) (by decide +kernel)
set_option maxRecDepth 20000 in
theorem gJx4a65c_add_72be8_Jx4a65c_grow_d5877 : GoodIn wsJx4a65c_add_72be8 (wsV RJx4a65c 129 RJx4a65c yJx4a65c_grow_d5877 wsJx4a65c_grow_d5877) := goodIn_app (goodIn_of _ (by decide +kernel)) ggJx4a65c_add_72be8_Jx4a65c_grow_d5877
theorem dJx4a65c_add_72be8_0 : decode cJx4a65c_add_72be8 0 = .ok (.iload_n 3, 1) := by decide +kernel
theorem dJx4a65c_add_72be8_1 : decode cJx4a65c_add_72be8 1 = .ok (.aload_n 2, 1) := by decide +kernel
theorem dJx4a65c_add_72be8_2 : decode cJx4a65c_add_72be8 2 = .ok (.arraylength, 1) := by decide +kernel
theorem dJx4a65c_add_72be8_3 : decode cJx4a65c_add_72be8 3 = .ok (.if_icmp .ne 8, 3) := by decide +kernel
theorem dJx4a65c_add_72be8_6 : decode cJx4a65c_add_72be8 6 = .ok (.aload_n 0, 1) := by decide +kernel
theorem dJx4a65c_add_72be8_7 : decode cJx4a65c_add_72be8 7 = .ok (.invokevirtual 129, 3) := by decide +kernel
theorem dJx4a65c_add_72be8_10 : decode cJx4a65c_add_72be8 10 = .ok (.astore_n 2, 1) := by decide +kernel
theorem dJx4a65c_add_72be8_11 : decode cJx4a65c_add_72be8 11 = .ok (.aload_n 2, 1) := by decide +kernel
theorem dJx4a65c_add_72be8_12 : decode cJx4a65c_add_72be8 12 = .ok (.iload_n 3, 1) := by decide +kernel
theorem dJx4a65c_add_72be8_13 : decode cJx4a65c_add_72be8 13 = .ok (.aload_n 1, 1) := by decide +kernel
theorem dJx4a65c_add_72be8_14 : decode cJx4a65c_add_72be8 14 = .ok (.aastore, 1) := by decide +kernel
theorem dJx4a65c_add_72be8_15 : decode cJx4a65c_add_72be8 15 = .ok (.aload_n 0, 1) := by decide +kernel
theorem dJx4a65c_add_72be8_16 : decode cJx4a65c_add_72be8 16 = .ok (.iload_n 3, 1) := by decide +kernel
theorem dJx4a65c_add_72be8_17 : decode cJx4a65c_add_72be8 17 = .ok (.iconst 1, 1) := by decide +kernel
theorem dJx4a65c_add_72be8_18 : decode cJx4a65c_add_72be8 18 = .ok (.iadd, 1) := by decide +kernel
theorem dJx4a65c_add_72be8_19 : decode cJx4a65c_add_72be8 19 = .ok (.putfield 48, 3) := by decide +kernel
theorem dJx4a65c_add_72be8_22 : decode cJx4a65c_add_72be8 22 = .ok (.return_, 1) := by decide +kernel
set_option maxRecDepth 20000 in
theorem ggJx4a65c_add_9ea2d_Jx4a65c_add_72be8 : GoodIn wsJx4a65c_add_9ea2d wsJx4a65c_add_72be8 := goodIn_r _ [9, 4, 10, 11, 12, 8, 13, 14, 15, 16, 17, 3, 18, 19, 20, 21, 22, 23, 24, 25, 26, 27, 28, 29, 30, 31, 32, 33, 34, 35, 36, 37, 38, 39, 40, 41, 42, 43, 44, 45, 46, 47, 48, 49, 50, 51, 52, 53, 54, 55] (by decide +kernel) (by decide +kernel)
set_option maxRecDepth 20000 in
theorem gJx4a65c_add_9ea2d_Jx4a65c_add_72be8 : GoodIn wsJx4a65c_add_9ea2d (wsV RJx4a65c 131 RJx4a65c yJx4a65c_add_72be8 wsJx4a65c_add_72be8) := goodIn_app (goodIn_of _ (by decide +kernel)) ggJx4a65c_add_9ea2d_Jx4a65c_add_72be8
theorem dJx4a65c_add_9ea2d_0 : decode cJx4a65c_add_9ea2d 0 = .ok (.aload_n 0, 1) := by decide +kernel
theorem dJx4a65c_add_9ea2d_1 : decode cJx4a65c_add_9ea2d 1 = .ok (.dup, 1) := by decide +kernel
theorem dJx4a65c_add_9ea2d_2 : decode cJx4a65c_add_9ea2d 2 = .ok (.getfield 63, 3) := by decide +kernel
theorem dJx4a65c_add_9ea2d_5 : decode cJx4a65c_add_9ea2d 5 = .ok (.iconst 1, 1) := by decide +kernel
theorem dJx4a65c_add_9ea2d_6 : decode cJx4a65c_add_9ea2d 6 = .ok (.iadd, 1) := by decide +kernel
theorem dJx4a65c_add_9ea2d_7 : decode cJx4a65c_add_9ea2d 7 = .ok (.putfield 63, 3) := by decide +kernel
theorem dJx4a65c_add_9ea2d_10 : decode cJx4a65c_add_9ea2d 10 = .ok (.aload_n 0, 1) := by decide +kernel
theorem dJx4a65c_add_9ea2d_11 : decode cJx4a65c_add_9ea2d 11 = .ok (.aload_n 1, 1) := by decide +kernel
theorem dJx4a65c_add_9ea2d_12 : decode cJx4a65c_add_9ea2d 12 = .ok (.aload_n 0, 1) := by decide +kernel
theorem dJx4a65c_add_9ea2d_13 : decode cJx4a65c_add_9ea2d 13 = .ok (.getfield 9, 3) := by decide +kernel
theorem dJx4a65c_add_9ea2d_16 : decode cJx4a65c_add_9ea2d 16 = .ok (.aload_n 0, 1) := by decide +kernel
theorem dJx4a65c_add_9ea2d_17 : decode cJx4a65c_add_9ea2d 17 = .ok (.getfield 48, 3) := by decide +kernel
theorem dJx4a65c_add_9ea2d_20 : decode cJx4a65c_add_9ea2d 20 = .ok (.invokevirtual 131, 3) := by decide +kernel
theorem dJx4a65c_add_9ea2d_23 : decode cJx4a65c_add_9ea2d 23 = .ok (.iconst 1, 1) := by decide +kernel
theorem dJx4a65c_add_9ea2d_24 : decode cJx4a65c_add_9ea2d 24 = .ok (.ireturn, 1) := by decide +kernel
set_option maxRecDepth 20000 in
theorem ggJx4a65c_remove_915e3_J15_checkIndex_7cf53 : GoodIn wsJx4a65c_remove_915e3 wsJ15_checkIndex_7cf53 := goodIn_r _ [6, 7, 8, 9, 10] (by decide +kernel) (by decide +kernel)
set_option maxRecDepth 20000 in
theorem gJx4a65c_remove_915e3_J15_checkIndex_7cf53 : GoodIn wsJx4a65c_remove_915e3 (va_wsS RJx4a65c 118 yJ15_checkIndex_7cf53 wsJ15_checkIndex_7cf53) := goodIn_app (goodIn_of _ (by decide +kernel)) ggJx4a65c_remove_915e3_J15_checkIndex_7cf53
set_option maxRecDepth 20000 in
theorem ggJx4a65c_remove_915e3_Jx4a65c_fastRemove_b59b0 : GoodIn wsJx4a65c_remove_915e3 wsJx4a65c_fastRemove_b59b0 := goodIn_r _ [15, 16, 17, 1, 18, 19, 20, 21, 22, 23, 24] (by decide +kernel) (by decide +kernel)
set_option maxRecDepth 20000 in
theorem gJx4a65c_remove_915e3_Jx4a65c_fastRemove_b59b0 : GoodIn wsJx4a65c_remove_915e3 (wsV RJx4a65c 144 RJx4a65c yJx4a65c_fastRemove_b59b0 wsJx4a65c_fastRemove_b59b0) := goodIn_app (goodIn_of _ (by decide +kernel)) ggJx4a65c_remove_915e3_Jx4a65c_fastRemove_b59b0
theorem dJx4a65c_remove_915e3_0 : decode cJx4a65c_remove_915e3 0 = .ok (.iload_n 1, 1) := by decide +kernel
theorem dJx4a65c_remove_915e3_1 : decode cJx4a65c_remove_915e3 1 = .ok (.aload_n 0, 1) := by decide +kernel
theorem dJx4a65c_remove_915e3_2 : decode cJx4a65c_remove_915e3 2 = .ok (.getfield 48, 3) := by decide +kernel
theorem dJx4a65c_remove_915e3_5 : decode cJx4a65c_remove_915e3 5 = .ok (.invokestatic 118, 3) := by decide +kernel
theorem dJx4a65c_remove_915e3_8 : decode cJx4a65c_remove_915e3 8 = .ok (.pop, 1) := by decide +kernel
theorem dJx4a65c_remove_915e3_9 : decode cJx4a65c_remove_915e3 9 = .ok (.aload_n 0, 1) := by decide +kernel
theorem dJx4a65c_remove_915e3_10 : decode cJx4a65c_remove_915e3 10 = .ok (.getfield 9, 3) := by decide +kernel
theorem dJx4a65c_remove_915e3_13 : decode cJx4a65c_remove_915e3 13 = .ok (.astore_n 2, 1) := by decide +kernel
theorem dJx4a65c_remove_915e3_14 : decode cJx4a65c_remove_915e3 14 = .ok (.aload_n 2, 1) := by decide +kernel
theorem dJx4a65c_remove_915e3_15 : decode cJx4a65c_remove_915e3 15 = .ok (.iload_n 1, 1) := by decide +kernel
theorem dJx4a65c_remove_915e3_16 : decode cJx4a65c_remove_915e3 16 = .ok (.aaload, 1) := by decide +kernel
theorem dJx4a65c_remove_915e3_17 : decode cJx4a65c_remove_915e3 17 = .ok (.astore_n 3, 1) := by decide +kernel
theorem dJx4a65c_remove_915e3_18 : decode cJx4a65c_remove_915e3 18 = .ok (.aload_n 0, 1) := by decide +kernel
theorem dJx4a65c_remove_915e3_19 : decode cJx4a65c_remove_915e3 19 = .ok (.aload_n 2, 1) := by decide +kernel
theorem dJx4a65c_remove_915e3_20 : decode cJx4a65c_remove_915e3 20 = .ok (.iload_n 1, 1) := by decide +kernel
theorem dJx4a65c_remove_915e3_21 : decode cJx4a65c_remove_915e3 21 = .ok (.invokevirtual 144, 3) := by decide +kernel
theorem dJx4a65c_remove_915e3_24 : decode cJx4a65c_remove_915e3 24 = .ok (.aload_n 3, 1) := by decide +kernel
theorem dJx4a65c_remove_915e3_25 : decode cJx4a65c_remove_915e3 25 = .ok (.areturn, 1) := by decide +kernel
theorem dJx4a65c_fastRemove_b59b0_0 : decode cJx4a65c_fastRemove_b59b0 0 = .ok (.aload_n 0, 1) := by decide +kernel
theorem dJx4a65c_fastRemove_b59b0_1 : decode cJx4a65c_fastRemove_b59b0 1 = .ok (.dup, 1) := by decide +kernel
theorem dJx4a65c_fastRemove_b59b0_2 : decode cJx4a65c_fastRemove_b59b0 2 = .ok (.getfield 63, 3) := by decide +kernel
theorem dJx4a65c_fastRemove_b59b0_5 : decode cJx4a65c_fastRemove_b59b0 5 = .ok (.iconst 1, 1) := by decide +kernel
theorem dJx4a65c_fastRemove_b59b0_6 : decode cJx4a65c_fastRemove_b59b0 6 = .ok (.iadd, 1) := by decide +kernel
theorem dJx4a65c_fastRemove_b59b0_7 : decode cJx4a65c_fastRemove_b59b0 7 = .ok (.putfield 63, 3) := by decide +kernel
theorem dJx4a65c_fastRemove_b59b0_10 : decode cJx4a65c_fastRemove_b59b0 10 = .ok (.aload_n 0, 1) := by decide +kernel
theorem dJx4a65c_fastRemove_b59b0_11 : decode cJx4a65c_fastRemove_b59b0 11 = .ok (.getfield 48, 3) := by decide +kernel
theorem dJx4a65c_fastRemove_b59b0_14 : decode cJx4a65c_fastRemove_b59b0 14 = .ok (.iconst 1, 1) := by decide +kernel
theorem dJx4a65c_fastRemove_b59b0_15 : decode cJx4a65c_fastRemove_b59b0 15 = .ok (.isub, 1) := by decide +kernel
theorem dJx4a65c_fastRemove_b59b0_16 : decode cJx4a65c_fastRemove_b59b0 16 = .ok (.dup, 1) := by decide +kernel
theorem dJx4a65c_fastRemove_b59b0_17 : decode cJx4a65c_fastRemove_b59b0 17 = .ok (.istore_n 3, 1) := by decide +kernel
theorem dJx4a65c_fastRemove_b59b0_18 : decode cJx4a65c_fastRemove_b59b0 18 = .ok (.iload_n 2, 1) := by decide +kernel
theorem dJx4a65c_fastRemove_b59b0_19 : decode cJx4a65c_fastRemove_b59b0 19 = .ok (.if_icmp .le 15, 3) := by decide +kernel
theorem dJx4a65c_fastRemove_b59b0_22 : decode cJx4a65c_fastRemove_b59b0 22 = .ok (.aload_n 1, 1) := by decide +kernel
theorem dJx4a65c_fastRemove_b59b0_23 : decode cJx4a65c_fastRemove_b59b0 23 = .ok (.iload_n 2, 1) := by decide +kernel
theorem dJx4a65c_fastRemove_b59b0_24 : decode cJx4a65c_fastRemove_b59b0 24 = .ok (.iconst 1, 1) := by decide +kernel
theorem dJx4a65c_fastRemove_b59b0_25 : decode cJx4a65c_fastRemove_b59b0 25 = .ok (.iadd, 1) := by decide +kernel
theorem dJx4a65c_fastRemove_b59b0_26 : decode cJx4a65c_fastRemove_b59b0 26 = .ok (.aload_n 1, 1) := by decide +kernel
theorem dJx4a65c_fastRemove_b59b0_27 : decode cJx4a65c_fastRemove_b59b0 27 = .ok (.iload_n 2, 1) := by decide +kernel
theorem dJx4a65c_fastRemove_b59b0_28 : decode cJx4a65c_fastRemove_b59b0 28 = .ok (.iload_n 3, 1) := by decide +kernel
theorem dJx4a65c_fastRemove_b59b0_29 : decode cJx4a65c_fastRemove_b59b0 29 = .ok (.iload_n 2, 1) := by decide +kernel
theorem dJx4a65c_fastRemove_b59b0_30 : decode cJx4a65c_fastRemove_b59b0 30 = .ok (.isub, 1) := by decide +kernel
theorem dJx4a65c_fastRemove_b59b0_31 : decode cJx4a65c_fastRemove_b59b0 31 = .ok (.invokestatic 112, 3) := by decide +kernel
theorem dJx4a65c_fastRemove_b59b0_34 : decode cJx4a65c_fastRemove_b59b0 34 = .ok (.aload_n 1, 1) := by decide +kernel
theorem dJx4a65c_fastRemove_b59b0_35 : decode cJx4a65c_fastRemove_b59b0 35 = .ok (.aload_n 0, 1) := by decide +kernel
theorem dJx4a65c_fastRemove_b59b0_36 : decode cJx4a65c_fastRemove_b59b0 36 = .ok (.iload_n 3, 1) := by decide +kernel
theorem dJx4a65c_fastRemove_b59b0_37 : decode cJx4a65c_fastRemove_b59b0 37 = .ok (.dup_x1, 1) := by decide +kernel
theorem dJx4a65c_fastRemove_b59b0_38 : decode cJx4a65c_fastRemove_b59b0 38 = .ok (.putfield 48, 3) := by decide +kernel
theorem dJx4a65c_fastRemove_b59b0_41 : decode cJx4a65c_fastRemove_b59b0 41 = .ok (.aconst_null, 1) := by decide +kernel
theorem dJx4a65c_fastRemove_b59b0_42 : decode cJx4a65c_fastRemove_b59b0 42 = .ok (.aastore, 1) := by decide +kernel
theorem dJx4a65c_fastRemove_b59b0_43 : decode cJx4a65c_fastRemove_b59b0 43 = .ok (.return_, 1) := by decide +kernel
set_option maxRecDepth 20000 in
theorem ggJ7_copyOf_1904c_J7_copyOf_6403c : GoodIn wsJ7_copyOf_1904c wsJ7_copyOf_6403c := goodIn_r _ [8, 9, 10, 11, 12, 13, 14, 15, 16, 17, 18] (by decide +kernel) (by decide +kernel)
set_option maxRecDepth 20000 in
theorem gJ7_copyOf_1904c_J7_copyOf_6403c : GoodIn wsJ7_copyOf_1904c (va_wsS RJ7 300 yJ7_copyOf_6403c wsJ7_copyOf_6403c) := goodIn_app (goodIn_of _ (by decide +kernel)) ggJ7_copyOf_1904c_J7_copyOf_6403c
theorem dJ7_copyOf_1904c_0 : decode cJ7_copyOf_1904c 0 = .ok (.aload_n 0, 1) := by decide +kernel
theorem dJ7_copyOf_1904c_1 : decode cJ7_copyOf_1904c 1 = .ok (.iload_n 1, 1) := by decide +kernel
theorem dJ7_copyOf_1904c_2 : decode cJ7_copyOf_1904c 2 = .ok (.aload_n 0, 1) := by decide +kernel
theorem dJ7_copyOf_1904c_3 : decode cJ7_copyOf_1904c 3 = .ok (.invokevirtual 86, 3) := by decide +kernel
theorem dJ7_copyOf_1904c_6 : decode cJ7_copyOf_1904c 6 = .ok (.invokestatic 300, 3) := by decide +kernel
theorem dJ7_copyOf_1904c_9 : decode cJ7_copyOf_1904c 9 = .ok (.areturn, 1) := by decide +kernel
theorem dJ7_copyOf_6403c_0 : decode cJ7_copyOf_6403c 0 = .ok (.aload_n 2, 1) := by decide +kernel
theorem dJ7_copyOf_6403c_1 : decode cJ7_copyOf_6403c 1 = .ok (.ldc 110, 2) := by decide +kernel
theorem dJ7_copyOf_6403c_3 : decode cJ7_copyOf_6403c 3 = .ok (.if_acmp .ne 10, 3) := by decide +kernel
theorem dJ7_copyOf_6403c_6 : decode cJ7_copyOf_6403c 6 = .ok (.iload_n 1, 1) := by decide +kernel
theorem dJ7_copyOf_6403c_7 : decode cJ7_copyOf_6403c 7 = .ok (.anewarray 2, 3) := by decide +kernel
theorem dJ7_copyOf_6403c_10 : decode cJ7_copyOf_6403c 10 = .ok (.goto 14, 3) := by decide +kernel
theorem dJ7_copyOf_6403c_13 : decode cJ7_copyOf_6403c 13 = .ok (.aload_n 2, 1) := by decide +kernel
theorem dJ7_copyOf_6403c_14 : decode cJ7_copyOf_6403c 14 = .ok (.invokevirtual 90, 3) := by decide +kernel
theorem dJ7_copyOf_6403c_17 : decode cJ7_copyOf_6403c 17 = .ok (.iload_n 1, 1) := by decide +kernel
theorem dJ7_copyOf_6403c_18 : decode cJ7_copyOf_6403c 18 = .ok (.invokestatic 95, 3) := by decide +kernel
theorem dJ7_copyOf_6403c_21 : decode cJ7_copyOf_6403c 21 = .ok (.checkcast 110, 3) := by decide +kernel
theorem dJ7_copyOf_6403c_24 : decode cJ7_copyOf_6403c 24 = .ok (.astore_n 3, 1) := by decide +kernel
theorem dJ7_copyOf_6403c_25 : decode cJ7_copyOf_6403c 25 = .ok (.aload_n 0, 1) := by decide +kernel
theorem dJ7_copyOf_6403c_26 : decode cJ7_copyOf_6403c 26 = .ok (.iconst 0, 1) := by decide +kernel
theorem dJ7_copyOf_6403c_27 : decode cJ7_copyOf_6403c 27 = .ok (.aload_n 3, 1) := by decide +kernel
theorem dJ7_copyOf_6403c_28 : decode cJ7_copyOf_6403c 28 = .ok (.iconst 0, 1) := by decide +kernel
theorem dJ7_copyOf_6403c_29 : decode cJ7_copyOf_6403c 29 = .ok (.aload_n 0, 1) := by decide +kernel
theorem dJ7_copyOf_6403c_30 : decode cJ7_copyOf_6403c 30 = .ok (.arraylength, 1) := by decide +kernel
theorem dJ7_copyOf_6403c_31 : decode cJ7_copyOf_6403c 31 = .ok (.iload_n 1, 1) := by decide +kernel
theorem dJ7_copyOf_6403c_32 : decode cJ7_copyOf_6403c 32 = .ok (.invokestatic 304, 3) := by decide +kernel
theorem dJ7_copyOf_6403c_35 : decode cJ7_copyOf_6403c 35 = .ok (.invokestatic 150, 3) := by decide +kernel
theorem dJ7_copyOf_6403c_38 : decode cJ7_copyOf_6403c 38 = .ok (.aload_n 3, 1) := by decide +kernel
theorem dJ7_copyOf_6403c_39 : decode cJ7_copyOf_6403c 39 = .ok (.areturn, 1) := by decide +kernel
set_option maxRecDepth 20000 in
theorem ggJ15_checkIndex_7cf53_J3_checkIndex_8e157 : GoodIn wsJ15_checkIndex_7cf53 wsJ3_checkIndex_8e157 := goodIn_r _ [4] (by decide +kernel) (by decide +kernel)
set_option maxRecDepth 20000 in
theorem gJ15_checkIndex_7cf53_J3_checkIndex_8e157 : GoodIn wsJ15_checkIndex_7cf53 (va_wsS RJ15 105 yJ3_checkIndex_8e157 wsJ3_checkIndex_8e157) := goodIn_app (goodIn_of _ (by decide +kernel)) ggJ15_checkIndex_7cf53_J3_checkIndex_8e157
theorem dJ15_checkIndex_7cf53_0 : decode cJ15_checkIndex_7cf53 0 = .ok (.iload_n 0, 1) := by decide +kernel
theorem dJ15_checkIndex_7cf53_1 : decode cJ15_checkIndex_7cf53 1 = .ok (.iload_n 1, 1) := by decide +kernel
theorem dJ15_checkIndex_7cf53_2 : decode cJ15_checkIndex_7cf53 2 = .ok (.aconst_null, 1) := by decide +kernel
theorem dJ15_checkIndex_7cf53_3 : decode cJ15_checkIndex_7cf53 3 = .ok (.invokestatic 105, 3) := by decide +kernel
theorem dJ15_checkIndex_7cf53_6 : decode cJ15_checkIndex_7cf53 6 = .ok (.ireturn, 1) := by decide +kernel
set_option maxRecDepth 20000 in
theorem ggJ8_newLength_cabcc_J8_hugeLength_7cf53 : GoodIn wsJ8_newLength_cabcc wsJ8_hugeLength_7cf53 := goodIn_r _ [9, 5] (by decide +kernel) (by decide +kernel)
set_option maxRecDepth 20000 in
theorem gJ8_newLength_cabcc_J8_hugeLength_7cf53 : GoodIn wsJ8_newLength_cabcc (va_wsS RJ8 201 yJ8_hugeLength_7cf53 wsJ8_hugeLength_7cf53) := goodIn_app (goodIn_of _ (by decide +kernel)) ggJ8_newLength_cabcc_J8_hugeLength_7cf53
theorem dJ8_newLength_cabcc_0 : decode cJ8_newLength_cabcc 0 = .ok (.iload_n 0, 1) := by decide +kernel
theorem dJ8_newLength_cabcc_1 : decode cJ8_newLength_cabcc 1 = .ok (.iload_n 1, 1) := by decide +kernel
theorem dJ8_newLength_cabcc_2 : decode cJ8_newLength_cabcc 2 = .ok (.iload_n 2, 1) := by decide +kernel
theorem dJ8_newLength_cabcc_3 : decode cJ8_newLength_cabcc 3 = .ok (.invokestatic 194, 3) := by decide +kernel
theorem dJ8_newLength_cabcc_6 : decode cJ8_newLength_cabcc 6 = .ok (.iadd, 1) := by decide +kernel
theorem dJ8_newLength_cabcc_7 : decode cJ8_newLength_cabcc 7 = .ok (.istore_n 3, 1) := by decide +kernel
theorem dJ8_newLength_cabcc_8 : decode cJ8_newLength_cabcc 8 = .ok (.iconst 0, 1) := by decide +kernel
theorem dJ8_newLength_cabcc_9 : decode cJ8_newLength_cabcc 9 = .ok (.iload_n 3, 1) := by decide +kernel
theorem dJ8_newLength_cabcc_10 : decode cJ8_newLength_cabcc 10 = .ok (.if_icmp .ge 11, 3) := by decide +kernel
theorem dJ8_newLength_cabcc_13 : decode cJ8_newLength_cabcc 13 = .ok (.iload_n 3, 1) := by decide +kernel
theorem dJ8_newLength_cabcc_14 : decode cJ8_newLength_cabcc 14 = .ok (.ldc 200, 2) := by decide +kernel
theorem dJ8_newLength_cabcc_16 : decode cJ8_newLength_cabcc 16 = .ok (.if_icmp .gt 5, 3) := by decide +kernel
theorem dJ8_newLength_cabcc_19 : decode cJ8_newLength_cabcc 19 = .ok (.iload_n 3, 1) := by decide +kernel
theorem dJ8_newLength_cabcc_20 : decode cJ8_newLength_cabcc 20 = .ok (.ireturn, 1) := by decide +kernel
theorem dJ8_newLength_cabcc_21 : decode cJ8_newLength_cabcc 21 = .ok (.iload_n 0, 1) := by decide +kernel
theorem dJ8_newLength_cabcc_22 : decode cJ8_newLength_cabcc 22 = .ok (.iload_n 1, 1) := by decide +kernel
theorem dJ8_newLength_cabcc_23 : decode cJ8_newLength_cabcc 23 = .ok (.invokestatic 201, 3) := by decide +kernel
theorem dJ8_newLength_cabcc_26 : decode cJ8_newLength_cabcc 26 = .ok (.ireturn, 1) := by decide +kernel
theorem dJ8_hugeLength_7cf53_0 : decode cJ8_hugeLength_7cf53 0 = .ok (.iload_n 0, 1) := by decide +kernel
theorem dJ8_hugeLength_7cf53_1 : decode cJ8_hugeLength_7cf53 1 = .ok (.iload_n 1, 1) := by decide +kernel
theorem dJ8_hugeLength_7cf53_2 : decode cJ8_hugeLength_7cf53 2 = .ok (.iadd, 1) := by decide +kernel
theorem dJ8_hugeLength_7cf53_3 : decode cJ8_hugeLength_7cf53 3 = .ok (.istore_n 2, 1) := by decide +kernel
theorem dJ8_hugeLength_7cf53_4 : decode cJ8_hugeLength_7cf53 4 = .ok (.iload_n 2, 1) := by decide +kernel
theorem dJ8_hugeLength_7cf53_5 : decode cJ8_hugeLength_7cf53 5 = .ok (.ifCond .ge 44, 3) := by decide +kernel
theorem dJ8_hugeLength_7cf53_8 : decode cJ8_hugeLength_7cf53 8 = .ok (.new 204, 3) := by decide +kernel
theorem dJ8_hugeLength_7cf53_11 : decode cJ8_hugeLength_7cf53 11 = .ok (.dup, 1) := by decide +kernel
theorem dJ8_hugeLength_7cf53_12 : decode cJ8_hugeLength_7cf53 12 = .ok (.new 89, 3) := by decide +kernel
theorem dJ8_hugeLength_7cf53_15 : decode cJ8_hugeLength_7cf53 15 = .ok (.dup, 1) := by decide +kernel
theorem dJ8_hugeLength_7cf53_16 : decode cJ8_hugeLength_7cf53 16 = .ok (.invokespecial 91, 3) := by decide +kernel
theorem dJ8_hugeLength_7cf53_19 : decode cJ8_hugeLength_7cf53 19 = .ok (.ldc 206, 2) := by decide +kernel
theorem dJ8_hugeLength_7cf53_21 : decode cJ8_hugeLength_7cf53 21 = .ok (.invokevirtual 94, 3) := by decide +kernel
theorem dJ8_hugeLength_7cf53_24 : decode cJ8_hugeLength_7cf53 24 = .ok (.iload_n 0, 1) := by decide +kernel
theorem dJ8_hugeLength_7cf53_25 : decode cJ8_hugeLength_7cf53 25 = .ok (.invokevirtual 98, 3) := by decide +kernel
theorem dJ8_hugeLength_7cf53_28 : decode cJ8_hugeLength_7cf53 28 = .ok (.ldc 208, 2) := by decide +kernel
theorem dJ8_hugeLength_7cf53_30 : decode cJ8_hugeLength_7cf53 30 = .ok (.invokevirtual 94, 3) := by decide +kernel
theorem dJ8_hugeLength_7cf53_33 : decode cJ8_hugeLength_7cf53 33 = .ok (.iload_n 1, 1) := by decide +kernel
theorem dJ8_hugeLength_7cf53_34 : decode cJ8_hugeLength_7cf53 34 = .ok (.invokevirtual 98, 3) := by decide +kernel
theorem dJ8_hugeLength_7cf53_37 : decode cJ8_hugeLength_7cf53 37 = .ok (.ldc 210, 2) := by decide +kernel
theorem dJ8_hugeLength_7cf53_39 : decode cJ8_hugeLength_7cf53 39 = .ok (.invokevirtual 94, 3) := by decide +kernel
theorem dJ8_hugeLength_7cf53_42 : decode cJ8_hugeLength_7cf53 42 = .ok (.invokevirtual 101, 3) := by decide +kernel
theorem dJ8_hugeLength_7cf53_45 : decode cJ8_hugeLength_7cf53 45 = .ok (.invokespecial 212, 3) := by decide +kernel
theorem dJ8_hugeLength_7cf53_48 : decode cJ8_hugeLength_7cf53 48 = .ok (.athrow, 1) := by decide +kernel
theorem dJ8_hugeLength_7cf53_49 : decode cJ8_hugeLength_7cf53 49 = .ok (.iload_n 2, 1) := by decide +kernel
theorem dJ8_hugeLength_7cf53_50 : decode cJ8_hugeLength_7cf53 50 = .ok (.ldc 200, 2) := by decide +kernel
theorem dJ8_hugeLength_7cf53_52 : decode cJ8_hugeLength_7cf53 52 = .ok (.if_icmp .gt 6, 3) := by decide +kernel
theorem dJ8_hugeLength_7cf53_55 : decode cJ8_hugeLength_7cf53 55 = .ok (.ldc 200, 2) := by decide +kernel
theorem dJ8_hugeLength_7cf53_57 : decode cJ8_hugeLength_7cf53 57 = .ok (.ireturn, 1) := by decide +kernel
theorem dJ8_hugeLength_7cf53_58 : decode cJ8_hugeLength_7cf53 58 = .ok (.iload_n 2, 1) := by decide +kernel
theorem dJ8_hugeLength_7cf53_59 : decode cJ8_hugeLength_7cf53 59 = .ok (.ireturn, 1) := by decide +kernel
theorem dJ3_checkIndex_8e157_0 : decode cJ3_checkIndex_8e157 0 = .ok (.iload_n 0, 1) := by decide +kernel
theorem dJ3_checkIndex_8e157_1 : decode cJ3_checkIndex_8e157 1 = .ok (.ifCond .lt 8, 3) := by decide +kernel
theorem dJ3_checkIndex_8e157_4 : decode cJ3_checkIndex_8e157 4 = .ok (.iload_n 0, 1) := by decide +kernel
theorem dJ3_checkIndex_8e157_5 : decode cJ3_checkIndex_8e157 5 = .ok (.iload_n 1, 1) := by decide +kernel
theorem dJ3_checkIndex_8e157_6 : decode cJ3_checkIndex_8e157 6 = .ok (.if_icmp .lt 10, 3) := by decide +kernel
theorem dJ3_checkIndex_8e157_9 : decode cJ3_checkIndex_8e157 9 = .ok (.aload_n 2, 1) := by decide +kernel
theorem dJ3_checkIndex_8e157_10 : decode cJ3_checkIndex_8e157 10 = .ok (.iload_n 0, 1) := by decide +kernel
theorem dJ3_checkIndex_8e157_11 : decode cJ3_checkIndex_8e157 11 = .ok (.iload_n 1, 1) := by decide +kernel
theorem dJ3_checkIndex_8e157_12 : decode cJ3_checkIndex_8e157 12 = .ok (.invokestatic 95, 3) := by decide +kernel
theorem dJ3_checkIndex_8e157_15 : decode cJ3_checkIndex_8e157 15 = .ok (.athrow, 1) := by decide +kernel
theorem dJ3_checkIndex_8e157_16 : decode cJ3_checkIndex_8e157 16 = .ok (.iload_n 0, 1) := by decide +kernel
theorem dJ3_checkIndex_8e157_17 : decode cJ3_checkIndex_8e157 17 = .ok (.ireturn, 1) := by decide +kernel
set_option maxRecDepth 20000 in
theorem ggL_addTide_X6_addTide : GoodIn wsL_addTide wsX6_addTide := goodIn_ca (goodIn_ca (goodIn_r _ [7, 8, 9, 10, 11, 12, 13, 6, 14, 15, 16, 17, 18, 19, 20, 21, 22, 23, 24, 25, 26, 27, 28, 29, 30, 31, 32, 33, 34, 35, 36, 37, 38, 39, 40, 41, 42, 43, 44, 45, 46, 47, 48, 49, 50, 51, 52, 53, 54, 55] (by decide +kernel) (by decide +kernel)) (goodIn_sub (fun _ h => List.mem_cons_of_mem _ (List.mem_append_left _ (List.mem_append_right _ h))) (by decide +kernel))) (goodIn_sub (fun _ h => List.mem_cons_of_mem _ (List.mem_append_right _ h)) (by decide +kernel))
set_option maxRecDepth 20000 in
theorem gL_addTide_X6_addTide : GoodIn wsL_addTide (wsV RL 7 RX6 yX6_addTide wsX6_addTide) := goodIn_app (goodIn_of _ (by decide +kernel)) ggL_addTide_X6_addTide
theorem dL_addTide_0 : decode cL_addTide 0 = .ok (.aload_n 3, 1) := by decide +kernel
theorem dL_addTide_1 : decode cL_addTide 1 = .ok (.iconst 0, 1) := by decide +kernel
theorem dL_addTide_2 : decode cL_addTide 2 = .ok (.aload_n 0, 1) := by decide +kernel
theorem dL_addTide_3 : decode cL_addTide 3 = .ok (.iload_n 1, 1) := by decide +kernel
theorem dL_addTide_4 : decode cL_addTide 4 = .ok (.iload_n 2, 1) := by decide +kernel
theorem dL_addTide_5 : decode cL_addTide 5 = .ok (.invokevirtual 7, 3) := by decide +kernel
theorem dL_addTide_8 : decode cL_addTide 8 = .ok (.i2l, 1) := by decide +kernel
theorem dL_addTide_9 : decode cL_addTide 9 = .ok (.lastore, 1) := by decide +kernel
theorem dL_addTide_10 : decode cL_addTide 10 = .ok (.goto 11, 3) := by decide +kernel
theorem dL_addTide_13 : decode cL_addTide 13 = .ok (.astore 4, 2) := by decide +kernel
theorem dL_addTide_15 : decode cL_addTide 15 = .ok (.iconst 1, 1) := by decide +kernel
theorem dL_addTide_16 : decode cL_addTide 16 = .ok (.ireturn, 1) := by decide +kernel
theorem dL_addTide_17 : decode cL_addTide 17 = .ok (.astore 4, 2) := by decide +kernel
theorem dL_addTide_19 : decode cL_addTide 19 = .ok (.iconst 2, 1) := by decide +kernel
theorem dL_addTide_20 : decode cL_addTide 20 = .ok (.ireturn, 1) := by decide +kernel
theorem dL_addTide_21 : decode cL_addTide 21 = .ok (.iconst 0, 1) := by decide +kernel
theorem dL_addTide_22 : decode cL_addTide 22 = .ok (.ireturn, 1) := by decide +kernel
set_option maxRecDepth 20000 in
theorem ggL_height_X6_height : GoodIn wsL_height wsX6_height := goodIn_ca (goodIn_r _ [6, 7, 8, 9, 5, 10, 11, 12, 13, 14, 15, 16, 17, 18, 19, 20, 21, 22, 23, 24, 25, 26, 27, 28, 29, 30, 31, 32, 33, 34, 35, 36, 37, 38] (by decide +kernel) (by decide +kernel)) (goodIn_sub (fun _ h => List.mem_cons_of_mem _ (List.mem_append_right _ h)) (by decide +kernel))
set_option maxRecDepth 20000 in
theorem gL_height_X6_height : GoodIn wsL_height (wsV RL 17 RX6 yX6_height wsX6_height) := goodIn_app (goodIn_of _ (by decide +kernel)) ggL_height_X6_height
theorem dL_height_0 : decode cL_height 0 = .ok (.aload_n 2, 1) := by decide +kernel
theorem dL_height_1 : decode cL_height 1 = .ok (.iconst 0, 1) := by decide +kernel
theorem dL_height_2 : decode cL_height 2 = .ok (.aload_n 0, 1) := by decide +kernel
theorem dL_height_3 : decode cL_height 3 = .ok (.iload_n 1, 1) := by decide +kernel
theorem dL_height_4 : decode cL_height 4 = .ok (.invokevirtual 17, 3) := by decide +kernel
theorem dL_height_7 : decode cL_height 7 = .ok (.i2l, 1) := by decide +kernel
theorem dL_height_8 : decode cL_height 8 = .ok (.lastore, 1) := by decide +kernel
theorem dL_height_9 : decode cL_height 9 = .ok (.goto 6, 3) := by decide +kernel
theorem dL_height_12 : decode cL_height 12 = .ok (.astore_n 3, 1) := by decide +kernel
theorem dL_height_13 : decode cL_height 13 = .ok (.iconst 1, 1) := by decide +kernel
theorem dL_height_14 : decode cL_height 14 = .ok (.ireturn, 1) := by decide +kernel
theorem dL_height_15 : decode cL_height 15 = .ok (.iconst 0, 1) := by decide +kernel
theorem dL_height_16 : decode cL_height 16 = .ok (.ireturn, 1) := by decide +kernel
set_option maxRecDepth 20000 in
theorem ggL_setWater_X6_setWater : GoodIn wsL_setWater wsX6_setWater := goodIn_ca (goodIn_r _ [6, 7, 8, 9, 10, 5, 11, 12, 13, 14, 15, 16, 17, 18, 19, 20, 21] (by decide +kernel) (by decide +kernel)) (goodIn_sub (fun _ h => List.mem_cons_of_mem _ (List.mem_append_right _ h)) (by decide +kernel))
set_option maxRecDepth 20000 in
theorem gL_setWater_X6_setWater : GoodIn wsL_setWater (wsV RL 21 RX6 yX6_setWater wsX6_setWater) := goodIn_app (goodIn_of _ (by decide +kernel)) ggL_setWater_X6_setWater
theorem dL_setWater_0 : decode cL_setWater 0 = .ok (.aload_n 3, 1) := by decide +kernel
theorem dL_setWater_1 : decode cL_setWater 1 = .ok (.iconst 0, 1) := by decide +kernel
theorem dL_setWater_2 : decode cL_setWater 2 = .ok (.aload_n 0, 1) := by decide +kernel
theorem dL_setWater_3 : decode cL_setWater 3 = .ok (.iload_n 1, 1) := by decide +kernel
theorem dL_setWater_4 : decode cL_setWater 4 = .ok (.iload_n 2, 1) := by decide +kernel
theorem dL_setWater_5 : decode cL_setWater 5 = .ok (.invokevirtual 21, 3) := by decide +kernel
theorem dL_setWater_8 : decode cL_setWater 8 = .ok (.i2l, 1) := by decide +kernel
theorem dL_setWater_9 : decode cL_setWater 9 = .ok (.lastore, 1) := by decide +kernel
theorem dL_setWater_10 : decode cL_setWater 10 = .ok (.goto 7, 3) := by decide +kernel
theorem dL_setWater_13 : decode cL_setWater 13 = .ok (.astore 4, 2) := by decide +kernel
theorem dL_setWater_15 : decode cL_setWater 15 = .ok (.iconst 1, 1) := by decide +kernel
theorem dL_setWater_16 : decode cL_setWater 16 = .ok (.ireturn, 1) := by decide +kernel
theorem dL_setWater_17 : decode cL_setWater 17 = .ok (.iconst 0, 1) := by decide +kernel
theorem dL_setWater_18 : decode cL_setWater 18 = .ok (.ireturn, 1) := by decide +kernel
set_option maxRecDepth 20000 in
theorem ggL_addBerth_X6_addBerth : GoodIn wsL_addBerth wsX6_addBerth := goodIn_ca (goodIn_ca (goodIn_r _ [7, 8, 9, 10, 11, 12, 13, 6, 14, 15, 16, 17, 18, 19, 20, 21, 22, 23, 24, 25, 26, 27, 28, 29, 30, 31, 32, 33, 34, 35, 36, 37, 38, 39, 40, 41, 42, 43, 44, 45, 46, 47, 48, 49, 50, 51, 52, 53, 54, 55, 56, 57, 58, 59, 60, 61, 62, 63, 64, 65, 66, 67, 68, 69, 70, 71, 72, 73, 74, 75, 76, 77, 78, 79, 80, 81, 82, 83, 84, 85, 86, 87, 88, 89, 90, 91, 92, 93, 94, 95, 96, 97, 98, 99, 100, 101, 102, 103, 104] (by decide +kernel) (by decide +kernel)) (goodIn_sub (fun _ h => List.mem_cons_of_mem _ (List.mem_append_left _ (List.mem_append_right _ h))) (by decide +kernel))) (goodIn_sub (fun _ h => List.mem_cons_of_mem _ (List.mem_append_right _ h)) (by decide +kernel))
set_option maxRecDepth 20000 in
theorem gL_addBerth_X6_addBerth : GoodIn wsL_addBerth (wsV RL 24 RX6 yX6_addBerth wsX6_addBerth) := goodIn_app (goodIn_of _ (by decide +kernel)) ggL_addBerth_X6_addBerth
theorem dL_addBerth_0 : decode cL_addBerth 0 = .ok (.aload_n 3, 1) := by decide +kernel
theorem dL_addBerth_1 : decode cL_addBerth 1 = .ok (.iconst 0, 1) := by decide +kernel
theorem dL_addBerth_2 : decode cL_addBerth 2 = .ok (.aload_n 0, 1) := by decide +kernel
theorem dL_addBerth_3 : decode cL_addBerth 3 = .ok (.iload_n 1, 1) := by decide +kernel
theorem dL_addBerth_4 : decode cL_addBerth 4 = .ok (.iload_n 2, 1) := by decide +kernel
theorem dL_addBerth_5 : decode cL_addBerth 5 = .ok (.invokevirtual 24, 3) := by decide +kernel
theorem dL_addBerth_8 : decode cL_addBerth 8 = .ok (.i2l, 1) := by decide +kernel
theorem dL_addBerth_9 : decode cL_addBerth 9 = .ok (.lastore, 1) := by decide +kernel
theorem dL_addBerth_10 : decode cL_addBerth 10 = .ok (.goto 11, 3) := by decide +kernel
theorem dL_addBerth_13 : decode cL_addBerth 13 = .ok (.astore 4, 2) := by decide +kernel
theorem dL_addBerth_15 : decode cL_addBerth 15 = .ok (.iconst 1, 1) := by decide +kernel
theorem dL_addBerth_16 : decode cL_addBerth 16 = .ok (.ireturn, 1) := by decide +kernel
theorem dL_addBerth_17 : decode cL_addBerth 17 = .ok (.astore 4, 2) := by decide +kernel
theorem dL_addBerth_19 : decode cL_addBerth 19 = .ok (.iconst 2, 1) := by decide +kernel
theorem dL_addBerth_20 : decode cL_addBerth 20 = .ok (.ireturn, 1) := by decide +kernel
theorem dL_addBerth_21 : decode cL_addBerth 21 = .ok (.iconst 0, 1) := by decide +kernel
theorem dL_addBerth_22 : decode cL_addBerth 22 = .ok (.ireturn, 1) := by decide +kernel
set_option maxRecDepth 20000 in
theorem ggL_addShip_X6_addShip : GoodIn wsL_addShip wsX6_addShip := goodIn_ca (goodIn_ca (goodIn_r _ [7, 8, 9, 10, 11, 12, 13, 6, 14, 15, 16, 17, 18, 19, 20, 21, 22, 23, 24, 25, 26, 27, 28, 29, 30, 31, 32, 33, 34, 35, 36, 37, 38, 39, 40, 41, 42, 43, 44, 45, 46, 47, 48, 49, 50, 51, 52, 53, 54, 55, 56, 57, 58, 59, 60, 61, 62, 63, 64, 65, 66, 67, 68, 69, 70, 71, 72, 73, 74, 75, 76, 77, 78, 79, 80, 81, 82, 83, 84, 85, 86, 87, 88, 89, 90, 91, 92, 93, 94, 95, 96, 97, 98, 99, 100, 101, 102, 103, 104, 105, 106] (by decide +kernel) (by decide +kernel)) (goodIn_sub (fun _ h => List.mem_cons_of_mem _ (List.mem_append_left _ (List.mem_append_right _ h))) (by decide +kernel))) (goodIn_sub (fun _ h => List.mem_cons_of_mem _ (List.mem_append_right _ h)) (by decide +kernel))
set_option maxRecDepth 20000 in
theorem gL_addShip_X6_addShip : GoodIn wsL_addShip (wsV RL 27 RX6 yX6_addShip wsX6_addShip) := goodIn_app (goodIn_of _ (by decide +kernel)) ggL_addShip_X6_addShip
theorem dL_addShip_0 : decode cL_addShip 0 = .ok (.aload_n 3, 1) := by decide +kernel
theorem dL_addShip_1 : decode cL_addShip 1 = .ok (.iconst 0, 1) := by decide +kernel
theorem dL_addShip_2 : decode cL_addShip 2 = .ok (.aload_n 0, 1) := by decide +kernel
theorem dL_addShip_3 : decode cL_addShip 3 = .ok (.iload_n 1, 1) := by decide +kernel
theorem dL_addShip_4 : decode cL_addShip 4 = .ok (.iload_n 2, 1) := by decide +kernel
theorem dL_addShip_5 : decode cL_addShip 5 = .ok (.invokevirtual 27, 3) := by decide +kernel
theorem dL_addShip_8 : decode cL_addShip 8 = .ok (.i2l, 1) := by decide +kernel
theorem dL_addShip_9 : decode cL_addShip 9 = .ok (.lastore, 1) := by decide +kernel
theorem dL_addShip_10 : decode cL_addShip 10 = .ok (.goto 11, 3) := by decide +kernel
theorem dL_addShip_13 : decode cL_addShip 13 = .ok (.astore 4, 2) := by decide +kernel
theorem dL_addShip_15 : decode cL_addShip 15 = .ok (.iconst 1, 1) := by decide +kernel
theorem dL_addShip_16 : decode cL_addShip 16 = .ok (.ireturn, 1) := by decide +kernel
theorem dL_addShip_17 : decode cL_addShip 17 = .ok (.astore 4, 2) := by decide +kernel
theorem dL_addShip_19 : decode cL_addShip 19 = .ok (.iconst 2, 1) := by decide +kernel
theorem dL_addShip_20 : decode cL_addShip 20 = .ok (.ireturn, 1) := by decide +kernel
theorem dL_addShip_21 : decode cL_addShip 21 = .ok (.iconst 0, 1) := by decide +kernel
theorem dL_addShip_22 : decode cL_addShip 22 = .ok (.ireturn, 1) := by decide +kernel
set_option maxRecDepth 20000 in
theorem ggL_load_X6_load : GoodIn wsL_load wsX6_load := goodIn_ca (goodIn_ca (goodIn_r _ [7, 8, 9, 10, 11, 12, 13, 14, 15, 16, 17, 6, 18, 19, 20, 21, 22, 23, 24, 25, 26, 27, 28, 29, 30, 31, 32, 33, 34, 35, 36, 37, 38, 39, 40, 41, 42, 43, 44, 45, 46, 47, 48, 49, 50, 51, 52, 53, 54, 55, 56, 57] (by decide +kernel) (by decide +kernel)) (goodIn_sub (fun _ h => List.mem_cons_of_mem _ (List.mem_append_left _ (List.mem_append_right _ h))) (by decide +kernel))) (goodIn_sub (fun _ h => List.mem_cons_of_mem _ (List.mem_append_right _ h)) (by decide +kernel))
set_option maxRecDepth 20000 in
theorem gL_load_X6_load : GoodIn wsL_load (wsV RL 30 RX6 yX6_load wsX6_load) := goodIn_app (goodIn_of _ (by decide +kernel)) ggL_load_X6_load
theorem dL_load_0 : decode cL_load 0 = .ok (.aload_n 3, 1) := by decide +kernel
theorem dL_load_1 : decode cL_load 1 = .ok (.iconst 0, 1) := by decide +kernel
theorem dL_load_2 : decode cL_load 2 = .ok (.aload_n 0, 1) := by decide +kernel
theorem dL_load_3 : decode cL_load 3 = .ok (.iload_n 1, 1) := by decide +kernel
theorem dL_load_4 : decode cL_load 4 = .ok (.iload_n 2, 1) := by decide +kernel
theorem dL_load_5 : decode cL_load 5 = .ok (.invokevirtual 30, 3) := by decide +kernel
theorem dL_load_8 : decode cL_load 8 = .ok (.i2l, 1) := by decide +kernel
theorem dL_load_9 : decode cL_load 9 = .ok (.lastore, 1) := by decide +kernel
theorem dL_load_10 : decode cL_load 10 = .ok (.goto 11, 3) := by decide +kernel
theorem dL_load_13 : decode cL_load 13 = .ok (.astore 4, 2) := by decide +kernel
theorem dL_load_15 : decode cL_load 15 = .ok (.iconst 1, 1) := by decide +kernel
theorem dL_load_16 : decode cL_load 16 = .ok (.ireturn, 1) := by decide +kernel
theorem dL_load_17 : decode cL_load 17 = .ok (.astore 4, 2) := by decide +kernel
theorem dL_load_19 : decode cL_load 19 = .ok (.iconst 2, 1) := by decide +kernel
theorem dL_load_20 : decode cL_load 20 = .ok (.ireturn, 1) := by decide +kernel
theorem dL_load_21 : decode cL_load 21 = .ok (.iconst 0, 1) := by decide +kernel
theorem dL_load_22 : decode cL_load 22 = .ok (.ireturn, 1) := by decide +kernel
set_option maxRecDepth 20000 in
theorem ggL_addPilot_X6_addPilot : GoodIn wsL_addPilot wsX6_addPilot := goodIn_ca (goodIn_ca (goodIn_r _ [7, 8, 9, 10, 11, 12, 13, 6, 14, 15, 16, 17, 18, 19, 20, 21, 22, 23, 24, 25, 26, 27, 28, 29, 30, 31, 32, 33, 34, 35, 36, 37, 38, 39, 40, 41, 42, 43, 44, 45, 46, 47, 48, 49, 50, 51, 52, 53, 54, 55, 56, 57, 58, 59, 60, 61, 62, 63, 64, 65, 66, 67, 68, 69, 70, 71, 72, 73, 74, 75, 76, 77, 78, 79, 80, 81, 82, 83, 84, 85, 86, 87, 88, 89, 90, 91, 92, 93, 94, 95, 96, 97, 98, 99, 100, 101, 102, 103, 104, 105, 106] (by decide +kernel) (by decide +kernel)) (goodIn_sub (fun _ h => List.mem_cons_of_mem _ (List.mem_append_left _ (List.mem_append_right _ h))) (by decide +kernel))) (goodIn_sub (fun _ h => List.mem_cons_of_mem _ (List.mem_append_right _ h)) (by decide +kernel))
set_option maxRecDepth 20000 in
theorem gL_addPilot_X6_addPilot : GoodIn wsL_addPilot (wsV RL 35 RX6 yX6_addPilot wsX6_addPilot) := goodIn_app (goodIn_of _ (by decide +kernel)) ggL_addPilot_X6_addPilot
theorem dL_addPilot_0 : decode cL_addPilot 0 = .ok (.aload_n 3, 1) := by decide +kernel
theorem dL_addPilot_1 : decode cL_addPilot 1 = .ok (.iconst 0, 1) := by decide +kernel
theorem dL_addPilot_2 : decode cL_addPilot 2 = .ok (.aload_n 0, 1) := by decide +kernel
theorem dL_addPilot_3 : decode cL_addPilot 3 = .ok (.iload_n 1, 1) := by decide +kernel
theorem dL_addPilot_4 : decode cL_addPilot 4 = .ok (.iload_n 2, 1) := by decide +kernel
theorem dL_addPilot_5 : decode cL_addPilot 5 = .ok (.invokevirtual 35, 3) := by decide +kernel
theorem dL_addPilot_8 : decode cL_addPilot 8 = .ok (.i2l, 1) := by decide +kernel
theorem dL_addPilot_9 : decode cL_addPilot 9 = .ok (.lastore, 1) := by decide +kernel
theorem dL_addPilot_10 : decode cL_addPilot 10 = .ok (.goto 11, 3) := by decide +kernel
theorem dL_addPilot_13 : decode cL_addPilot 13 = .ok (.astore 4, 2) := by decide +kernel
theorem dL_addPilot_15 : decode cL_addPilot 15 = .ok (.iconst 1, 1) := by decide +kernel
theorem dL_addPilot_16 : decode cL_addPilot 16 = .ok (.ireturn, 1) := by decide +kernel
theorem dL_addPilot_17 : decode cL_addPilot 17 = .ok (.astore 4, 2) := by decide +kernel
theorem dL_addPilot_19 : decode cL_addPilot 19 = .ok (.iconst 2, 1) := by decide +kernel
theorem dL_addPilot_20 : decode cL_addPilot 20 = .ok (.ireturn, 1) := by decide +kernel
theorem dL_addPilot_21 : decode cL_addPilot 21 = .ok (.iconst 0, 1) := by decide +kernel
theorem dL_addPilot_22 : decode cL_addPilot 22 = .ok (.ireturn, 1) := by decide +kernel
set_option maxRecDepth 20000 in
theorem ggL_setTugs_X6_setTugs : GoodIn wsL_setTugs wsX6_setTugs := goodIn_ca (goodIn_ca (goodIn_r _ [7, 8, 9, 10, 11, 12, 13, 6, 14, 15, 16, 17, 18, 19, 20, 21, 22, 23, 24, 25, 26, 27, 28, 29, 30, 31, 32, 33] (by decide +kernel) (by decide +kernel)) (goodIn_sub (fun _ h => List.mem_cons_of_mem _ (List.mem_append_left _ (List.mem_append_right _ h))) (by decide +kernel))) (goodIn_sub (fun _ h => List.mem_cons_of_mem _ (List.mem_append_right _ h)) (by decide +kernel))
set_option maxRecDepth 20000 in
theorem gL_setTugs_X6_setTugs : GoodIn wsL_setTugs (wsV RL 39 RX6 yX6_setTugs wsX6_setTugs) := goodIn_app (goodIn_of _ (by decide +kernel)) ggL_setTugs_X6_setTugs
theorem dL_setTugs_0 : decode cL_setTugs 0 = .ok (.aload_n 2, 1) := by decide +kernel
theorem dL_setTugs_1 : decode cL_setTugs 1 = .ok (.iconst 0, 1) := by decide +kernel
theorem dL_setTugs_2 : decode cL_setTugs 2 = .ok (.aload_n 0, 1) := by decide +kernel
theorem dL_setTugs_3 : decode cL_setTugs 3 = .ok (.iload_n 1, 1) := by decide +kernel
theorem dL_setTugs_4 : decode cL_setTugs 4 = .ok (.invokevirtual 39, 3) := by decide +kernel
theorem dL_setTugs_7 : decode cL_setTugs 7 = .ok (.i2l, 1) := by decide +kernel
theorem dL_setTugs_8 : decode cL_setTugs 8 = .ok (.lastore, 1) := by decide +kernel
theorem dL_setTugs_9 : decode cL_setTugs 9 = .ok (.goto 9, 3) := by decide +kernel
theorem dL_setTugs_12 : decode cL_setTugs 12 = .ok (.astore_n 3, 1) := by decide +kernel
theorem dL_setTugs_13 : decode cL_setTugs 13 = .ok (.iconst 1, 1) := by decide +kernel
theorem dL_setTugs_14 : decode cL_setTugs 14 = .ok (.ireturn, 1) := by decide +kernel
theorem dL_setTugs_15 : decode cL_setTugs 15 = .ok (.astore_n 3, 1) := by decide +kernel
theorem dL_setTugs_16 : decode cL_setTugs 16 = .ok (.iconst 2, 1) := by decide +kernel
theorem dL_setTugs_17 : decode cL_setTugs 17 = .ok (.ireturn, 1) := by decide +kernel
theorem dL_setTugs_18 : decode cL_setTugs 18 = .ok (.iconst 0, 1) := by decide +kernel
theorem dL_setTugs_19 : decode cL_setTugs 19 = .ok (.ireturn, 1) := by decide +kernel
set_option maxRecDepth 20000 in
theorem ggL_count_X6_count : GoodIn wsL_count wsX6_count := goodIn_ca (goodIn_r _ [6, 7, 8, 9, 10, 11, 12, 13, 14, 15, 16, 17, 18, 19, 20, 21, 22, 23, 24, 25, 26, 27, 28, 29, 30, 31, 32, 33] (by decide +kernel) (by decide +kernel)) (goodIn_sub (fun _ h => List.mem_cons_of_mem _ (List.mem_append_right _ h)) (by decide +kernel))
set_option maxRecDepth 20000 in
theorem gL_count_X6_count : GoodIn wsL_count (wsV RL 42 RX6 yX6_count wsX6_count) := goodIn_app (goodIn_of _ (by decide +kernel)) ggL_count_X6_count
theorem dL_count_0 : decode cL_count 0 = .ok (.aload_n 2, 1) := by decide +kernel
theorem dL_count_1 : decode cL_count 1 = .ok (.iconst 0, 1) := by decide +kernel
theorem dL_count_2 : decode cL_count 2 = .ok (.aload_n 0, 1) := by decide +kernel
theorem dL_count_3 : decode cL_count 3 = .ok (.iload_n 1, 1) := by decide +kernel
theorem dL_count_4 : decode cL_count 4 = .ok (.invokevirtual 42, 3) := by decide +kernel
theorem dL_count_7 : decode cL_count 7 = .ok (.i2l, 1) := by decide +kernel
theorem dL_count_8 : decode cL_count 8 = .ok (.lastore, 1) := by decide +kernel
theorem dL_count_9 : decode cL_count 9 = .ok (.goto 6, 3) := by decide +kernel
theorem dL_count_12 : decode cL_count 12 = .ok (.astore_n 3, 1) := by decide +kernel
theorem dL_count_13 : decode cL_count 13 = .ok (.iconst 1, 1) := by decide +kernel
theorem dL_count_14 : decode cL_count 14 = .ok (.ireturn, 1) := by decide +kernel
theorem dL_count_15 : decode cL_count 15 = .ok (.iconst 0, 1) := by decide +kernel
theorem dL_count_16 : decode cL_count 16 = .ok (.ireturn, 1) := by decide +kernel
set_option maxRecDepth 20000 in
theorem ggL_need_X6_need : GoodIn wsL_need wsX6_need := goodIn_ca (goodIn_r _ [6, 7, 8, 9, 10, 11, 12, 13, 14, 15, 16, 5, 17, 18, 19, 20, 21, 22, 23, 24, 25, 26, 27, 28, 29, 30, 31, 32, 33, 34, 35, 36, 37, 38, 39, 40, 41, 42, 43, 44, 45, 46, 47, 48, 49, 50, 51, 52, 53, 54, 55, 56] (by decide +kernel) (by decide +kernel)) (goodIn_sub (fun _ h => List.mem_cons_of_mem _ (List.mem_append_right _ h)) (by decide +kernel))
set_option maxRecDepth 20000 in
theorem gL_need_X6_need : GoodIn wsL_need (wsV RL 45 RX6 yX6_need wsX6_need) := goodIn_app (goodIn_of _ (by decide +kernel)) ggL_need_X6_need
theorem dL_need_0 : decode cL_need 0 = .ok (.aload_n 2, 1) := by decide +kernel
theorem dL_need_1 : decode cL_need 1 = .ok (.iconst 0, 1) := by decide +kernel
theorem dL_need_2 : decode cL_need 2 = .ok (.aload_n 0, 1) := by decide +kernel
theorem dL_need_3 : decode cL_need 3 = .ok (.iload_n 1, 1) := by decide +kernel
theorem dL_need_4 : decode cL_need 4 = .ok (.invokevirtual 45, 3) := by decide +kernel
theorem dL_need_7 : decode cL_need 7 = .ok (.i2l, 1) := by decide +kernel
theorem dL_need_8 : decode cL_need 8 = .ok (.lastore, 1) := by decide +kernel
theorem dL_need_9 : decode cL_need 9 = .ok (.goto 6, 3) := by decide +kernel
theorem dL_need_12 : decode cL_need 12 = .ok (.astore_n 3, 1) := by decide +kernel
theorem dL_need_13 : decode cL_need 13 = .ok (.iconst 1, 1) := by decide +kernel
theorem dL_need_14 : decode cL_need 14 = .ok (.ireturn, 1) := by decide +kernel
theorem dL_need_15 : decode cL_need 15 = .ok (.iconst 0, 1) := by decide +kernel
theorem dL_need_16 : decode cL_need 16 = .ok (.ireturn, 1) := by decide +kernel
set_option maxRecDepth 20000 in
theorem ggL_window_X6_window : GoodIn wsL_window wsX6_window := goodIn_ca (goodIn_ca (goodIn_r _ [7, 8, 9, 10, 11, 12, 13, 14, 15, 6, 16, 17, 18, 19, 20, 21, 22, 23, 24, 25, 26, 27, 28, 29, 30, 31, 32, 33, 34, 35, 36, 37, 38, 39, 40, 41, 42, 43, 44, 45, 46, 47, 48, 49, 50, 51, 52, 53, 54, 55, 56, 57, 58, 59, 60, 61, 62, 63, 64, 65, 66, 67, 68, 69, 70, 71, 72, 73, 74, 75, 76, 77, 78, 79, 80, 81, 82, 83, 84, 85, 86, 87, 88, 89, 90, 91, 92, 93, 94, 95] (by decide +kernel) (by decide +kernel)) (goodIn_sub (fun _ h => List.mem_cons_of_mem _ (List.mem_append_left _ (List.mem_append_right _ h))) (by decide +kernel))) (goodIn_sub (fun _ h => List.mem_cons_of_mem _ (List.mem_append_right _ h)) (by decide +kernel))
set_option maxRecDepth 20000 in
theorem gL_window_X6_window : GoodIn wsL_window (wsV RL 48 RX6 yX6_window wsX6_window) := goodIn_app (goodIn_of _ (by decide +kernel)) ggL_window_X6_window
theorem dL_window_0 : decode cL_window 0 = .ok (.aload 4, 2) := by decide +kernel
theorem dL_window_2 : decode cL_window 2 = .ok (.iconst 0, 1) := by decide +kernel
theorem dL_window_3 : decode cL_window 3 = .ok (.aload_n 0, 1) := by decide +kernel
theorem dL_window_4 : decode cL_window 4 = .ok (.iload_n 1, 1) := by decide +kernel
theorem dL_window_5 : decode cL_window 5 = .ok (.iload_n 2, 1) := by decide +kernel
theorem dL_window_6 : decode cL_window 6 = .ok (.iload_n 3, 1) := by decide +kernel
theorem dL_window_7 : decode cL_window 7 = .ok (.invokevirtual 48, 3) := by decide +kernel
theorem dL_window_10 : decode cL_window 10 = .ok (.i2l, 1) := by decide +kernel
theorem dL_window_11 : decode cL_window 11 = .ok (.lastore, 1) := by decide +kernel
theorem dL_window_12 : decode cL_window 12 = .ok (.goto 11, 3) := by decide +kernel
theorem dL_window_15 : decode cL_window 15 = .ok (.astore 5, 2) := by decide +kernel
theorem dL_window_17 : decode cL_window 17 = .ok (.iconst 1, 1) := by decide +kernel
theorem dL_window_18 : decode cL_window 18 = .ok (.ireturn, 1) := by decide +kernel
theorem dL_window_19 : decode cL_window 19 = .ok (.astore 5, 2) := by decide +kernel
theorem dL_window_21 : decode cL_window 21 = .ok (.iconst 2, 1) := by decide +kernel
theorem dL_window_22 : decode cL_window 22 = .ok (.ireturn, 1) := by decide +kernel
theorem dL_window_23 : decode cL_window 23 = .ok (.iconst 0, 1) := by decide +kernel
theorem dL_window_24 : decode cL_window 24 = .ok (.ireturn, 1) := by decide +kernel
set_option maxRecDepth 20000 in
theorem ggL_least_X6_least : GoodIn wsL_least wsX6_least := goodIn_ca (goodIn_ca (goodIn_r _ [7, 8, 9, 10, 11, 12, 13, 14, 15, 16, 17, 18, 19, 6, 20, 21, 22, 23, 24, 25, 26, 27, 28, 29, 30, 31, 32, 33, 34, 35, 36, 37, 38, 39, 40, 41, 42, 43, 44, 45, 46, 47, 48, 49, 50, 51, 52, 53, 54, 55, 56, 57, 58, 59, 60, 61, 62, 63, 64, 65, 66, 67, 68, 69, 70, 71, 72, 73, 74, 75, 76, 77, 78, 79, 80, 81, 82, 83, 84, 85, 86, 87, 88, 89, 90, 91, 92, 93, 94, 95, 96, 97, 98] (by decide +kernel) (by decide +kernel)) (goodIn_sub (fun _ h => List.mem_cons_of_mem _ (List.mem_append_left _ (List.mem_append_right _ h))) (by decide +kernel))) (goodIn_sub (fun _ h => List.mem_cons_of_mem _ (List.mem_append_right _ h)) (by decide +kernel))
set_option maxRecDepth 20000 in
theorem gL_least_X6_least : GoodIn wsL_least (wsV RL 52 RX6 yX6_least wsX6_least) := goodIn_app (goodIn_of _ (by decide +kernel)) ggL_least_X6_least
theorem dL_least_0 : decode cL_least 0 = .ok (.aload_n 2, 1) := by decide +kernel
theorem dL_least_1 : decode cL_least 1 = .ok (.iconst 0, 1) := by decide +kernel
theorem dL_least_2 : decode cL_least 2 = .ok (.aload_n 0, 1) := by decide +kernel
theorem dL_least_3 : decode cL_least 3 = .ok (.iload_n 1, 1) := by decide +kernel
theorem dL_least_4 : decode cL_least 4 = .ok (.invokevirtual 52, 3) := by decide +kernel
theorem dL_least_7 : decode cL_least 7 = .ok (.i2l, 1) := by decide +kernel
theorem dL_least_8 : decode cL_least 8 = .ok (.lastore, 1) := by decide +kernel
theorem dL_least_9 : decode cL_least 9 = .ok (.goto 9, 3) := by decide +kernel
theorem dL_least_12 : decode cL_least 12 = .ok (.astore_n 3, 1) := by decide +kernel
theorem dL_least_13 : decode cL_least 13 = .ok (.iconst 1, 1) := by decide +kernel
theorem dL_least_14 : decode cL_least 14 = .ok (.ireturn, 1) := by decide +kernel
theorem dL_least_15 : decode cL_least 15 = .ok (.astore_n 3, 1) := by decide +kernel
theorem dL_least_16 : decode cL_least 16 = .ok (.iconst 2, 1) := by decide +kernel
theorem dL_least_17 : decode cL_least 17 = .ok (.ireturn, 1) := by decide +kernel
theorem dL_least_18 : decode cL_least 18 = .ok (.iconst 0, 1) := by decide +kernel
theorem dL_least_19 : decode cL_least 19 = .ok (.ireturn, 1) := by decide +kernel
set_option maxRecDepth 20000 in
theorem ggL_earliest_X6_earliest : GoodIn wsL_earliest wsX6_earliest := goodIn_ca (goodIn_ca (goodIn_r _ [7, 8, 9, 10, 6, 11, 12, 13, 14, 15, 16, 17, 18, 19, 20, 21, 22, 23, 24, 25, 26, 27, 28, 29, 30, 31, 32, 33, 34, 35, 36, 37, 38, 39, 40, 41, 42, 43, 44, 45, 46, 47, 48, 49, 50, 51, 52, 53, 54, 55, 56, 57, 58, 59, 60, 61, 62, 63, 64, 65, 66, 67, 68, 69, 70, 71, 72, 73, 74, 75, 76, 77, 78, 79, 80, 81, 82, 83, 84, 85, 86, 87, 88, 89, 90, 91, 92, 93, 94, 95, 96, 97, 98, 99, 100, 101, 102, 103, 104, 105, 106, 107, 108, 109, 110, 111, 112, 113, 114, 115, 116, 117, 118, 119, 120, 121, 122, 123, 124, 125, 126, 127, 128, 129, 130, 131, 132, 133, 134, 135, 136, 137, 138, 139, 140, 141, 142, 143, 144, 145, 146, 147, 148, 149, 150, 151, 152, 153, 154, 155, 156, 157, 158, 159, 160, 161, 162, 163, 164, 165, 166, 167, 168, 169, 170, 171, 172, 173, 174, 175, 176, 177, 178, 179, 180, 181, 182, 183, 184, 185, 186, 187, 188, 189, 190, 191, 192, 193, 194, 195, 196, 197, 198, 199, 200, 201, 202, 203, 204, 205, 206, 207, 208, 209, 210, 211] (by decide +kernel) (by decide +kernel)) (goodIn_sub (fun _ h => List.mem_cons_of_mem _ (List.mem_append_left _ (List.mem_append_right _ h))) (by decide +kernel))) (goodIn_sub (fun _ h => List.mem_cons_of_mem _ (List.mem_append_right _ h)) (by decide +kernel))
set_option maxRecDepth 20000 in
theorem gL_earliest_X6_earliest : GoodIn wsL_earliest (wsV RL 55 RX6 yX6_earliest wsX6_earliest) := goodIn_app (goodIn_of _ (by decide +kernel)) ggL_earliest_X6_earliest
theorem dL_earliest_0 : decode cL_earliest 0 = .ok (.aload 4, 2) := by decide +kernel
theorem dL_earliest_2 : decode cL_earliest 2 = .ok (.iconst 0, 1) := by decide +kernel
theorem dL_earliest_3 : decode cL_earliest 3 = .ok (.aload_n 0, 1) := by decide +kernel
theorem dL_earliest_4 : decode cL_earliest 4 = .ok (.iload_n 1, 1) := by decide +kernel
theorem dL_earliest_5 : decode cL_earliest 5 = .ok (.iload_n 2, 1) := by decide +kernel
theorem dL_earliest_6 : decode cL_earliest 6 = .ok (.iload_n 3, 1) := by decide +kernel
theorem dL_earliest_7 : decode cL_earliest 7 = .ok (.invokevirtual 55, 3) := by decide +kernel
theorem dL_earliest_10 : decode cL_earliest 10 = .ok (.i2l, 1) := by decide +kernel
theorem dL_earliest_11 : decode cL_earliest 11 = .ok (.lastore, 1) := by decide +kernel
theorem dL_earliest_12 : decode cL_earliest 12 = .ok (.goto 11, 3) := by decide +kernel
theorem dL_earliest_15 : decode cL_earliest 15 = .ok (.astore 5, 2) := by decide +kernel
theorem dL_earliest_17 : decode cL_earliest 17 = .ok (.iconst 1, 1) := by decide +kernel
theorem dL_earliest_18 : decode cL_earliest 18 = .ok (.ireturn, 1) := by decide +kernel
theorem dL_earliest_19 : decode cL_earliest 19 = .ok (.astore 5, 2) := by decide +kernel
theorem dL_earliest_21 : decode cL_earliest 21 = .ok (.iconst 2, 1) := by decide +kernel
theorem dL_earliest_22 : decode cL_earliest 22 = .ok (.ireturn, 1) := by decide +kernel
theorem dL_earliest_23 : decode cL_earliest 23 = .ok (.iconst 0, 1) := by decide +kernel
theorem dL_earliest_24 : decode cL_earliest 24 = .ok (.ireturn, 1) := by decide +kernel
set_option maxRecDepth 20000 in
theorem ggL_book_X6_book : GoodIn wsL_book wsX6_book := goodIn_ca (goodIn_ca (goodIn_ca (goodIn_r _ [8, 9, 10, 11, 12, 13, 14, 15, 16, 17, 7, 18, 19, 20, 21, 22, 23, 24, 25, 26, 27, 28, 29, 30, 31, 32, 33, 34, 35, 36, 37, 38, 39, 40, 41, 42, 43, 44, 45, 46, 47, 48, 49, 50, 51, 52, 53, 54, 55, 56, 57, 58, 59, 60, 61, 62, 63, 64, 65, 66, 67, 68, 69, 70, 71, 72, 73, 74, 75, 76, 77, 78, 79, 80, 81, 82, 83, 84, 85, 86, 87, 88, 89, 90, 91, 92, 93, 94, 95, 96, 97, 98, 99, 100, 101, 102, 103, 104, 105, 106, 107, 108, 109, 110, 111, 112, 113, 114, 115, 116, 117, 118, 119, 120, 121, 122, 123, 124, 125, 126, 127, 128, 129, 130, 131, 132, 133, 134, 135, 136, 137, 138, 139, 140, 141, 142, 143, 144, 145, 146, 147, 148, 149, 150, 151, 152, 153, 154, 155, 156, 157, 158, 159, 160, 161, 162, 163, 164, 165, 166, 167, 168, 169, 170, 171, 172, 173, 174, 175, 176, 177, 178, 179, 180, 181, 182, 183, 184, 185, 186, 187, 188, 189, 190, 191, 192, 193, 194, 195, 196, 197, 198, 199, 200, 201, 202, 203, 204, 205, 206, 207, 208, 209, 210, 211, 212, 213, 214, 215, 216, 217, 218, 219, 220, 221, 222, 223, 224, 225, 226, 227, 228, 229, 230, 231, 232, 233, 234, 235, 236, 237, 238, 239, 240, 241, 242, 243, 244, 245, 246, 247, 248, 249, 250, 251, 252, 253, 254, 255, 256, 257, 258, 259, 260, 261, 262, 263, 264, 265, 266, 267, 268, 269, 270, 271, 272, 273, 274, 275, 276, 277, 278, 279, 280, 281, 282] (by decide +kernel) (by decide +kernel)) (goodIn_sub (fun _ h => List.mem_cons_of_mem _ (List.mem_append_left _ (List.mem_append_left _ (List.mem_append_right _ h)))) (by decide +kernel))) (goodIn_sub (fun _ h => List.mem_cons_of_mem _ (List.mem_append_left _ (List.mem_append_right _ h))) (by decide +kernel))) (goodIn_sub (fun _ h => List.mem_cons_of_mem _ (List.mem_append_right _ h)) (by decide +kernel))
set_option maxRecDepth 20000 in
theorem gL_book_X6_book : GoodIn wsL_book (wsV RL 58 RX6 yX6_book wsX6_book) := goodIn_app (goodIn_of _ (by decide +kernel)) ggL_book_X6_book
theorem dL_book_0 : decode cL_book 0 = .ok (.aload 4, 2) := by decide +kernel
theorem dL_book_2 : decode cL_book 2 = .ok (.iconst 0, 1) := by decide +kernel
theorem dL_book_3 : decode cL_book 3 = .ok (.aload_n 0, 1) := by decide +kernel
theorem dL_book_4 : decode cL_book 4 = .ok (.iload_n 1, 1) := by decide +kernel
theorem dL_book_5 : decode cL_book 5 = .ok (.iload_n 2, 1) := by decide +kernel
theorem dL_book_6 : decode cL_book 6 = .ok (.iload_n 3, 1) := by decide +kernel
theorem dL_book_7 : decode cL_book 7 = .ok (.invokevirtual 58, 3) := by decide +kernel
theorem dL_book_10 : decode cL_book 10 = .ok (.i2l, 1) := by decide +kernel
theorem dL_book_11 : decode cL_book 11 = .ok (.lastore, 1) := by decide +kernel
theorem dL_book_12 : decode cL_book 12 = .ok (.goto 15, 3) := by decide +kernel
theorem dL_book_15 : decode cL_book 15 = .ok (.astore 5, 2) := by decide +kernel
theorem dL_book_17 : decode cL_book 17 = .ok (.iconst 1, 1) := by decide +kernel
theorem dL_book_18 : decode cL_book 18 = .ok (.ireturn, 1) := by decide +kernel
theorem dL_book_19 : decode cL_book 19 = .ok (.astore 5, 2) := by decide +kernel
theorem dL_book_21 : decode cL_book 21 = .ok (.iconst 2, 1) := by decide +kernel
theorem dL_book_22 : decode cL_book 22 = .ok (.ireturn, 1) := by decide +kernel
theorem dL_book_23 : decode cL_book 23 = .ok (.astore 5, 2) := by decide +kernel
theorem dL_book_25 : decode cL_book 25 = .ok (.iconst 3, 1) := by decide +kernel
theorem dL_book_26 : decode cL_book 26 = .ok (.ireturn, 1) := by decide +kernel
theorem dL_book_27 : decode cL_book 27 = .ok (.iconst 0, 1) := by decide +kernel
theorem dL_book_28 : decode cL_book 28 = .ok (.ireturn, 1) := by decide +kernel
set_option maxRecDepth 20000 in
theorem ggL_cancel_X6_cancel : GoodIn wsL_cancel wsX6_cancel := goodIn_ca (goodIn_r _ [6, 7, 8, 9, 10, 11, 12, 13, 14, 15, 16, 17, 18, 19, 20, 21, 22, 23, 24, 25, 26, 27, 28, 29, 30, 31, 32, 33, 34, 35, 36, 37, 38, 39, 40, 41, 42, 43, 44, 45, 46, 47, 48, 49, 50, 51, 52, 53, 54, 55, 56, 57, 58, 59, 60, 61, 62, 63, 64, 65, 66, 67, 68, 69] (by decide +kernel) (by decide +kernel)) (goodIn_sub (fun _ h => List.mem_cons_of_mem _ (List.mem_append_right _ h)) (by decide +kernel))
set_option maxRecDepth 20000 in
theorem gL_cancel_X6_cancel : GoodIn wsL_cancel (wsV RL 61 RX6 yX6_cancel wsX6_cancel) := goodIn_app (goodIn_of _ (by decide +kernel)) ggL_cancel_X6_cancel
theorem dL_cancel_0 : decode cL_cancel 0 = .ok (.aload_n 1, 1) := by decide +kernel
theorem dL_cancel_1 : decode cL_cancel 1 = .ok (.iconst 0, 1) := by decide +kernel
theorem dL_cancel_2 : decode cL_cancel 2 = .ok (.aload_n 0, 1) := by decide +kernel
theorem dL_cancel_3 : decode cL_cancel 3 = .ok (.invokevirtual 61, 3) := by decide +kernel
theorem dL_cancel_6 : decode cL_cancel 6 = .ok (.i2l, 1) := by decide +kernel
theorem dL_cancel_7 : decode cL_cancel 7 = .ok (.lastore, 1) := by decide +kernel
theorem dL_cancel_8 : decode cL_cancel 8 = .ok (.goto 6, 3) := by decide +kernel
theorem dL_cancel_11 : decode cL_cancel 11 = .ok (.astore_n 2, 1) := by decide +kernel
theorem dL_cancel_12 : decode cL_cancel 12 = .ok (.iconst 1, 1) := by decide +kernel
theorem dL_cancel_13 : decode cL_cancel 13 = .ok (.ireturn, 1) := by decide +kernel
theorem dL_cancel_14 : decode cL_cancel 14 = .ok (.iconst 0, 1) := by decide +kernel
theorem dL_cancel_15 : decode cL_cancel 15 = .ok (.ireturn, 1) := by decide +kernel
set_option maxRecDepth 20000 in
theorem ggL_passage_X6_passage : GoodIn wsL_passage wsX6_passage := goodIn_ca (goodIn_r _ [6, 7, 8, 9, 10, 11, 12, 13, 14, 15, 16, 17, 18, 5, 19, 20, 21, 22, 23, 24, 25, 26, 27, 28, 29, 30, 31, 32, 33, 34, 35, 36, 37, 38, 39, 40, 41, 42, 43, 44, 45, 46, 47, 48, 49, 50, 51, 52, 53, 54, 55, 56, 57, 58, 59, 60, 61, 62, 63, 64, 65, 66, 67, 68, 69] (by decide +kernel) (by decide +kernel)) (goodIn_sub (fun _ h => List.mem_cons_of_mem _ (List.mem_append_right _ h)) (by decide +kernel))
set_option maxRecDepth 20000 in
theorem gL_passage_X6_passage : GoodIn wsL_passage (wsV RL 65 RX6 yX6_passage wsX6_passage) := goodIn_app (goodIn_of _ (by decide +kernel)) ggL_passage_X6_passage
theorem dL_passage_0 : decode cL_passage 0 = .ok (.aload_n 3, 1) := by decide +kernel
theorem dL_passage_1 : decode cL_passage 1 = .ok (.iconst 0, 1) := by decide +kernel
theorem dL_passage_2 : decode cL_passage 2 = .ok (.aload_n 0, 1) := by decide +kernel
theorem dL_passage_3 : decode cL_passage 3 = .ok (.iload_n 1, 1) := by decide +kernel
theorem dL_passage_4 : decode cL_passage 4 = .ok (.iload_n 2, 1) := by decide +kernel
theorem dL_passage_5 : decode cL_passage 5 = .ok (.invokevirtual 65, 3) := by decide +kernel
theorem dL_passage_8 : decode cL_passage 8 = .ok (.i2l, 1) := by decide +kernel
theorem dL_passage_9 : decode cL_passage 9 = .ok (.lastore, 1) := by decide +kernel
theorem dL_passage_10 : decode cL_passage 10 = .ok (.goto 7, 3) := by decide +kernel
theorem dL_passage_13 : decode cL_passage 13 = .ok (.astore 4, 2) := by decide +kernel
theorem dL_passage_15 : decode cL_passage 15 = .ok (.iconst 1, 1) := by decide +kernel
theorem dL_passage_16 : decode cL_passage 16 = .ok (.ireturn, 1) := by decide +kernel
theorem dL_passage_17 : decode cL_passage 17 = .ok (.iconst 0, 1) := by decide +kernel
theorem dL_passage_18 : decode cL_passage 18 = .ok (.ireturn, 1) := by decide +kernel
set_option maxRecDepth 20000 in
theorem ggL_occupant_X6_occupant : GoodIn wsL_occupant wsX6_occupant := goodIn_ca (goodIn_ca (goodIn_r _ [7, 8, 9, 10, 11, 12, 13, 14, 15, 16, 17, 18, 6, 19, 20, 21, 22, 23, 24, 25, 26, 27, 28, 29, 30, 31, 32, 33, 34, 35, 36, 37, 38, 39, 40, 41, 42, 43, 44, 45, 46, 47, 48, 49, 50, 51, 52, 53, 54, 55, 56, 57, 58, 59, 60, 61, 62, 63, 64, 65, 66, 67, 68, 69, 70, 71, 72, 73, 74, 75, 76, 77, 78, 79, 80, 81, 82] (by decide +kernel) (by decide +kernel)) (goodIn_sub (fun _ h => List.mem_cons_of_mem _ (List.mem_append_left _ (List.mem_append_right _ h))) (by decide +kernel))) (goodIn_sub (fun _ h => List.mem_cons_of_mem _ (List.mem_append_right _ h)) (by decide +kernel))
set_option maxRecDepth 20000 in
theorem gL_occupant_X6_occupant : GoodIn wsL_occupant (wsV RL 68 RX6 yX6_occupant wsX6_occupant) := goodIn_app (goodIn_of _ (by decide +kernel)) ggL_occupant_X6_occupant
theorem dL_occupant_0 : decode cL_occupant 0 = .ok (.aload_n 3, 1) := by decide +kernel
theorem dL_occupant_1 : decode cL_occupant 1 = .ok (.iconst 0, 1) := by decide +kernel
theorem dL_occupant_2 : decode cL_occupant 2 = .ok (.aload_n 0, 1) := by decide +kernel
theorem dL_occupant_3 : decode cL_occupant 3 = .ok (.iload_n 1, 1) := by decide +kernel
theorem dL_occupant_4 : decode cL_occupant 4 = .ok (.iload_n 2, 1) := by decide +kernel
theorem dL_occupant_5 : decode cL_occupant 5 = .ok (.invokevirtual 68, 3) := by decide +kernel
theorem dL_occupant_8 : decode cL_occupant 8 = .ok (.i2l, 1) := by decide +kernel
theorem dL_occupant_9 : decode cL_occupant 9 = .ok (.lastore, 1) := by decide +kernel
theorem dL_occupant_10 : decode cL_occupant 10 = .ok (.goto 11, 3) := by decide +kernel
theorem dL_occupant_13 : decode cL_occupant 13 = .ok (.astore 4, 2) := by decide +kernel
theorem dL_occupant_15 : decode cL_occupant 15 = .ok (.iconst 1, 1) := by decide +kernel
theorem dL_occupant_16 : decode cL_occupant 16 = .ok (.ireturn, 1) := by decide +kernel
theorem dL_occupant_17 : decode cL_occupant 17 = .ok (.astore 4, 2) := by decide +kernel
theorem dL_occupant_19 : decode cL_occupant 19 = .ok (.iconst 2, 1) := by decide +kernel
theorem dL_occupant_20 : decode cL_occupant 20 = .ok (.ireturn, 1) := by decide +kernel
theorem dL_occupant_21 : decode cL_occupant 21 = .ok (.iconst 0, 1) := by decide +kernel
theorem dL_occupant_22 : decode cL_occupant 22 = .ok (.ireturn, 1) := by decide +kernel
set_option maxRecDepth 20000 in
theorem ggL_freeTugs_X6_freeTugs : GoodIn wsL_freeTugs wsX6_freeTugs := goodIn_ca (goodIn_r _ [6, 7, 8, 9, 5, 10, 11, 12, 13, 14, 15, 16, 17, 18, 19, 20, 21, 22, 23, 24, 25, 26, 27, 28, 29, 30, 31, 32, 33, 34, 35, 36, 37, 38, 39, 40, 41, 42, 43, 44, 45, 46, 47, 48, 49, 50, 51, 52, 53, 54, 55, 56, 57, 58, 59, 60, 61, 62, 63, 64, 65, 66, 67, 68, 69, 70, 71, 72, 73, 74, 75, 76, 77, 78, 79] (by decide +kernel) (by decide +kernel)) (goodIn_sub (fun _ h => List.mem_cons_of_mem _ (List.mem_append_right _ h)) (by decide +kernel))
set_option maxRecDepth 20000 in
theorem gL_freeTugs_X6_freeTugs : GoodIn wsL_freeTugs (wsV RL 71 RX6 yX6_freeTugs wsX6_freeTugs) := goodIn_app (goodIn_of _ (by decide +kernel)) ggL_freeTugs_X6_freeTugs
theorem dL_freeTugs_0 : decode cL_freeTugs 0 = .ok (.aload_n 2, 1) := by decide +kernel
theorem dL_freeTugs_1 : decode cL_freeTugs 1 = .ok (.iconst 0, 1) := by decide +kernel
theorem dL_freeTugs_2 : decode cL_freeTugs 2 = .ok (.aload_n 0, 1) := by decide +kernel
theorem dL_freeTugs_3 : decode cL_freeTugs 3 = .ok (.iload_n 1, 1) := by decide +kernel
theorem dL_freeTugs_4 : decode cL_freeTugs 4 = .ok (.invokevirtual 71, 3) := by decide +kernel
theorem dL_freeTugs_7 : decode cL_freeTugs 7 = .ok (.i2l, 1) := by decide +kernel
theorem dL_freeTugs_8 : decode cL_freeTugs 8 = .ok (.lastore, 1) := by decide +kernel
theorem dL_freeTugs_9 : decode cL_freeTugs 9 = .ok (.goto 6, 3) := by decide +kernel
theorem dL_freeTugs_12 : decode cL_freeTugs 12 = .ok (.astore_n 3, 1) := by decide +kernel
theorem dL_freeTugs_13 : decode cL_freeTugs 13 = .ok (.iconst 1, 1) := by decide +kernel
theorem dL_freeTugs_14 : decode cL_freeTugs 14 = .ok (.ireturn, 1) := by decide +kernel
theorem dL_freeTugs_15 : decode cL_freeTugs 15 = .ok (.iconst 0, 1) := by decide +kernel
theorem dL_freeTugs_16 : decode cL_freeTugs 16 = .ok (.ireturn, 1) := by decide +kernel
set_option maxRecDepth 20000 in
theorem ggL_trips_X6_trips : GoodIn wsL_trips wsX6_trips := goodIn_ca (goodIn_r _ [6, 7, 8, 9, 10, 11, 12, 13, 14, 15, 16, 17, 5, 18, 19, 20, 21, 22, 23, 24, 25, 26, 27, 28, 29, 30, 31, 32, 33, 34, 35, 36, 37, 38, 39, 40, 41, 42, 43, 44, 45, 46, 47, 48, 49, 50, 51, 52, 53, 54, 55, 56, 57, 58, 59] (by decide +kernel) (by decide +kernel)) (goodIn_sub (fun _ h => List.mem_cons_of_mem _ (List.mem_append_right _ h)) (by decide +kernel))
set_option maxRecDepth 20000 in
theorem gL_trips_X6_trips : GoodIn wsL_trips (wsV RL 74 RX6 yX6_trips wsX6_trips) := goodIn_app (goodIn_of _ (by decide +kernel)) ggL_trips_X6_trips
theorem dL_trips_0 : decode cL_trips 0 = .ok (.aload_n 2, 1) := by decide +kernel
theorem dL_trips_1 : decode cL_trips 1 = .ok (.iconst 0, 1) := by decide +kernel
theorem dL_trips_2 : decode cL_trips 2 = .ok (.aload_n 0, 1) := by decide +kernel
theorem dL_trips_3 : decode cL_trips 3 = .ok (.iload_n 1, 1) := by decide +kernel
theorem dL_trips_4 : decode cL_trips 4 = .ok (.invokevirtual 74, 3) := by decide +kernel
theorem dL_trips_7 : decode cL_trips 7 = .ok (.i2l, 1) := by decide +kernel
theorem dL_trips_8 : decode cL_trips 8 = .ok (.lastore, 1) := by decide +kernel
theorem dL_trips_9 : decode cL_trips 9 = .ok (.goto 6, 3) := by decide +kernel
theorem dL_trips_12 : decode cL_trips 12 = .ok (.astore_n 3, 1) := by decide +kernel
theorem dL_trips_13 : decode cL_trips 13 = .ok (.iconst 1, 1) := by decide +kernel
theorem dL_trips_14 : decode cL_trips 14 = .ok (.ireturn, 1) := by decide +kernel
theorem dL_trips_15 : decode cL_trips 15 = .ok (.iconst 0, 1) := by decide +kernel
theorem dL_trips_16 : decode cL_trips 16 = .ok (.ireturn, 1) := by decide +kernel
set_option maxRecDepth 20000 in
theorem ggL_isInPort_X6_isInPort : GoodIn wsL_isInPort wsX6_isInPort := goodIn_ca (goodIn_r _ [6, 7, 8, 9, 10, 11, 12, 13, 14, 15, 16, 5, 17, 18, 19, 20, 21, 22, 23, 24, 25, 26, 27, 28, 29, 30, 31, 32, 33, 34, 35, 36, 37, 38, 39, 40, 41, 42, 43, 44, 45, 46, 47, 48, 49, 50, 51, 52, 53, 54, 55, 56, 57, 58, 59, 60, 61, 62, 63, 64, 65, 66, 67, 68, 69] (by decide +kernel) (by decide +kernel)) (goodIn_sub (fun _ h => List.mem_cons_of_mem _ (List.mem_append_right _ h)) (by decide +kernel))
set_option maxRecDepth 20000 in
theorem gL_isInPort_X6_isInPort : GoodIn wsL_isInPort (wsV RL 77 RX6 yX6_isInPort wsX6_isInPort) := goodIn_app (goodIn_of _ (by decide +kernel)) ggL_isInPort_X6_isInPort
theorem dL_isInPort_0 : decode cL_isInPort 0 = .ok (.aload_n 2, 1) := by decide +kernel
theorem dL_isInPort_1 : decode cL_isInPort 1 = .ok (.iconst 0, 1) := by decide +kernel
theorem dL_isInPort_2 : decode cL_isInPort 2 = .ok (.aload_n 0, 1) := by decide +kernel
theorem dL_isInPort_3 : decode cL_isInPort 3 = .ok (.iload_n 1, 1) := by decide +kernel
theorem dL_isInPort_4 : decode cL_isInPort 4 = .ok (.invokevirtual 77, 3) := by decide +kernel
theorem dL_isInPort_7 : decode cL_isInPort 7 = .ok (.ifCond .eq 7, 3) := by decide +kernel
theorem dL_isInPort_10 : decode cL_isInPort 10 = .ok (.lconst 1, 1) := by decide +kernel
theorem dL_isInPort_11 : decode cL_isInPort 11 = .ok (.goto 4, 3) := by decide +kernel
theorem dL_isInPort_14 : decode cL_isInPort 14 = .ok (.lconst 0, 1) := by decide +kernel
theorem dL_isInPort_15 : decode cL_isInPort 15 = .ok (.lastore, 1) := by decide +kernel
theorem dL_isInPort_16 : decode cL_isInPort 16 = .ok (.goto 6, 3) := by decide +kernel
theorem dL_isInPort_19 : decode cL_isInPort 19 = .ok (.astore_n 3, 1) := by decide +kernel
theorem dL_isInPort_20 : decode cL_isInPort 20 = .ok (.iconst 1, 1) := by decide +kernel
theorem dL_isInPort_21 : decode cL_isInPort 21 = .ok (.ireturn, 1) := by decide +kernel
theorem dL_isInPort_22 : decode cL_isInPort 22 = .ok (.iconst 0, 1) := by decide +kernel
theorem dL_isInPort_23 : decode cL_isInPort 23 = .ok (.ireturn, 1) := by decide +kernel
set_option maxRecDepth 20000 in
theorem ggL_law_X6_init : GoodIn wsL_law wsX6_init := goodIn_r _ [9, 10, 11, 12, 13, 14, 15, 16, 17, 18, 19, 20, 21, 22, 23, 24, 25, 26, 27, 28, 29, 30, 31, 32, 33, 34, 35, 36, 37, 38, 39, 40, 41, 42, 43, 44, 45, 46, 47, 48, 49, 738, 739, 740, 712, 713, 714, 715, 716, 717, 718, 719, 741, 742, 743] (by decide +kernel) (by decide +kernel)
set_option maxRecDepth 20000 in
theorem gL_law_X6_init : GoodIn wsL_law (wsX6_init) := ggL_law_X6_init
set_option maxRecDepth 20000 in
theorem ggL_law_X7_init : GoodIn wsL_law wsX7_init := goodIn_r _ [52, 53, 11, 12, 31, 54, 55, 56, 57, 58, 59, 60, 61, 62, 63, 64, 65, 66, 720, 721, 722, 723, 724, 725, 726, 727, 728, 729, 730, 731, 732, 733, 734, 735, 736, 737] (by decide +kernel) (by decide +kernel)
set_option maxRecDepth 20000 in
theorem gL_law_X7_init : GoodIn wsL_law (wsX7_init) := ggL_law_X7_init
set_option maxRecDepth 20000 in
theorem ggL_law_L_addTide : GoodIn wsL_law wsL_addTide := goodIn_ca (goodIn_ca (goodIn_r _ [70, 71, 72, 73, 74, 75, 2, 76, 77, 78, 23, 16, 79, 80, 81, 82, 83, 84, 85, 86, 87, 88, 89, 19, 90, 91, 92, 93, 94, 15, 95, 32, 96, 97, 98, 99, 34, 100, 101, 102, 103, 33, 712, 713, 714, 715, 716, 717, 718, 719, 738, 739, 740, 741, 742, 743] (by decide +kernel) (by decide +kernel)) (goodIn_sub (fun _ h => List.mem_append_left _ (List.mem_append_left _ (List.mem_append_right _ h))) (by decide +kernel))) (goodIn_sub (fun _ h => List.mem_append_left _ (List.mem_append_right _ h)) (by decide +kernel))
set_option maxRecDepth 20000 in
theorem gL_law_L_addTide : GoodIn wsL_law (va_wsS RL 85 yL_addTide wsL_addTide) := goodIn_app (goodIn_of _ (by decide +kernel)) ggL_law_L_addTide
set_option maxRecDepth 20000 in
theorem ggL_law_X7_addTide : GoodIn wsL_law wsX7_addTide := goodIn_r _ [107, 108, 109, 110, 54, 55, 111, 112, 5, 113, 114, 115, 116, 117, 118, 119, 120, 720, 721, 722, 723, 724, 725, 726, 727, 728, 729, 730, 731, 732, 733, 734, 735, 736, 737] (by decide +kernel) (by decide +kernel)
set_option maxRecDepth 20000 in
theorem gL_law_X7_addTide : GoodIn wsL_law (wsV RL 90 RX7 yX7_addTide wsX7_addTide) := goodIn_app (goodIn_of _ (by decide +kernel)) ggL_law_X7_addTide
set_option maxRecDepth 20000 in
theorem ggL_law_X7_thrown : GoodIn wsL_law wsX7_thrown := goodIn_r _ [124, 108, 720, 721, 722, 723, 724, 725, 726, 727, 728, 729, 730, 731, 732, 733, 734, 735, 736, 737] (by decide +kernel) (by decide +kernel)
set_option maxRecDepth 20000 in
theorem gL_law_X7_thrown : GoodIn wsL_law (wsV RL 91 RX7 yX7_thrown wsX7_thrown) := goodIn_app (goodIn_of _ (by decide +kernel)) ggL_law_X7_thrown
set_option maxRecDepth 20000 in
theorem ggL_law_L_height : GoodIn wsL_law wsL_height := goodIn_ca (goodIn_r _ [127, 71, 128, 129, 130, 2, 131, 16, 79, 80, 81, 82, 83, 84, 85, 86, 132, 133, 134, 15, 135, 34, 33, 32, 96, 97, 98, 99, 712, 713, 714, 715, 716, 717, 718, 719, 738, 739, 740] (by decide +kernel) (by decide +kernel)) (goodIn_sub (fun _ h => List.mem_append_left _ (List.mem_append_right _ h)) (by decide +kernel))
set_option maxRecDepth 20000 in
theorem gL_law_L_height : GoodIn wsL_law (va_wsS RL 94 yL_height wsL_height) := goodIn_app (goodIn_of _ (by decide +kernel)) ggL_law_L_height
set_option maxRecDepth 20000 in
theorem ggL_law_X7_height : GoodIn wsL_law wsX7_height := goodIn_r _ [139, 108, 111, 112, 5, 113, 114, 115, 116, 140, 141, 142, 143, 109, 54, 55, 117, 118, 119, 120, 720, 721, 722, 723, 724, 725, 726, 727, 728, 729, 730, 731, 732, 733, 734, 735, 736, 737] (by decide +kernel) (by decide +kernel)
set_option maxRecDepth 20000 in
theorem gL_law_X7_height : GoodIn wsL_law (wsV RL 97 RX7 yX7_height wsX7_height) := goodIn_app (goodIn_of _ (by decide +kernel)) ggL_law_X7_height
set_option maxRecDepth 20000 in
theorem ggL_law_L_setWater : GoodIn wsL_law wsL_setWater := goodIn_ca (goodIn_r _ [146, 71, 147, 148, 149, 2, 150, 24, 25, 82, 83, 84, 85, 86, 712, 713, 714, 715, 716, 717, 718, 719] (by decide +kernel) (by decide +kernel)) (goodIn_sub (fun _ h => List.mem_append_left _ (List.mem_append_right _ h)) (by decide +kernel))
set_option maxRecDepth 20000 in
theorem gL_law_L_setWater : GoodIn wsL_law (va_wsS RL 98 yL_setWater wsL_setWater) := goodIn_app (goodIn_of _ (by decide +kernel)) ggL_law_L_setWater
set_option maxRecDepth 20000 in
theorem ggL_law_X7_setWater : GoodIn wsL_law wsX7_setWater := goodIn_r _ [154, 108, 56, 57, 114, 115, 5, 116, 117, 118, 119, 120, 720, 721, 722, 723, 724, 725, 726, 727, 728, 729, 730, 731, 732, 733, 734, 735, 736, 737] (by decide +kernel) (by decide +kernel)
set_option maxRecDepth 20000 in
theorem gL_law_X7_setWater : GoodIn wsL_law (wsV RL 100 RX7 yX7_setWater wsX7_setWater) := goodIn_app (goodIn_of _ (by decide +kernel)) ggL_law_X7_setWater
set_option maxRecDepth 20000 in
theorem ggL_law_L_addBerth : GoodIn wsL_law wsL_addBerth := goodIn_ca (goodIn_ca (goodIn_r _ [157, 71, 72, 158, 159, 160, 2, 161, 20, 162, 163, 164, 82, 83, 84, 85, 86, 165, 166, 167, 19, 168, 91, 169, 170, 171, 77, 78, 172, 173, 174, 175, 11, 12, 176, 177, 178, 179, 180, 181, 182, 183, 184, 39, 185, 186, 187, 188, 189, 190, 191, 192, 193, 194, 195, 196, 38, 197, 198, 199, 200, 201, 202, 203, 204, 205, 206, 207, 208, 209, 210, 211, 212, 213, 214, 215, 216, 217, 218, 219, 220, 221, 222, 223, 224, 225, 226, 227, 228, 229, 230, 712, 713, 714, 715, 716, 717, 718, 719, 744, 745, 746, 741, 742, 743] (by decide +kernel) (by decide +kernel)) (goodIn_sub (fun _ h => List.mem_append_left _ (List.mem_append_right _ h)) (by decide +kernel))) (goodIn_sub (fun _ h => List.mem_append_left _ (List.mem_append_left _ (List.mem_append_right _ h))) (by decide +kernel))
set_option maxRecDepth 20000 in
theorem gL_law_L_addBerth : GoodIn wsL_law (va_wsS RL 101 yL_addBerth wsL_addBerth) := goodIn_app (goodIn_of _ (by decide +kernel)) ggL_law_L_addBerth
set_option maxRecDepth 20000 in
theorem ggL_law_X7_addBerth : GoodIn wsL_law wsX7_addBerth := goodIn_r _ [234, 108, 235, 58, 59, 114, 115, 5, 116, 117, 118, 119, 120, 720, 721, 722, 723, 724, 725, 726, 727, 728, 729, 730, 731, 732, 733, 734, 735, 736, 737] (by decide +kernel) (by decide +kernel)
set_option maxRecDepth 20000 in
theorem gL_law_X7_addBerth : GoodIn wsL_law (wsV RL 103 RX7 yX7_addBerth wsX7_addBerth) := goodIn_app (goodIn_of _ (by decide +kernel)) ggL_law_X7_addBerth
set_option maxRecDepth 20000 in
theorem ggL_law_L_addShip : GoodIn wsL_law wsL_addShip := goodIn_ca (goodIn_ca (goodIn_r _ [238, 71, 72, 239, 240, 241, 2, 242, 21, 243, 244, 245, 82, 83, 84, 85, 86, 165, 166, 167, 19, 168, 91, 169, 170, 171, 77, 78, 246, 247, 248, 249, 11, 12, 250, 251, 252, 253, 179, 180, 181, 182, 183, 184, 39, 185, 186, 187, 188, 189, 190, 191, 192, 193, 194, 195, 196, 38, 197, 198, 199, 200, 201, 202, 203, 204, 205, 206, 207, 208, 209, 210, 211, 212, 213, 214, 215, 216, 217, 218, 219, 220, 221, 222, 223, 224, 225, 226, 227, 228, 229, 230, 712, 713, 714, 715, 716, 717, 718, 719, 747, 748, 749, 750, 741, 742, 743] (by decide +kernel) (by decide +kernel)) (goodIn_sub (fun _ h => List.mem_append_left _ (List.mem_append_right _ h)) (by decide +kernel))) (goodIn_sub (fun _ h => List.mem_append_left _ (List.mem_append_left _ (List.mem_append_right _ h))) (by decide +kernel))
set_option maxRecDepth 20000 in
theorem gL_law_L_addShip : GoodIn wsL_law (va_wsS RL 104 yL_addShip wsL_addShip) := goodIn_app (goodIn_of _ (by decide +kernel)) ggL_law_L_addShip
set_option maxRecDepth 20000 in
theorem ggL_law_X7_addShip : GoodIn wsL_law wsX7_addShip := goodIn_r _ [257, 108, 258, 60, 61, 114, 115, 5, 116, 117, 118, 119, 120, 720, 721, 722, 723, 724, 725, 726, 727, 728, 729, 730, 731, 732, 733, 734, 735, 736, 737] (by decide +kernel) (by decide +kernel)
set_option maxRecDepth 20000 in
theorem gL_law_X7_addShip : GoodIn wsL_law (wsV RL 106 RX7 yX7_addShip wsX7_addShip) := goodIn_app (goodIn_of _ (by decide +kernel)) ggL_law_X7_addShip
set_option maxRecDepth 20000 in
theorem ggL_law_L_load : GoodIn wsL_law wsL_load := goodIn_ca (goodIn_ca (goodIn_r _ [261, 262, 71, 263, 264, 265, 2, 266, 21, 267, 165, 166, 167, 19, 168, 91, 268, 269, 270, 271, 272, 82, 83, 84, 85, 86, 273, 274, 275, 276, 277, 278, 279, 280, 281, 282, 283, 284, 285, 286, 287, 288, 39, 712, 713, 714, 715, 716, 717, 718, 719, 747, 748, 749, 750, 741, 742, 743] (by decide +kernel) (by decide +kernel)) (goodIn_sub (fun _ h => List.mem_append_right _ h) (by decide +kernel))) (goodIn_sub (fun _ h => List.mem_append_left _ (List.mem_append_right _ h)) (by decide +kernel))
set_option maxRecDepth 20000 in
theorem gL_law_L_load : GoodIn wsL_law (va_wsS RL 107 yL_load wsL_load) := goodIn_app (goodIn_of _ (by decide +kernel)) ggL_law_L_load
set_option maxRecDepth 20000 in
theorem ggL_law_X7_load : GoodIn wsL_law wsX7_load := goodIn_r _ [292, 108, 61, 293, 294, 295, 5, 296, 258, 114, 115, 116, 117, 118, 119, 120, 720, 721, 722, 723, 724, 725, 726, 727, 728, 729, 730, 731, 732, 733, 734, 735, 736, 737] (by decide +kernel) (by decide +kernel)
set_option maxRecDepth 20000 in
theorem gL_law_X7_load : GoodIn wsL_law (wsV RL 109 RX7 yX7_load wsX7_load) := goodIn_app (goodIn_of _ (by decide +kernel)) ggL_law_X7_load
set_option maxRecDepth 20000 in
theorem ggL_law_L_addPilot : GoodIn wsL_law wsL_addPilot := goodIn_ca (goodIn_ca (goodIn_r _ [299, 71, 72, 300, 301, 302, 2, 303, 22, 304, 305, 306, 82, 83, 84, 85, 86, 165, 166, 167, 19, 168, 91, 169, 170, 171, 77, 78, 307, 308, 309, 310, 11, 12, 311, 312, 313, 314, 179, 180, 181, 182, 183, 184, 39, 185, 186, 187, 188, 189, 190, 191, 192, 193, 194, 195, 196, 38, 197, 198, 199, 200, 201, 202, 203, 204, 205, 206, 207, 208, 209, 210, 211, 212, 213, 214, 215, 216, 217, 218, 219, 220, 221, 222, 223, 224, 225, 226, 227, 228, 229, 230, 712, 713, 714, 715, 716, 717, 718, 719, 751, 752, 753, 754, 741, 742, 743] (by decide +kernel) (by decide +kernel)) (goodIn_sub (fun _ h => List.mem_append_left _ (List.mem_append_right _ h)) (by decide +kernel))) (goodIn_sub (fun _ h => List.mem_append_left _ (List.mem_append_left _ (List.mem_append_right _ h))) (by decide +kernel))
set_option maxRecDepth 20000 in
theorem gL_law_L_addPilot : GoodIn wsL_law (va_wsS RL 110 yL_addPilot wsL_addPilot) := goodIn_app (goodIn_of _ (by decide +kernel)) ggL_law_L_addPilot
set_option maxRecDepth 20000 in
theorem ggL_law_X7_addPilot : GoodIn wsL_law wsX7_addPilot := goodIn_r _ [318, 108, 319, 62, 64, 114, 115, 5, 116, 117, 118, 119, 120, 720, 721, 722, 723, 724, 725, 726, 727, 728, 729, 730, 731, 732, 733, 734, 735, 736, 737] (by decide +kernel) (by decide +kernel)
set_option maxRecDepth 20000 in
theorem gL_law_X7_addPilot : GoodIn wsL_law (wsV RL 113 RX7 yX7_addPilot wsX7_addPilot) := goodIn_app (goodIn_of _ (by decide +kernel)) ggL_law_X7_addPilot
set_option maxRecDepth 20000 in
theorem ggL_law_L_setTugs : GoodIn wsL_law wsL_setTugs := goodIn_ca (goodIn_ca (goodIn_r _ [322, 71, 72, 323, 324, 325, 2, 326, 77, 78, 23, 26, 82, 83, 84, 85, 86, 87, 88, 89, 19, 90, 91, 712, 713, 714, 715, 716, 717, 718, 719, 741, 742, 743] (by decide +kernel) (by decide +kernel)) (goodIn_sub (fun _ h => List.mem_append_left _ (List.mem_append_left _ (List.mem_append_right _ h))) (by decide +kernel))) (goodIn_sub (fun _ h => List.mem_append_left _ (List.mem_append_right _ h)) (by decide +kernel))
set_option maxRecDepth 20000 in
theorem gL_law_L_setTugs : GoodIn wsL_law (va_wsS RL 114 yL_setTugs wsL_setTugs) := goodIn_app (goodIn_of _ (by decide +kernel)) ggL_law_L_setTugs
set_option maxRecDepth 20000 in
theorem ggL_law_X7_setTugs : GoodIn wsL_law wsX7_setTugs := goodIn_r _ [330, 108, 110, 65, 114, 115, 5, 116, 117, 118, 119, 120, 720, 721, 722, 723, 724, 725, 726, 727, 728, 729, 730, 731, 732, 733, 734, 735, 736, 737] (by decide +kernel) (by decide +kernel)
set_option maxRecDepth 20000 in
theorem gL_law_X7_setTugs : GoodIn wsL_law (wsV RL 116 RX7 yX7_setTugs wsX7_setTugs) := goodIn_app (goodIn_of _ (by decide +kernel)) ggL_law_X7_setTugs
set_option maxRecDepth 20000 in
theorem ggL_law_L_count : GoodIn wsL_law wsL_count := goodIn_ca (goodIn_r _ [333, 262, 334, 335, 336, 2, 337, 271, 272, 16, 20, 21, 22, 23, 165, 166, 167, 19, 168, 91, 712, 713, 714, 715, 716, 717, 718, 719, 738, 739, 740, 741, 742, 743] (by decide +kernel) (by decide +kernel)) (goodIn_sub (fun _ h => List.mem_append_right _ h) (by decide +kernel))
set_option maxRecDepth 20000 in
theorem gL_law_L_count : GoodIn wsL_law (va_wsS RL 117 yL_count wsL_count) := goodIn_app (goodIn_of _ (by decide +kernel)) ggL_law_L_count
set_option maxRecDepth 20000 in
theorem ggL_law_X7_count : GoodIn wsL_law wsX7_count := goodIn_r _ [341, 108, 114, 115, 5, 116, 342, 343, 344, 345, 109, 235, 258, 319, 110, 117, 118, 119, 120, 720, 721, 722, 723, 724, 725, 726, 727, 728, 729, 730, 731, 732, 733, 734, 735, 736, 737] (by decide +kernel) (by decide +kernel)
set_option maxRecDepth 20000 in
theorem gL_law_X7_count : GoodIn wsL_law (wsV RL 119 RX7 yX7_count wsX7_count) := goodIn_app (goodIn_of _ (by decide +kernel)) ggL_law_X7_count
set_option maxRecDepth 20000 in
theorem ggL_law_L_need : GoodIn wsL_law wsL_need := goodIn_ca (goodIn_r _ [348, 262, 349, 350, 351, 2, 352, 21, 267, 165, 166, 167, 19, 168, 91, 268, 269, 270, 271, 272, 273, 274, 275, 276, 277, 278, 279, 280, 281, 282, 283, 284, 285, 286, 287, 288, 39, 353, 354, 355, 356, 25, 712, 713, 714, 715, 716, 717, 718, 719, 741, 742, 743, 747, 748, 749, 750] (by decide +kernel) (by decide +kernel)) (goodIn_sub (fun _ h => List.mem_append_right _ h) (by decide +kernel))
set_option maxRecDepth 20000 in
theorem gL_law_L_need : GoodIn wsL_law (va_wsS RL 120 yL_need wsL_need) := goodIn_app (goodIn_of _ (by decide +kernel)) ggL_law_L_need
set_option maxRecDepth 20000 in
theorem ggL_law_X7_need : GoodIn wsL_law wsX7_need := goodIn_r _ [360, 108, 293, 294, 295, 5, 296, 258, 114, 115, 116, 361, 362, 363, 364, 61, 57, 117, 118, 119, 120, 720, 721, 722, 723, 724, 725, 726, 727, 728, 729, 730, 731, 732, 733, 734, 735, 736, 737] (by decide +kernel) (by decide +kernel)
set_option maxRecDepth 20000 in
theorem gL_law_X7_need : GoodIn wsL_law (wsV RL 122 RX7 yX7_need wsX7_need) := goodIn_app (goodIn_of _ (by decide +kernel)) ggL_law_X7_need
set_option maxRecDepth 20000 in
theorem ggL_law_L_window : GoodIn wsL_law wsL_window := goodIn_ca (goodIn_ca (goodIn_r _ [367, 262, 71, 368, 369, 370, 2, 371, 21, 267, 24, 20, 372, 373, 374, 375, 376, 165, 166, 167, 19, 168, 91, 268, 269, 270, 271, 272, 79, 80, 81, 82, 83, 84, 85, 86, 273, 274, 275, 276, 277, 278, 279, 280, 281, 282, 283, 284, 285, 286, 287, 288, 39, 377, 378, 379, 380, 16, 132, 133, 134, 15, 135, 34, 33, 32, 96, 97, 98, 99, 353, 354, 355, 356, 25, 712, 713, 714, 715, 716, 717, 718, 719, 744, 745, 746, 741, 742, 743, 738, 739, 740, 747, 748, 749, 750] (by decide +kernel) (by decide +kernel)) (goodIn_sub (fun _ h => List.mem_append_right _ h) (by decide +kernel))) (goodIn_sub (fun _ h => List.mem_append_left _ (List.mem_append_right _ h)) (by decide +kernel))
set_option maxRecDepth 20000 in
theorem gL_law_L_window : GoodIn wsL_law (va_wsS RL 123 yL_window wsL_window) := goodIn_app (goodIn_of _ (by decide +kernel)) ggL_law_L_window
set_option maxRecDepth 20000 in
theorem ggL_law_X7_window : GoodIn wsL_law wsX7_window := goodIn_r _ [384, 108, 293, 294, 295, 5, 296, 258, 114, 115, 116, 385, 386, 387, 388, 235, 117, 118, 119, 120, 111, 112, 113, 389, 390, 391, 392, 56, 59, 140, 141, 142, 143, 109, 54, 55, 361, 362, 363, 364, 61, 57, 720, 721, 722, 723, 724, 725, 726, 727, 728, 729, 730, 731, 732, 733, 734, 735, 736, 737] (by decide +kernel) (by decide +kernel)
set_option maxRecDepth 20000 in
theorem gL_law_X7_window : GoodIn wsL_law (wsV RL 126 RX7 yX7_window wsX7_window) := goodIn_app (goodIn_of _ (by decide +kernel)) ggL_law_X7_window
set_option maxRecDepth 20000 in
theorem ggL_law_L_least : GoodIn wsL_law wsL_least := goodIn_ca (goodIn_ca (goodIn_r _ [395, 262, 72, 396, 397, 398, 2, 399, 77, 78, 21, 267, 165, 166, 167, 19, 168, 91, 268, 269, 270, 271, 272, 273, 274, 275, 276, 277, 278, 279, 280, 281, 282, 283, 284, 285, 286, 287, 288, 39, 400, 401, 402, 403, 404, 405, 406, 407, 408, 409, 16, 410, 225, 199, 226, 132, 133, 134, 15, 135, 34, 33, 32, 96, 97, 98, 99, 712, 713, 714, 715, 716, 717, 718, 719, 747, 748, 749, 750, 755, 756, 757, 758, 759, 760, 761, 762, 763, 764, 765, 741, 742, 743, 744, 745, 746, 738, 739, 740] (by decide +kernel) (by decide +kernel)) (goodIn_sub (fun _ h => List.mem_append_left _ (List.mem_append_left _ (List.mem_append_right _ h))) (by decide +kernel))) (goodIn_sub (fun _ h => List.mem_append_right _ h) (by decide +kernel))
set_option maxRecDepth 20000 in
theorem gL_law_L_least : GoodIn wsL_law (va_wsS RL 127 yL_least wsL_least) := goodIn_app (goodIn_of _ (by decide +kernel)) ggL_law_L_least
set_option maxRecDepth 20000 in
theorem ggL_law_X7_least : GoodIn wsL_law wsX7_least := goodIn_r _ [414, 108, 415, 59, 61, 416, 225, 199, 226, 293, 294, 295, 5, 296, 258, 114, 115, 116, 117, 118, 119, 120, 417, 418, 419, 420, 110, 421, 422, 423, 424, 66, 425, 426, 427, 428, 429, 430, 431, 432, 433, 434, 435, 436, 437, 438, 439, 440, 140, 141, 142, 143, 109, 54, 55, 720, 721, 722, 723, 724, 725, 726, 727, 728, 729, 730, 731, 732, 733, 734, 735, 736, 737] (by decide +kernel) (by decide +kernel)
set_option maxRecDepth 20000 in
theorem gL_law_X7_least : GoodIn wsL_law (wsV RL 129 RX7 yX7_least wsX7_least) := goodIn_app (goodIn_of _ (by decide +kernel)) ggL_law_X7_least
set_option maxRecDepth 20000 in
theorem ggL_law_L_earliest : GoodIn wsL_law wsL_earliest := goodIn_ca (goodIn_ca (goodIn_r _ [443, 262, 71, 444, 445, 446, 2, 447, 373, 374, 375, 376, 21, 20, 165, 166, 167, 19, 168, 91, 268, 269, 270, 271, 272, 79, 80, 81, 82, 83, 84, 85, 86, 448, 449, 450, 451, 267, 452, 453, 454, 372, 273, 274, 275, 276, 277, 278, 279, 280, 281, 282, 283, 284, 285, 286, 287, 288, 39, 455, 456, 457, 458, 11, 12, 459, 460, 461, 462, 463, 464, 465, 466, 467, 468, 469, 470, 198, 199, 200, 471, 472, 473, 474, 23, 475, 400, 401, 402, 403, 404, 405, 476, 477, 478, 479, 24, 480, 481, 482, 483, 484, 485, 486, 487, 488, 489, 490, 377, 378, 379, 380, 16, 132, 133, 134, 15, 135, 34, 33, 32, 96, 97, 98, 99, 353, 354, 355, 356, 25, 491, 492, 493, 494, 495, 496, 497, 498, 26, 499, 500, 501, 502, 503, 504, 505, 506, 507, 508, 509, 510, 511, 512, 513, 514, 515, 516, 22, 517, 518, 519, 520, 306, 521, 313, 311, 522, 523, 524, 525, 314, 526, 527, 528, 529, 530, 712, 713, 714, 715, 716, 717, 718, 719, 741, 742, 743, 747, 748, 749, 750, 755, 756, 757, 758, 759, 760, 761, 762, 763, 764, 765, 744, 745, 746, 738, 739, 740, 751, 752, 753, 754] (by decide +kernel) (by decide +kernel)) (goodIn_sub (fun _ h => List.mem_append_right _ h) (by decide +kernel))) (goodIn_sub (fun _ h => List.mem_append_left _ (List.mem_append_right _ h)) (by decide +kernel))
set_option maxRecDepth 20000 in
theorem gL_law_L_earliest : GoodIn wsL_law (va_wsS RL 130 yL_earliest wsL_earliest) := goodIn_app (goodIn_of _ (by decide +kernel)) ggL_law_L_earliest
set_option maxRecDepth 20000 in
theorem ggL_law_X7_earliest : GoodIn wsL_law wsX7_earliest := goodIn_r _ [534, 108, 535, 536, 537, 5, 538, 293, 294, 295, 296, 258, 114, 115, 116, 385, 386, 387, 388, 235, 111, 112, 113, 539, 540, 541, 542, 543, 544, 545, 546, 58, 60, 417, 418, 419, 420, 110, 421, 422, 423, 424, 66, 425, 426, 427, 428, 433, 434, 435, 436, 437, 438, 439, 440, 389, 390, 391, 392, 56, 59, 140, 141, 142, 143, 109, 54, 55, 361, 362, 363, 364, 61, 57, 547, 548, 549, 550, 429, 430, 431, 432, 416, 225, 199, 226, 551, 552, 553, 554, 555, 485, 486, 556, 557, 558, 559, 319, 560, 561, 562, 563, 62, 564, 565, 566, 567, 568, 569, 570, 571, 64, 572, 573, 574, 575, 65, 576, 577, 578, 579, 580, 581, 582, 720, 721, 722, 723, 724, 725, 726, 727, 728, 729, 730, 731, 732, 733, 734, 735, 736, 737] (by decide +kernel) (by decide +kernel)
set_option maxRecDepth 20000 in
theorem gL_law_X7_earliest : GoodIn wsL_law (wsV RL 132 RX7 yX7_earliest wsX7_earliest) := goodIn_app (goodIn_of _ (by decide +kernel)) ggL_law_X7_earliest
set_option maxRecDepth 20000 in
theorem ggL_law_L_book : GoodIn wsL_law wsL_book := goodIn_ca (goodIn_ca (goodIn_ca (goodIn_r _ [585, 262, 71, 72, 586, 587, 588, 2, 589, 77, 78, 23, 590, 591, 403, 373, 374, 375, 376, 21, 20, 165, 166, 167, 19, 168, 91, 268, 269, 270, 271, 272, 79, 80, 81, 82, 83, 84, 85, 86, 169, 170, 171, 448, 449, 450, 451, 267, 452, 453, 454, 372, 273, 274, 275, 276, 277, 278, 279, 280, 281, 282, 283, 284, 285, 286, 287, 288, 39, 455, 456, 457, 458, 11, 12, 459, 460, 461, 462, 463, 464, 465, 466, 467, 468, 469, 470, 198, 199, 200, 471, 472, 473, 474, 475, 400, 401, 402, 404, 405, 476, 477, 478, 479, 24, 480, 481, 482, 483, 484, 485, 486, 487, 488, 489, 490, 377, 378, 379, 380, 16, 132, 133, 134, 15, 135, 34, 33, 32, 96, 97, 98, 99, 353, 354, 355, 356, 25, 491, 492, 493, 494, 495, 496, 497, 498, 26, 499, 500, 501, 502, 503, 504, 505, 506, 507, 508, 509, 510, 511, 512, 513, 514, 515, 516, 22, 517, 518, 519, 520, 306, 521, 313, 311, 522, 523, 524, 525, 314, 526, 527, 528, 529, 530, 592, 593, 594, 595, 596, 597, 598, 599, 600, 601, 602, 603, 604, 179, 180, 181, 182, 183, 184, 185, 186, 187, 188, 189, 190, 191, 192, 193, 194, 195, 196, 38, 197, 201, 202, 203, 204, 205, 206, 207, 208, 209, 210, 211, 212, 213, 214, 215, 216, 217, 218, 219, 220, 221, 222, 223, 224, 225, 226, 227, 228, 229, 230, 712, 713, 714, 715, 716, 717, 718, 719, 755, 756, 757, 758, 759, 760, 761, 741, 742, 743, 747, 748, 749, 750, 762, 763, 764, 765, 744, 745, 746, 738, 739, 740, 751, 752, 753, 754] (by decide +kernel) (by decide +kernel)) (goodIn_sub (fun _ h => List.mem_append_left _ (List.mem_append_left _ (List.mem_append_right _ h))) (by decide +kernel))) (goodIn_sub (fun _ h => List.mem_append_right _ h) (by decide +kernel))) (goodIn_sub (fun _ h => List.mem_append_left _ (List.mem_append_right _ h)) (by decide +kernel))
set_option maxRecDepth 20000 in
theorem gL_law_L_book : GoodIn wsL_law (va_wsS RL 133 yL_book wsL_book) := goodIn_app (goodIn_of _ (by decide +kernel)) ggL_law_L_book
set_option maxRecDepth 20000 in
theorem ggL_law_X7_book : GoodIn wsL_law wsX7_book := goodIn_r _ [608, 108, 110, 31, 60, 66, 609, 228, 229, 230, 535, 536, 537, 5, 538, 293, 294, 295, 296, 258, 114, 115, 116, 385, 386, 387, 388, 235, 111, 112, 113, 539, 540, 541, 542, 543, 544, 545, 546, 58, 417, 418, 419, 420, 421, 422, 423, 424, 425, 426, 427, 428, 433, 434, 435, 436, 437, 438, 439, 440, 389, 390, 391, 392, 56, 59, 140, 141, 142, 143, 109, 54, 55, 361, 362, 363, 364, 61, 57, 547, 548, 549, 550, 429, 430, 431, 432, 416, 225, 199, 226, 551, 552, 553, 554, 555, 485, 486, 556, 557, 558, 559, 319, 560, 561, 562, 563, 62, 564, 565, 566, 567, 568, 569, 570, 571, 64, 572, 573, 574, 575, 65, 576, 577, 578, 579, 580, 581, 582, 117, 118, 119, 120, 720, 721, 722, 723, 724, 725, 726, 727, 728, 729, 730, 731, 732, 733, 734, 735, 736, 737] (by decide +kernel) (by decide +kernel)
set_option maxRecDepth 20000 in
theorem gL_law_X7_book : GoodIn wsL_law (wsV RL 135 RX7 yX7_book wsX7_book) := goodIn_app (goodIn_of _ (by decide +kernel)) ggL_law_X7_book
set_option maxRecDepth 20000 in
theorem ggL_law_L_cancel : GoodIn wsL_law wsL_cancel := goodIn_ca (goodIn_r _ [612, 72, 613, 614, 615, 2, 616, 77, 78, 23, 475, 165, 166, 167, 19, 168, 91, 617, 618, 619, 620, 39, 277, 278, 279, 280, 281, 282, 283, 284, 621, 622, 623, 624, 183, 184, 625, 228, 229, 230, 712, 713, 714, 715, 716, 717, 718, 719, 755, 756, 757, 758, 759, 760, 761, 762, 763, 764, 765, 747, 748, 749, 750, 751, 752, 753, 754, 741, 742, 743] (by decide +kernel) (by decide +kernel)) (goodIn_sub (fun _ h => List.mem_append_left _ (List.mem_append_left _ (List.mem_append_right _ h))) (by decide +kernel))
set_option maxRecDepth 20000 in
theorem gL_law_L_cancel : GoodIn wsL_law (va_wsS RL 136 yL_cancel wsL_cancel) := goodIn_app (goodIn_of _ (by decide +kernel)) ggL_law_L_cancel
set_option maxRecDepth 20000 in
theorem ggL_law_X7_cancel : GoodIn wsL_law wsX7_cancel := goodIn_r _ [629, 108, 110, 117, 118, 119, 5, 120, 421, 422, 423, 424, 66, 720, 721, 722, 723, 724, 725, 726, 727, 728, 729, 730, 731, 732, 733, 734, 735, 736, 737] (by decide +kernel) (by decide +kernel)
set_option maxRecDepth 20000 in
theorem gL_law_X7_cancel : GoodIn wsL_law (wsV RL 139 RX7 yX7_cancel wsX7_cancel) := goodIn_app (goodIn_of _ (by decide +kernel)) ggL_law_X7_cancel
set_option maxRecDepth 20000 in
theorem ggL_law_L_passage : GoodIn wsL_law wsL_passage := goodIn_ca (goodIn_r _ [632, 262, 633, 634, 635, 2, 636, 271, 272, 23, 475, 165, 166, 167, 19, 168, 91, 268, 269, 270, 273, 274, 275, 276, 277, 278, 279, 280, 281, 282, 283, 284, 285, 286, 287, 288, 39, 712, 713, 714, 715, 716, 717, 718, 719, 755, 756, 757, 758, 759, 760, 761, 762, 763, 764, 765, 747, 748, 749, 750, 751, 752, 753, 754, 744, 745, 746, 741, 742, 743] (by decide +kernel) (by decide +kernel)) (goodIn_sub (fun _ h => List.mem_append_right _ h) (by decide +kernel))
set_option maxRecDepth 20000 in
theorem gL_law_L_passage : GoodIn wsL_law (va_wsS RL 140 yL_passage wsL_passage) := goodIn_app (goodIn_of _ (by decide +kernel)) ggL_law_L_passage
set_option maxRecDepth 20000 in
theorem ggL_law_X7_passage : GoodIn wsL_law wsX7_passage := goodIn_r _ [640, 108, 110, 114, 115, 5, 116, 421, 422, 423, 424, 66, 117, 118, 119, 120, 720, 721, 722, 723, 724, 725, 726, 727, 728, 729, 730, 731, 732, 733, 734, 735, 736, 737] (by decide +kernel) (by decide +kernel)
set_option maxRecDepth 20000 in
theorem gL_law_X7_passage : GoodIn wsL_law (wsV RL 142 RX7 yX7_passage wsX7_passage) := goodIn_app (goodIn_of _ (by decide +kernel)) ggL_law_X7_passage
set_option maxRecDepth 20000 in
theorem ggL_law_L_occupant : GoodIn wsL_law wsL_occupant := goodIn_ca (goodIn_ca (goodIn_r _ [643, 262, 71, 644, 645, 646, 2, 647, 20, 23, 475, 165, 166, 167, 19, 168, 91, 268, 269, 270, 271, 272, 79, 80, 81, 82, 83, 84, 85, 86, 273, 274, 275, 276, 277, 278, 279, 280, 281, 282, 283, 284, 285, 286, 287, 288, 39, 648, 649, 650, 403, 651, 405, 600, 712, 713, 714, 715, 716, 717, 718, 719, 755, 756, 757, 758, 759, 760, 761, 762, 763, 764, 765, 744, 745, 746, 747, 748, 749, 750, 741, 742, 743] (by decide +kernel) (by decide +kernel)) (goodIn_sub (fun _ h => List.mem_append_right _ h) (by decide +kernel))) (goodIn_sub (fun _ h => List.mem_append_left _ (List.mem_append_right _ h)) (by decide +kernel))
set_option maxRecDepth 20000 in
theorem gL_law_L_occupant : GoodIn wsL_law (va_wsS RL 143 yL_occupant wsL_occupant) := goodIn_app (goodIn_of _ (by decide +kernel)) ggL_law_L_occupant
set_option maxRecDepth 20000 in
theorem ggL_law_X7_occupant : GoodIn wsL_law wsX7_occupant := goodIn_r _ [655, 108, 110, 385, 386, 387, 5, 388, 235, 114, 115, 116, 117, 118, 119, 120, 111, 112, 113, 433, 434, 435, 436, 421, 422, 423, 424, 66, 425, 426, 427, 428, 429, 430, 431, 432, 416, 225, 199, 226, 437, 438, 439, 440, 720, 721, 722, 723, 724, 725, 726, 727, 728, 729, 730, 731, 732, 733, 734, 735, 736, 737] (by decide +kernel) (by decide +kernel)
set_option maxRecDepth 20000 in
theorem gL_law_X7_occupant : GoodIn wsL_law (wsV RL 145 RX7 yX7_occupant wsX7_occupant) := goodIn_app (goodIn_of _ (by decide +kernel)) ggL_law_X7_occupant
set_option maxRecDepth 20000 in
theorem ggL_law_L_freeTugs : GoodIn wsL_law wsL_freeTugs := goodIn_ca (goodIn_r _ [658, 71, 659, 660, 661, 2, 662, 26, 79, 80, 81, 82, 83, 84, 85, 86, 503, 504, 505, 506, 23, 475, 165, 166, 167, 19, 168, 91, 273, 274, 275, 276, 277, 278, 279, 280, 281, 282, 283, 284, 285, 286, 287, 288, 39, 507, 508, 509, 403, 510, 511, 405, 512, 500, 501, 454, 502, 461, 712, 713, 714, 715, 716, 717, 718, 719, 755, 756, 757, 758, 759, 760, 761, 762, 763, 764, 765, 741, 742, 743] (by decide +kernel) (by decide +kernel)) (goodIn_sub (fun _ h => List.mem_append_left _ (List.mem_append_right _ h)) (by decide +kernel))
set_option maxRecDepth 20000 in
theorem gL_law_L_freeTugs : GoodIn wsL_law (va_wsS RL 146 yL_freeTugs wsL_freeTugs) := goodIn_app (goodIn_of _ (by decide +kernel)) ggL_law_L_freeTugs
set_option maxRecDepth 20000 in
theorem ggL_law_X7_freeTugs : GoodIn wsL_law wsX7_freeTugs := goodIn_r _ [666, 108, 65, 111, 112, 5, 113, 114, 115, 116, 579, 580, 581, 582, 110, 425, 426, 427, 428, 421, 422, 423, 424, 66, 433, 434, 435, 436, 117, 118, 119, 120, 720, 721, 722, 723, 724, 725, 726, 727, 728, 729, 730, 731, 732, 733, 734, 735, 736, 737] (by decide +kernel) (by decide +kernel)
set_option maxRecDepth 20000 in
theorem gL_law_X7_freeTugs : GoodIn wsL_law (wsV RL 148 RX7 yX7_freeTugs wsX7_freeTugs) := goodIn_app (goodIn_of _ (by decide +kernel)) ggL_law_X7_freeTugs
set_option maxRecDepth 20000 in
theorem ggL_law_L_trips : GoodIn wsL_law wsL_trips := goodIn_ca (goodIn_r _ [669, 262, 670, 671, 672, 2, 673, 22, 23, 475, 165, 166, 167, 19, 168, 91, 268, 269, 270, 271, 272, 273, 274, 275, 276, 277, 278, 279, 280, 281, 282, 283, 284, 285, 286, 287, 288, 39, 712, 713, 714, 715, 716, 717, 718, 719, 755, 756, 757, 758, 759, 760, 761, 751, 752, 753, 754, 741, 742, 743] (by decide +kernel) (by decide +kernel)) (goodIn_sub (fun _ h => List.mem_append_right _ h) (by decide +kernel))
set_option maxRecDepth 20000 in
theorem gL_law_L_trips : GoodIn wsL_law (va_wsS RL 149 yL_trips wsL_trips) := goodIn_app (goodIn_of _ (by decide +kernel)) ggL_law_L_trips
set_option maxRecDepth 20000 in
theorem ggL_law_X7_trips : GoodIn wsL_law wsX7_trips := goodIn_r _ [677, 108, 319, 110, 114, 115, 5, 116, 117, 118, 119, 120, 421, 422, 423, 424, 66, 720, 721, 722, 723, 724, 725, 726, 727, 728, 729, 730, 731, 732, 733, 734, 735, 736, 737] (by decide +kernel) (by decide +kernel)
set_option maxRecDepth 20000 in
theorem gL_law_X7_trips : GoodIn wsL_law (wsV RL 151 RX7 yX7_trips wsX7_trips) := goodIn_app (goodIn_of _ (by decide +kernel)) ggL_law_X7_trips
set_option maxRecDepth 20000 in
theorem ggL_law_L_isInPort : GoodIn wsL_law wsL_isInPort := goodIn_ca (goodIn_r _ [680, 262, 681, 682, 683, 2, 684, 22, 517, 165, 166, 167, 19, 168, 91, 268, 269, 270, 271, 272, 273, 274, 275, 276, 277, 278, 279, 280, 281, 282, 283, 284, 285, 286, 287, 288, 39, 685, 523, 524, 306, 525, 311, 314, 712, 713, 714, 715, 716, 717, 718, 719, 741, 742, 743, 751, 752, 753, 754, 755, 756, 757, 758, 759, 760, 761, 762, 763, 764, 765] (by decide +kernel) (by decide +kernel)) (goodIn_sub (fun _ h => List.mem_append_right _ h) (by decide +kernel))
set_option maxRecDepth 20000 in
theorem gL_law_L_isInPort : GoodIn wsL_law (va_wsS RL 152 yL_isInPort wsL_isInPort) := goodIn_app (goodIn_of _ (by decide +kernel)) ggL_law_L_isInPort
set_option maxRecDepth 20000 in
theorem ggL_law_X7_isInPort : GoodIn wsL_law wsX7_isInPort := goodIn_r _ [689, 319, 108, 114, 115, 5, 116, 568, 569, 570, 571, 64, 564, 565, 566, 567, 110, 421, 422, 423, 424, 66, 425, 426, 427, 428, 433, 434, 435, 436, 720, 721, 722, 723, 724, 725, 726, 727, 728, 729, 730, 731, 732, 733, 734, 735, 736, 737] (by decide +kernel) (by decide +kernel)
set_option maxRecDepth 20000 in
theorem gL_law_X7_isInPort : GoodIn wsL_law (wsV RL 154 RX7 yX7_isInPort wsX7_isInPort) := goodIn_app (goodIn_of _ (by decide +kernel)) ggL_law_X7_isInPort
set_option maxRecDepth 20000 in
theorem ggL_law_X6_delay : GoodIn wsL_law wsX6_delay := goodIn_r _ [693, 23, 475, 165, 166, 167, 19, 168, 91, 273, 274, 275, 276, 277, 278, 279, 280, 281, 282, 283, 284, 285, 286, 287, 288, 39, 712, 713, 714, 715, 716, 717, 718, 719, 755, 756, 757, 758, 759, 760, 761, 741, 742, 743] (by decide +kernel) (by decide +kernel)
set_option maxRecDepth 20000 in
theorem gL_law_X6_delay : GoodIn wsL_law (wsV RL 155 RX6 yX6_delay wsX6_delay) := goodIn_app (goodIn_of _ (by decide +kernel)) ggL_law_X6_delay
set_option maxRecDepth 20000 in
theorem ggL_law_X7_delay : GoodIn wsL_law wsX7_delay := goodIn_r _ [697, 108, 110, 425, 426, 427, 5, 428, 421, 422, 423, 424, 66, 720, 721, 722, 723, 724, 725, 726, 727, 728, 729, 730, 731, 732, 733, 734, 735, 736, 737] (by decide +kernel) (by decide +kernel)
set_option maxRecDepth 20000 in
theorem gL_law_X7_delay : GoodIn wsL_law (wsV RL 159 RX7 yX7_delay wsX7_delay) := goodIn_app (goodIn_of _ (by decide +kernel)) ggL_law_X7_delay
set_option maxRecDepth 20000 in
theorem ggL_law_X6_digest : GoodIn wsL_law wsX6_digest := goodIn_ca (goodIn_r _ [701, 702, 703, 24, 25, 26, 21, 267, 23, 704, 335, 336, 2, 337, 271, 272, 16, 20, 22, 165, 166, 167, 19, 168, 91, 273, 274, 275, 276, 277, 278, 279, 280, 281, 282, 283, 284, 285, 286, 287, 288, 39, 353, 354, 355, 356, 705, 634, 635, 636, 475, 268, 269, 270, 712, 713, 714, 715, 716, 717, 718, 719, 747, 748, 749, 750, 738, 739, 740, 741, 742, 743, 755, 756, 757, 758, 759, 760, 761, 762, 763, 764, 765, 751, 752, 753, 754, 744, 745, 746] (by decide +kernel) (by decide +kernel)) (goodIn_sub (fun _ h => List.mem_append_right _ h) (by decide +kernel))
set_option maxRecDepth 20000 in
theorem gL_law_X6_digest : GoodIn wsL_law (wsV RL 160 RX6 yX6_digest wsX6_digest) := goodIn_app (goodIn_of _ (by decide +kernel)) ggL_law_X6_digest
set_option maxRecDepth 20000 in
theorem ggL_law_X7_digest : GoodIn wsL_law wsX7_digest := goodIn_r _ [709, 108, 710, 711, 56, 57, 65, 258, 61, 110, 342, 343, 344, 5, 345, 109, 235, 319, 361, 362, 363, 364, 421, 422, 423, 424, 66, 720, 721, 722, 723, 724, 725, 726, 727, 728, 729, 730, 731, 732, 733, 734, 735, 736, 737] (by decide +kernel) (by decide +kernel)
set_option maxRecDepth 20000 in
theorem gL_law_X7_digest : GoodIn wsL_law (wsV RL 164 RX7 yX7_digest wsX7_digest) := goodIn_app (goodIn_of _ (by decide +kernel)) ggL_law_X7_digest
