set_option maxRecDepth 20000 in
theorem wsLp_wsL_law0_r1 : ∀ w ∈ wsL_law0_r1, w ∈ lw_tbl := fun w h => (goodIn_r wsL_law0_r1 [66, 67, 43, 753, 754, 48, 1018, 68, 69, 70, 71, 72, 73, 74, 75, 44, 118, 92, 93, 47, 119, 120, 121, 122] (by decide +kernel) (by decide +kernel) w h).1
set_option maxRecDepth 20000 in
theorem wsLp_wsL_law0_r2 : ∀ w ∈ wsL_law0_r2, w ∈ lw_tbl := fun w h => (goodIn_r wsL_law0_r2 [123, 124, 125, 76, 77, 78, 79, 91, 80, 81, 82, 94, 95, 96, 104, 106, 97, 98, 46, 99, 108, 100, 101, 45] (by decide +kernel) (by decide +kernel) w h).1
set_option maxRecDepth 20000 in
theorem wsLp_wsL_law0_r3 : ∀ w ∈ wsL_law0_r3, w ∈ lw_tbl := fun w h => (goodIn_r wsL_law0_r3 [102, 103, 755, 756, 757, 758, 761, 762, 763, 764, 766, 767, 769, 770, 772, 814, 773, 774, 776, 258, 259, 42, 260, 261] (by decide +kernel) (by decide +kernel) w h).1
set_option maxRecDepth 20000 in
theorem wsLp_wsL_law0_r4 : ∀ w ∈ wsL_law0_r4, w ∈ lw_tbl := fun w h => (goodIn_r wsL_law0_r4 [262, 263, 264, 265, 266, 301, 53, 267, 268, 269, 270, 271, 272, 273, 52, 289, 290, 291, 292, 107, 293, 294, 295, 296] (by decide +kernel) (by decide +kernel) w h).1
set_option maxRecDepth 20000 in
theorem wsLp_wsL_law0_r5 : ∀ w ∈ wsL_law0_r5, w ∈ lw_tbl := fun w h => (goodIn_r wsL_law0_r5 [297, 298, 299, 300, 317, 318, 319, 320, 819, 820, 821, 822, 759, 760, 775, 823, 824, 825, 826, 827, 828, 829, 831, 18] (by decide +kernel) (by decide +kernel) w h).1
set_option maxRecDepth 20000 in
theorem wsLp_wsL_law0_r6 : ∀ w ∈ wsL_law0_r6, w ∈ lw_tbl := fun w h => (goodIn_r wsL_law0_r6 [832, 815, 816, 817, 818, 321, 322, 323, 324, 325, 326, 327, 328, 329, 330, 331, 833, 834, 835, 836, 837, 839, 19, 840] (by decide +kernel) (by decide +kernel) w h).1
set_option maxRecDepth 20000 in
theorem wsLp_wsL_law0_r7 : ∀ w ∈ wsL_law0_r7, w ∈ lw_tbl := fun w h => (goodIn_r wsL_law0_r7 [332, 333, 334, 335, 336, 337, 338, 841, 842, 843, 844, 339, 340, 341, 342, 343, 344, 345, 350, 351, 54, 147, 148, 149] (by decide +kernel) (by decide +kernel) w h).1
set_option maxRecDepth 20000 in
theorem wsLp_wsL_law0_r8 : ∀ w ∈ wsL_law0_r8, w ∈ lw_tbl := fun w h => (goodIn_r wsL_law0_r8 [150, 346, 347, 348, 352, 353, 354, 355, 356, 358, 360, 369, 370, 371, 372, 109, 110, 373, 375, 2, 376, 377, 379, 3] (by decide +kernel) (by decide +kernel) w h).1
set_option maxRecDepth 20000 in
theorem wsLp_wsL_law0_r9 : ∀ w ∈ wsL_law0_r9, w ∈ lw_tbl := fun w h => (goodIn_r wsL_law0_r9 [380, 381, 383, 4, 384, 426, 389, 56, 390, 427, 385, 386, 55, 387, 388, 391, 392, 393, 394, 395, 396, 57, 397, 398] (by decide +kernel) (by decide +kernel) w h).1
set_option maxRecDepth 20000 in
theorem wsLp_wsL_law0_r10 : ∀ w ∈ wsL_law0_r10, w ∈ lw_tbl := fun w h => (goodIn_r wsL_law0_r10 [1035, 399, 413, 414, 415, 416, 417, 419, 420, 421, 422, 423, 425, 424, 58, 845, 846, 847, 848, 765, 428, 429, 430, 431] (by decide +kernel) (by decide +kernel) w h).1
set_option maxRecDepth 20000 in
theorem wsLp_wsL_law0_r11 : ∀ w ∈ wsL_law0_r11, w ∈ lw_tbl := fun w h => (goodIn_r wsL_law0_r11 [432, 433, 434, 244, 435, 59, 436, 437, 438, 439, 448, 440, 442, 446, 849, 850, 851, 852, 768, 460, 461, 462, 463, 464] (by decide +kernel) (by decide +kernel) w h).1
set_option maxRecDepth 20000 in
theorem wsLp_wsL_law0_r12 : ∀ w ∈ wsL_law0_r12, w ∈ lw_tbl := fun w h => (goodIn_r wsL_law0_r12 [465, 466, 467, 244, 253, 254, 255, 176, 60, 151, 152, 153, 154, 155, 156, 61, 157, 158, 159, 62, 160, 161, 162, 163] (by decide +kernel) (by decide +kernel) w h).1
set_option maxRecDepth 20000 in
theorem wsLp_wsL_law0_r13 : ∀ w ∈ wsL_law0_r13, w ∈ lw_tbl := fun w h => (goodIn_r wsL_law0_r13 [164, 853, 854, 855, 856, 857, 859, 20, 860, 468, 469, 470, 471, 472, 473, 474, 475, 476, 63, 477, 478, 479, 480, 485] (by decide +kernel) (by decide +kernel) w h).1
set_option maxRecDepth 20000 in
theorem wsLp_wsL_law0_r14 : ∀ w ∈ wsL_law0_r14, w ∈ lw_tbl := fun w h => (goodIn_r wsL_law0_r14 [481, 483, 484, 861, 862, 863, 864, 771, 497, 498, 499, 500, 501, 502, 503, 865, 866, 867, 868, 505, 506, 507, 508, 173] (by decide +kernel) (by decide +kernel) w h).1
set_option maxRecDepth 20000 in
theorem wsLp_wsL_law0_r15 : ∀ w ∈ wsL_law0_r15, w ∈ lw_tbl := fun w h => (goodIn_r wsL_law0_r15 [174, 175, 869, 870, 871, 872, 873, 875, 21, 876, 509, 510, 511, 512, 513, 514, 515, 245, 247, 1, 248, 877, 878, 879] (by decide +kernel) (by decide +kernel) w h).1
set_option maxRecDepth 20000 in
theorem wsLp_wsL_law0_r16 : ∀ w ∈ wsL_law0_r16, w ∈ lw_tbl := fun w h => (goodIn_r wsL_law0_r16 [880, 881, 883, 22, 884, 516, 517, 518, 519, 520, 521, 522, 350, 523, 525, 5, 526, 527, 529, 6, 530, 885, 886, 887] (by decide +kernel) (by decide +kernel) w h).1
set_option maxRecDepth 20000 in
theorem wsLp_wsL_law0_r17 : ∀ w ∈ wsL_law0_r17, w ∈ lw_tbl := fun w h => (goodIn_r wsL_law0_r17 [888, 889, 891, 23, 892, 893, 895, 24, 896, 531, 532, 533, 534, 535, 536, 537, 539, 540, 541, 65, 542, 670, 543, 545] (by decide +kernel) (by decide +kernel) w h).1
set_option maxRecDepth 20000 in
theorem wsLp_wsL_law0_r18 : ∀ w ∈ wsL_law0_r18, w ∈ lw_tbl := fun w h => (goodIn_r wsL_law0_r18 [7, 546, 547, 897, 898, 899, 900, 926, 925, 901, 903, 25, 904, 905, 907, 26, 908, 909, 911, 27, 912, 913, 915, 28] (by decide +kernel) (by decide +kernel) w h).1
set_option maxRecDepth 20000 in
theorem wsLp_wsL_law0_r19 : ∀ w ∈ wsL_law0_r19, w ∈ lw_tbl := fun w h => (goodIn_r wsL_law0_r19 [916, 917, 919, 29, 920, 921, 923, 30, 924, 548, 549, 550, 551, 552, 553, 554, 555, 557, 8, 558, 559, 560, 64, 561] (by decide +kernel) (by decide +kernel) w h).1
set_option maxRecDepth 20000 in
theorem wsLp_wsL_law0_r20 : ∀ w ∈ wsL_law0_r20, w ∈ lw_tbl := fun w h => (goodIn_r wsL_law0_r20 [562, 563, 564, 568, 572, 574, 578, 565, 566, 567, 589, 591, 9, 592, 597, 593, 595, 10, 596, 165, 598, 600, 11, 601] (by decide +kernel) (by decide +kernel) w h).1
set_option maxRecDepth 20000 in
theorem wsLp_wsL_law0_r21 : ∀ w ∈ wsL_law0_r21, w ∈ lw_tbl := fun w h => (goodIn_r wsL_law0_r21 [602, 604, 12, 605, 606, 607, 608, 609, 610, 611, 612, 613, 614, 615, 616, 617, 619, 13, 620, 621, 622, 623, 624, 625] (by decide +kernel) (by decide +kernel) w h).1
set_option maxRecDepth 20000 in
theorem wsLp_wsL_law0_r22 : ∀ w ∈ wsL_law0_r22, w ∈ lw_tbl := fun w h => (goodIn_r wsL_law0_r22 [627, 14, 628, 629, 630, 631, 632, 665, 633, 634, 636, 15, 637, 475, 638, 639, 640, 641, 642, 643, 644, 645, 646, 647] (by decide +kernel) (by decide +kernel) w h).1
set_option maxRecDepth 20000 in
theorem wsLp_wsL_law0_r23 : ∀ w ∈ wsL_law0_r23, w ∈ lw_tbl := fun w h => (goodIn_r wsL_law0_r23 [648, 649, 650, 927, 928, 929, 930, 931, 933, 31, 934, 935, 937, 32, 938, 939, 941, 33, 942, 943, 945, 34, 946, 947] (by decide +kernel) (by decide +kernel) w h).1
set_option maxRecDepth 20000 in
theorem wsLp_wsL_law0_r24 : ∀ w ∈ wsL_law0_r24, w ∈ lw_tbl := fun w h => (goodIn_r wsL_law0_r24 [949, 35, 950, 951, 952, 954, 36, 955, 956, 958, 37, 959, 960, 962, 38, 963, 964, 966, 39, 967, 968, 970, 40, 971] (by decide +kernel) (by decide +kernel) w h).1
set_option maxRecDepth 20000 in
theorem wsLp_wsL_law0_r25 : ∀ w ∈ wsL_law0_r25, w ∈ lw_tbl := fun w h => (goodIn_r wsL_law0_r25 [972, 973, 974, 975, 977, 41, 978, 651, 652, 653, 654, 655, 656, 657, 165, 660, 661, 662, 663, 664, 668, 672, 674, 676] (by decide +kernel) (by decide +kernel) w h).1
set_option maxRecDepth 20000 in
theorem wsLp_wsL_law0_r26 : ∀ w ∈ wsL_law0_r26, w ∈ lw_tbl := fun w h => (goodIn_r wsL_law0_r26 [678, 695, 697, 16, 698, 979, 980, 981, 982, 983, 699, 700, 701, 702, 703, 704, 705, 707, 708, 709, 710, 711, 713, 17] (by decide +kernel) (by decide +kernel) w h).1
set_option maxRecDepth 20000 in
theorem wsLp_wsL_law0_r27 : ∀ w ∈ wsL_law0_r27, w ∈ lw_tbl := fun w h => (goodIn_r wsL_law0_r27 [714, 715, 984, 985, 986, 987, 716, 717, 718, 719, 250, 251, 252, 988, 989, 990, 991, 720, 721, 722, 723, 724, 725, 726] (by decide +kernel) (by decide +kernel) w h).1
set_option maxRecDepth 20000 in
theorem wsLp_wsL_law0_r28 : ∀ w ∈ wsL_law0_r28, w ∈ lw_tbl := fun w h => (goodIn_r wsL_law0_r28 [727, 728, 729, 730, 992, 993, 994, 995, 731, 732, 733, 734, 735, 736, 737, 996, 997, 998, 999, 738, 739, 740, 741, 742] (by decide +kernel) (by decide +kernel) w h).1
set_option maxRecDepth 20000 in
theorem wsLp_wsL_law0_r29 : ∀ w ∈ wsL_law0_r29, w ∈ lw_tbl := fun w h => (goodIn_r wsL_law0_r29 [743, 744, 1000, 1001, 1002, 1003, 745, 746, 747, 748, 749, 750, 751, 752, 1004, 1005, 1006, 1007, 143, 144, 145, 146, 1008, 1009] (by decide +kernel) (by decide +kernel) w h).1
set_option maxRecDepth 20000 in
theorem wsLp_wsL_law0_r30 : ∀ w ∈ wsL_law0_r30, w ∈ lw_tbl := fun w h => (goodIn_r wsL_law0_r30 [1010, 1011, 166, 167, 168, 169, 170, 171, 172, 249, 1012, 1013, 1014, 1015, 1016, 1017] (by decide +kernel) (by decide +kernel) w h).1
set_option maxRecDepth 20000 in
theorem wsLp_wsX60 : ∀ w ∈ wsX60, w ∈ lw_tbl := fun w h => (goodIn_r wsX60 [126, 128, 130, 132, 134, 136, 138, 140] (by decide +kernel) (by decide +kernel) w h).1
set_option maxRecDepth 20000 in
theorem wsLp_wsX70 : ∀ w ∈ wsX70, w ∈ lw_tbl := fun w h => (goodIn_r wsX70 [777, 779, 781, 783, 785, 787, 789, 791, 793, 795, 797, 799, 801, 803, 805, 807, 809, 811] (by decide +kernel) (by decide +kernel) w h).1
set_option maxRecDepth 20000 in
theorem wsLp_wsX50 : ∀ w ∈ wsX50, w ∈ lw_tbl := fun w h => (goodIn_r wsX50 [84, 86, 88] (by decide +kernel) (by decide +kernel) w h).1
set_option maxRecDepth 20000 in
theorem wsLp_wsJx4a65c0 : ∀ w ∈ wsJx4a65c0, w ∈ lw_tbl := fun w h => (goodIn_r wsJx4a65c0 [115, 111, 113] (by decide +kernel) (by decide +kernel) w h).1
set_option maxRecDepth 20000 in
theorem wsLp_wsX00 : ∀ w ∈ wsX00, w ∈ lw_tbl := fun w h => (goodIn_r wsX00 [362, 364, 366] (by decide +kernel) (by decide +kernel) w h).1
set_option maxRecDepth 20000 in
theorem wsLp_wsX40 : ∀ w ∈ wsX40, w ∈ lw_tbl := fun w h => (goodIn_r wsX40 [451, 453, 455, 457] (by decide +kernel) (by decide +kernel) w h).1
set_option maxRecDepth 20000 in
theorem wsLp_wsX20 : ∀ w ∈ wsX20, w ∈ lw_tbl := fun w h => (goodIn_r wsX20 [488, 490, 492, 494] (by decide +kernel) (by decide +kernel) w h).1
set_option maxRecDepth 20000 in
theorem wsLp_wsX10 : ∀ w ∈ wsX10, w ∈ lw_tbl := fun w h => (goodIn_r wsX10 [680, 682, 684, 686, 688, 690, 692] (by decide +kernel) (by decide +kernel) w h).1
set_option maxRecDepth 20000 in
theorem wsLp_wsX30 : ∀ w ∈ wsX30, w ∈ lw_tbl := fun w h => (goodIn_r wsX30 [580, 582, 584, 586] (by decide +kernel) (by decide +kernel) w h).1
theorem wsL_law_in0 : ∀ w ∈ wsL_law0, w ∈ lw_tbl := fun w => (fun h => (List.mem_append.mp h).elim ((fun h => (List.mem_append.mp h).elim ((fun h => (List.mem_append.mp h).elim ((fun h => (List.mem_append.mp h).elim ((fun h => (List.mem_append.mp h).elim ((fun h => (List.mem_append.mp h).elim ((fun h => (List.mem_append.mp h).elim ((fun h => (List.mem_append.mp h).elim ((fun h => (List.mem_append.mp h).elim ((fun h => (List.mem_append.mp h).elim ((fun h => (List.mem_append.mp h).elim (wsLp_wsL_law0_r1 w) ((fun h => (List.mem_append.mp h).elim (wsLp_wsL_law0_r2 w) ((fun h => (List.mem_append.mp h).elim (wsLp_wsL_law0_r3 w) ((fun h => (List.mem_append.mp h).elim (wsLp_wsL_law0_r4 w) ((fun h => (List.mem_append.mp h).elim (wsLp_wsL_law0_r5 w) ((fun h => (List.mem_append.mp h).elim (wsLp_wsL_law0_r6 w) ((fun h => (List.mem_append.mp h).elim (wsLp_wsL_law0_r7 w) ((fun h => (List.mem_append.mp h).elim (wsLp_wsL_law0_r8 w) ((fun h => (List.mem_append.mp h).elim (wsLp_wsL_law0_r9 w) ((fun h => (List.mem_append.mp h).elim (wsLp_wsL_law0_r10 w) ((fun h => (List.mem_append.mp h).elim (wsLp_wsL_law0_r11 w) ((fun h => (List.mem_append.mp h).elim (wsLp_wsL_law0_r12 w) ((fun h => (List.mem_append.mp h).elim (wsLp_wsL_law0_r13 w) ((fun h => (List.mem_append.mp h).elim (wsLp_wsL_law0_r14 w) ((fun h => (List.mem_append.mp h).elim (wsLp_wsL_law0_r15 w) ((fun h => (List.mem_append.mp h).elim (wsLp_wsL_law0_r16 w) ((fun h => (List.mem_append.mp h).elim (wsLp_wsL_law0_r17 w) ((fun h => (List.mem_append.mp h).elim (wsLp_wsL_law0_r18 w) ((fun h => (List.mem_append.mp h).elim (wsLp_wsL_law0_r19 w) ((fun h => (List.mem_append.mp h).elim (wsLp_wsL_law0_r20 w) ((fun h => (List.mem_append.mp h).elim (wsLp_wsL_law0_r21 w) ((fun h => (List.mem_append.mp h).elim (wsLp_wsL_law0_r22 w) ((fun h => (List.mem_append.mp h).elim (wsLp_wsL_law0_r23 w) ((fun h => (List.mem_append.mp h).elim (wsLp_wsL_law0_r24 w) ((fun h => (List.mem_append.mp h).elim (wsLp_wsL_law0_r25 w) ((fun h => (List.mem_append.mp h).elim (wsLp_wsL_law0_r26 w) ((fun h => (List.mem_append.mp h).elim (wsLp_wsL_law0_r27 w) ((fun h => (List.mem_append.mp h).elim (wsLp_wsL_law0_r28 w) ((fun h => (List.mem_append.mp h).elim (wsLp_wsL_law0_r29 w) (wsLp_wsL_law0_r30 w))))))))))))))))))))))))))))))))))))))))))))))))))))))))))) (wsLp_wsX60 w))) (wsLp_wsX70 w))) (wsLp_wsX50 w))) (wsLp_wsJx4a65c0 w))) (wsLp_wsX00 w))) (wsLp_wsX40 w))) (wsLp_wsX20 w))) (wsLp_wsX10 w))) (wsLp_wsX30 w))) ((fun h => absurd h List.not_mem_nil)))
theorem wsL_law_x0 : ∀ w ∈ (vx_atS RX6 65 "java/lang/IllegalStateException" ["java/lang/RuntimeException", "java/lang/Exception"]).filter goodWord, w ∈ lw_tbl := by decide +kernel
theorem wsL_law_x1 : ∀ w ∈ (vx_atS RX6 242 "java/lang/IllegalArgumentException" ["java/lang/RuntimeException", "java/lang/Exception"]).filter goodWord, w ∈ lw_tbl := by decide +kernel
theorem wsL_law_x2 : ∀ w ∈ (vx_atS RX6 114 "java/lang/IndexOutOfBoundsException" ["java/lang/RuntimeException", "java/lang/Exception"]).filter goodWord, w ∈ lw_tbl := by decide +kernel
theorem wsL_law_in : ∀ w ∈ wsL_law, w ∈ lw_tbl := fun w h => (List.mem_append.mp h).elim (fun h => (List.mem_append.mp h).elim (fun h => (List.mem_append.mp h).elim (fun h => wsL_law_in0 w h) (fun h => wsL_law_x0 w h)) (fun h => wsL_law_x1 w h)) (fun h => wsL_law_x2 w h)
theorem inlX0 : ∀ w ∈ wsX00, w ∈ wsL_law := fun _ h => List.mem_append_left _ (List.mem_append_left _ (List.mem_append_left _ (List.mem_append_left _ (List.mem_append_left _ (List.mem_append_left _ (List.mem_append_left _ (List.mem_append_left _ (List.mem_append_right _ h))))))))
theorem inX0 : ∀ w ∈ wsX00, w ∈ lw_tbl := fun w h => wsL_law_in w (inlX0 w h)
theorem inlX1 : ∀ w ∈ wsX10, w ∈ wsL_law := fun _ h => List.mem_append_left _ (List.mem_append_left _ (List.mem_append_left _ (List.mem_append_left _ (List.mem_append_left _ (List.mem_append_right _ h)))))
theorem inX1 : ∀ w ∈ wsX10, w ∈ lw_tbl := fun w h => wsL_law_in w (inlX1 w h)
theorem inlX2 : ∀ w ∈ wsX20, w ∈ wsL_law := fun _ h => List.mem_append_left _ (List.mem_append_left _ (List.mem_append_left _ (List.mem_append_left _ (List.mem_append_left _ (List.mem_append_left _ (List.mem_append_right _ h))))))
theorem inX2 : ∀ w ∈ wsX20, w ∈ lw_tbl := fun w h => wsL_law_in w (inlX2 w h)
theorem inlX3 : ∀ w ∈ wsX30, w ∈ wsL_law := fun _ h => List.mem_append_left _ (List.mem_append_left _ (List.mem_append_left _ (List.mem_append_left _ (List.mem_append_right _ h))))
theorem inX3 : ∀ w ∈ wsX30, w ∈ lw_tbl := fun w h => wsL_law_in w (inlX3 w h)
theorem inlX4 : ∀ w ∈ wsX40, w ∈ wsL_law := fun _ h => List.mem_append_left _ (List.mem_append_left _ (List.mem_append_left _ (List.mem_append_left _ (List.mem_append_left _ (List.mem_append_left _ (List.mem_append_left _ (List.mem_append_right _ h)))))))
theorem inX4 : ∀ w ∈ wsX40, w ∈ lw_tbl := fun w h => wsL_law_in w (inlX4 w h)
theorem inlX5 : ∀ w ∈ wsX50, w ∈ wsL_law := fun _ h => List.mem_append_left _ (List.mem_append_left _ (List.mem_append_left _ (List.mem_append_left _ (List.mem_append_left _ (List.mem_append_left _ (List.mem_append_left _ (List.mem_append_left _ (List.mem_append_left _ (List.mem_append_left _ (List.mem_append_right _ h))))))))))
theorem inX5 : ∀ w ∈ wsX50, w ∈ lw_tbl := fun w h => wsL_law_in w (inlX5 w h)
theorem inlX6 : ∀ w ∈ wsX60, w ∈ wsL_law := fun _ h => List.mem_append_left _ (List.mem_append_left _ (List.mem_append_left _ (List.mem_append_left _ (List.mem_append_left _ (List.mem_append_left _ (List.mem_append_left _ (List.mem_append_left _ (List.mem_append_left _ (List.mem_append_left _ (List.mem_append_left _ (List.mem_append_left _ (List.mem_append_right _ h))))))))))))
theorem inX6 : ∀ w ∈ wsX60, w ∈ lw_tbl := fun w h => wsL_law_in w (inlX6 w h)
theorem inlX7 : ∀ w ∈ wsX70, w ∈ wsL_law := fun _ h => List.mem_append_left _ (List.mem_append_left _ (List.mem_append_left _ (List.mem_append_left _ (List.mem_append_left _ (List.mem_append_left _ (List.mem_append_left _ (List.mem_append_left _ (List.mem_append_left _ (List.mem_append_left _ (List.mem_append_left _ (List.mem_append_right _ h)))))))))))
theorem inX7 : ∀ w ∈ wsX70, w ∈ lw_tbl := fun w h => wsL_law_in w (inlX7 w h)
theorem inJx145de : ∀ w ∈ wsJx145de0, w ∈ lw_tbl := by decide +kernel
theorem inJx8e188 : ∀ w ∈ wsJx8e1880, w ∈ lw_tbl := by decide +kernel
theorem inJxab1ab : ∀ w ∈ wsJxab1ab0, w ∈ lw_tbl := by decide +kernel
theorem inJ9 : ∀ w ∈ wsJ90, w ∈ lw_tbl := by decide +kernel
theorem inJ0 : ∀ w ∈ wsJ00, w ∈ lw_tbl := by decide +kernel
theorem inJ10 : ∀ w ∈ wsJ100, w ∈ lw_tbl := by decide +kernel
theorem inJxa1e45 : ∀ w ∈ wsJxa1e450, w ∈ lw_tbl := by decide +kernel
theorem inJxc12de : ∀ w ∈ wsJxc12de0, w ∈ lw_tbl := by decide +kernel
theorem inlJx4a65c : ∀ w ∈ wsJx4a65c0, w ∈ wsL_law := fun _ h => List.mem_append_left _ (List.mem_append_left _ (List.mem_append_left _ (List.mem_append_left _ (List.mem_append_left _ (List.mem_append_left _ (List.mem_append_left _ (List.mem_append_left _ (List.mem_append_left _ (List.mem_append_right _ h)))))))))
theorem inJx4a65c : ∀ w ∈ wsJx4a65c0, w ∈ lw_tbl := fun w h => wsL_law_in w (inlJx4a65c w h)
theorem inJ7 : ∀ w ∈ wsJ70, w ∈ lw_tbl := by decide +kernel
