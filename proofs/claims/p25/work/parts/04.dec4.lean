theorem dL_build_492 : decode cL_build 492 = .ok (.areturn, 1) := by decide +kernel
theorem dL_build_493 : decode cL_build 493 = .ok (.iinc 8 1, 3) := by decide +kernel
theorem dL_build_496 : decode cL_build 496 = .ok (.goto (-100), 3) := by decide +kernel
theorem dL_build_499 : decode cL_build 499 = .ok (.iconst 0, 1) := by decide +kernel
theorem dL_build_500 : decode cL_build 500 = .ok (.istore 8, 2) := by decide +kernel
theorem dL_build_502 : decode cL_build 502 = .ok (.iload 8, 2) := by decide +kernel
theorem dL_build_504 : decode cL_build 504 = .ok (.aload 7, 2) := by decide +kernel
theorem dL_build_506 : decode cL_build 506 = .ok (.iconst 3, 1) := by decide +kernel
theorem dL_build_507 : decode cL_build 507 = .ok (.iaload, 1) := by decide +kernel
theorem dL_build_508 : decode cL_build 508 = .ok (.if_icmp .ge 100, 3) := by decide +kernel
theorem dL_build_511 : decode cL_build 511 = .ok (.aload 6, 2) := by decide +kernel
theorem dL_build_513 : decode cL_build 513 = .ok (.iconst 2, 1) := by decide +kernel
theorem dL_build_514 : decode cL_build 514 = .ok (.iload 8, 2) := by decide +kernel
theorem dL_build_516 : decode cL_build 516 = .ok (.imul, 1) := by decide +kernel
theorem dL_build_517 : decode cL_build 517 = .ok (.bipush 100, 2) := by decide +kernel
theorem dL_build_519 : decode cL_build 519 = .ok (.aload_n 1, 1) := by decide +kernel
theorem dL_build_520 : decode cL_build 520 = .ok (.iload_n 2, 1) := by decide +kernel
theorem dL_build_521 : decode cL_build 521 = .ok (.bipush 8, 2) := by decide +kernel
theorem dL_build_523 : decode cL_build 523 = .ok (.iadd, 1) := by decide +kernel
theorem dL_build_524 : decode cL_build 524 = .ok (.invokestatic 9, 3) := by decide +kernel
theorem dL_build_527 : decode cL_build 527 = .ok (.iconst 5, 1) := by decide +kernel
theorem dL_build_528 : decode cL_build 528 = .ok (.iload 8, 2) := by decide +kernel
theorem dL_build_530 : decode cL_build 530 = .ok (.imul, 1) := by decide +kernel
theorem dL_build_531 : decode cL_build 531 = .ok (.ishr, 1) := by decide +kernel
theorem dL_build_532 : decode cL_build 532 = .ok (.sipush 250, 3) := by decide +kernel
theorem dL_build_535 : decode cL_build 535 = .ok (.invokestatic 15, 3) := by decide +kernel
theorem dL_build_538 : decode cL_build 538 = .ok (.iadd, 1) := by decide +kernel
theorem dL_build_539 : decode cL_build 539 = .ok (.iastore, 1) := by decide +kernel
theorem dL_build_540 : decode cL_build 540 = .ok (.aload 6, 2) := by decide +kernel
theorem dL_build_542 : decode cL_build 542 = .ok (.iconst 2, 1) := by decide +kernel
theorem dL_build_543 : decode cL_build 543 = .ok (.iload 8, 2) := by decide +kernel
theorem dL_build_545 : decode cL_build 545 = .ok (.imul, 1) := by decide +kernel
theorem dL_build_546 : decode cL_build 546 = .ok (.iconst 1, 1) := by decide +kernel
theorem dL_build_547 : decode cL_build 547 = .ok (.iadd, 1) := by decide +kernel
theorem dL_build_548 : decode cL_build 548 = .ok (.aload_n 1, 1) := by decide +kernel
theorem dL_build_549 : decode cL_build 549 = .ok (.iload_n 2, 1) := by decide +kernel
theorem dL_build_550 : decode cL_build 550 = .ok (.bipush 8, 2) := by decide +kernel
theorem dL_build_552 : decode cL_build 552 = .ok (.iadd, 1) := by decide +kernel
theorem dL_build_553 : decode cL_build 553 = .ok (.invokestatic 9, 3) := by decide +kernel
theorem dL_build_556 : decode cL_build 556 = .ok (.iconst 3, 1) := by decide +kernel
theorem dL_build_557 : decode cL_build 557 = .ok (.iload 8, 2) := by decide +kernel
theorem dL_build_559 : decode cL_build 559 = .ok (.imul, 1) := by decide +kernel
theorem dL_build_560 : decode cL_build 560 = .ok (.ishr, 1) := by decide +kernel
theorem dL_build_561 : decode cL_build 561 = .ok (.iconst 2, 1) := by decide +kernel
theorem dL_build_562 : decode cL_build 562 = .ok (.invokestatic 15, 3) := by decide +kernel
theorem dL_build_565 : decode cL_build 565 = .ok (.iastore, 1) := by decide +kernel
theorem dL_build_566 : decode cL_build 566 = .ok (.aload_n 0, 1) := by decide +kernel
theorem dL_build_567 : decode cL_build 567 = .ok (.aload 6, 2) := by decide +kernel
theorem dL_build_569 : decode cL_build 569 = .ok (.iconst 2, 1) := by decide +kernel
theorem dL_build_570 : decode cL_build 570 = .ok (.iload 8, 2) := by decide +kernel
theorem dL_build_572 : decode cL_build 572 = .ok (.imul, 1) := by decide +kernel
theorem dL_build_573 : decode cL_build 573 = .ok (.iaload, 1) := by decide +kernel
theorem dL_build_574 : decode cL_build 574 = .ok (.aload 6, 2) := by decide +kernel
theorem dL_build_576 : decode cL_build 576 = .ok (.iconst 2, 1) := by decide +kernel
theorem dL_build_577 : decode cL_build 577 = .ok (.iload 8, 2) := by decide +kernel
theorem dL_build_579 : decode cL_build 579 = .ok (.imul, 1) := by decide +kernel
theorem dL_build_580 : decode cL_build 580 = .ok (.iconst 1, 1) := by decide +kernel
theorem dL_build_581 : decode cL_build 581 = .ok (.iadd, 1) := by decide +kernel
theorem dL_build_582 : decode cL_build 582 = .ok (.iaload, 1) := by decide +kernel
theorem dL_build_583 : decode cL_build 583 = .ok (.iconst 1, 1) := by decide +kernel
theorem dL_build_584 : decode cL_build 584 = .ok (.if_icmp .ne 7, 3) := by decide +kernel
theorem dL_build_587 : decode cL_build 587 = .ok (.iconst 1, 1) := by decide +kernel
theorem dL_build_588 : decode cL_build 588 = .ok (.goto 4, 3) := by decide +kernel
theorem dL_build_591 : decode cL_build 591 = .ok (.iconst 0, 1) := by decide +kernel
theorem dL_build_592 : decode cL_build 592 = .ok (.invokevirtual 37, 3) := by decide +kernel
theorem dL_build_595 : decode cL_build 595 = .ok (.iload 8, 2) := by decide +kernel
theorem dL_build_597 : decode cL_build 597 = .ok (.if_icmp .eq 5, 3) := by decide +kernel
theorem dL_build_600 : decode cL_build 600 = .ok (.aconst_null, 1) := by decide +kernel
theorem dL_build_601 : decode cL_build 601 = .ok (.areturn, 1) := by decide +kernel
theorem dL_build_602 : decode cL_build 602 = .ok (.iinc 8 1, 3) := by decide +kernel
theorem dL_build_605 : decode cL_build 605 = .ok (.goto (-103), 3) := by decide +kernel
theorem dL_build_608 : decode cL_build 608 = .ok (.iconst 0, 1) := by decide +kernel
theorem dL_build_609 : decode cL_build 609 = .ok (.istore 8, 2) := by decide +kernel
theorem dL_build_611 : decode cL_build 611 = .ok (.iload 8, 2) := by decide +kernel
theorem dL_build_613 : decode cL_build 613 = .ok (.iconst 4, 1) := by decide +kernel
theorem dL_build_614 : decode cL_build 614 = .ok (.if_icmp .ge 25, 3) := by decide +kernel
theorem dL_build_617 : decode cL_build 617 = .ok (.aload_n 0, 1) := by decide +kernel
theorem dL_build_618 : decode cL_build 618 = .ok (.iload 8, 2) := by decide +kernel
theorem dL_build_620 : decode cL_build 620 = .ok (.invokevirtual 41, 3) := by decide +kernel
theorem dL_build_623 : decode cL_build 623 = .ok (.aload 7, 2) := by decide +kernel
theorem dL_build_625 : decode cL_build 625 = .ok (.iload 8, 2) := by decide +kernel
theorem dL_build_627 : decode cL_build 627 = .ok (.iaload, 1) := by decide +kernel
theorem dL_build_628 : decode cL_build 628 = .ok (.if_icmp .eq 5, 3) := by decide +kernel
theorem dL_build_631 : decode cL_build 631 = .ok (.aconst_null, 1) := by decide +kernel
theorem dL_build_632 : decode cL_build 632 = .ok (.areturn, 1) := by decide +kernel
theorem dL_build_633 : decode cL_build 633 = .ok (.iinc 8 1, 3) := by decide +kernel
theorem dL_build_636 : decode cL_build 636 = .ok (.goto (-25), 3) := by decide +kernel
theorem dL_build_639 : decode cL_build 639 = .ok (.aload 7, 2) := by decide +kernel
theorem dL_build_641 : decode cL_build 641 = .ok (.areturn, 1) := by decide +kernel
theorem dL_height_0 : decode cL_height 0 = .ok (.aload_n 0, 1) := by decide +kernel
theorem dL_height_1 : decode cL_height 1 = .ok (.iconst 0, 1) := by decide +kernel
theorem dL_height_2 : decode cL_height 2 = .ok (.iaload, 1) := by decide +kernel
theorem dL_height_3 : decode cL_height 3 = .ok (.ifCond .ne 5, 3) := by decide +kernel
theorem dL_height_6 : decode cL_height 6 = .ok (.iconst 0, 1) := by decide +kernel
theorem dL_height_7 : decode cL_height 7 = .ok (.ireturn, 1) := by decide +kernel
theorem dL_height_8 : decode cL_height 8 = .ok (.iload_n 2, 1) := by decide +kernel
theorem dL_height_9 : decode cL_height 9 = .ok (.aload_n 1, 1) := by decide +kernel
theorem dL_height_10 : decode cL_height 10 = .ok (.iconst 0, 1) := by decide +kernel
theorem dL_height_11 : decode cL_height 11 = .ok (.iaload, 1) := by decide +kernel
theorem dL_height_12 : decode cL_height 12 = .ok (.if_icmp .gt 7, 3) := by decide +kernel
theorem dL_height_15 : decode cL_height 15 = .ok (.aload_n 1, 1) := by decide +kernel
theorem dL_height_16 : decode cL_height 16 = .ok (.iconst 1, 1) := by decide +kernel
theorem dL_height_17 : decode cL_height 17 = .ok (.iaload, 1) := by decide +kernel
theorem dL_height_18 : decode cL_height 18 = .ok (.ireturn, 1) := by decide +kernel
theorem dL_height_19 : decode cL_height 19 = .ok (.iconst 1, 1) := by decide +kernel
theorem dL_height_20 : decode cL_height 20 = .ok (.istore_n 3, 1) := by decide +kernel
theorem dL_height_21 : decode cL_height 21 = .ok (.iload_n 3, 1) := by decide +kernel
theorem dL_height_22 : decode cL_height 22 = .ok (.aload_n 0, 1) := by decide +kernel
theorem dL_height_23 : decode cL_height 23 = .ok (.iconst 0, 1) := by decide +kernel
theorem dL_height_24 : decode cL_height 24 = .ok (.iaload, 1) := by decide +kernel
theorem dL_height_25 : decode cL_height 25 = .ok (.if_icmp .ge 73, 3) := by decide +kernel
theorem dL_height_28 : decode cL_height 28 = .ok (.iload_n 2, 1) := by decide +kernel
theorem dL_height_29 : decode cL_height 29 = .ok (.aload_n 1, 1) := by decide +kernel
theorem dL_height_30 : decode cL_height 30 = .ok (.iconst 2, 1) := by decide +kernel
theorem dL_height_31 : decode cL_height 31 = .ok (.iload_n 3, 1) := by decide +kernel
theorem dL_height_32 : decode cL_height 32 = .ok (.imul, 1) := by decide +kernel
theorem dL_height_33 : decode cL_height 33 = .ok (.iaload, 1) := by decide +kernel
theorem dL_height_34 : decode cL_height 34 = .ok (.if_icmp .le 6, 3) := by decide +kernel
theorem dL_height_37 : decode cL_height 37 = .ok (.goto 55, 3) := by decide +kernel
theorem dL_height_40 : decode cL_height 40 = .ok (.iload_n 2, 1) := by decide +kernel
theorem dL_height_41 : decode cL_height 41 = .ok (.aload_n 1, 1) := by decide +kernel
theorem dL_height_42 : decode cL_height 42 = .ok (.iconst 2, 1) := by decide +kernel
theorem dL_height_43 : decode cL_height 43 = .ok (.iload_n 3, 1) := by decide +kernel
theorem dL_height_44 : decode cL_height 44 = .ok (.imul, 1) := by decide +kernel
theorem dL_height_45 : decode cL_height 45 = .ok (.iconst 2, 1) := by decide +kernel
theorem dL_height_46 : decode cL_height 46 = .ok (.isub, 1) := by decide +kernel
theorem dL_height_47 : decode cL_height 47 = .ok (.iaload, 1) := by decide +kernel
theorem dL_height_48 : decode cL_height 48 = .ok (.isub, 1) := by decide +kernel
theorem dL_height_49 : decode cL_height 49 = .ok (.istore 4, 2) := by decide +kernel
theorem dL_height_51 : decode cL_height 51 = .ok (.aload_n 1, 1) := by decide +kernel
theorem dL_height_52 : decode cL_height 52 = .ok (.iconst 2, 1) := by decide +kernel
theorem dL_height_53 : decode cL_height 53 = .ok (.iload_n 3, 1) := by decide +kernel
theorem dL_height_54 : decode cL_height 54 = .ok (.imul, 1) := by decide +kernel
theorem dL_height_55 : decode cL_height 55 = .ok (.iconst 1, 1) := by decide +kernel
theorem dL_height_56 : decode cL_height 56 = .ok (.isub, 1) := by decide +kernel
theorem dL_height_57 : decode cL_height 57 = .ok (.iaload, 1) := by decide +kernel
theorem dL_height_58 : decode cL_height 58 = .ok (.aload_n 1, 1) := by decide +kernel
theorem dL_height_59 : decode cL_height 59 = .ok (.iconst 2, 1) := by decide +kernel
theorem dL_height_60 : decode cL_height 60 = .ok (.iload_n 3, 1) := by decide +kernel
theorem dL_height_61 : decode cL_height 61 = .ok (.imul, 1) := by decide +kernel
theorem dL_height_62 : decode cL_height 62 = .ok (.iconst 1, 1) := by decide +kernel
theorem dL_height_63 : decode cL_height 63 = .ok (.iadd, 1) := by decide +kernel
theorem dL_height_64 : decode cL_height 64 = .ok (.iaload, 1) := by decide +kernel
theorem dL_height_65 : decode cL_height 65 = .ok (.aload_n 1, 1) := by decide +kernel
theorem dL_height_66 : decode cL_height 66 = .ok (.iconst 2, 1) := by decide +kernel
theorem dL_height_67 : decode cL_height 67 = .ok (.iload_n 3, 1) := by decide +kernel
theorem dL_height_68 : decode cL_height 68 = .ok (.imul, 1) := by decide +kernel
theorem dL_height_69 : decode cL_height 69 = .ok (.iconst 1, 1) := by decide +kernel
theorem dL_height_70 : decode cL_height 70 = .ok (.isub, 1) := by decide +kernel
theorem dL_height_71 : decode cL_height 71 = .ok (.iaload, 1) := by decide +kernel
theorem dL_height_72 : decode cL_height 72 = .ok (.isub, 1) := by decide +kernel
theorem dL_height_73 : decode cL_height 73 = .ok (.iload 4, 2) := by decide +kernel
theorem dL_height_75 : decode cL_height 75 = .ok (.imul, 1) := by decide +kernel
theorem dL_height_76 : decode cL_height 76 = .ok (.aload_n 1, 1) := by decide +kernel
theorem dL_height_77 : decode cL_height 77 = .ok (.iconst 2, 1) := by decide +kernel
theorem dL_height_78 : decode cL_height 78 = .ok (.iload_n 3, 1) := by decide +kernel
theorem dL_height_79 : decode cL_height 79 = .ok (.imul, 1) := by decide +kernel
theorem dL_height_80 : decode cL_height 80 = .ok (.iaload, 1) := by decide +kernel
theorem dL_height_81 : decode cL_height 81 = .ok (.aload_n 1, 1) := by decide +kernel
theorem dL_height_82 : decode cL_height 82 = .ok (.iconst 2, 1) := by decide +kernel
theorem dL_height_83 : decode cL_height 83 = .ok (.iload_n 3, 1) := by decide +kernel
theorem dL_height_84 : decode cL_height 84 = .ok (.imul, 1) := by decide +kernel
theorem dL_height_85 : decode cL_height 85 = .ok (.iconst 2, 1) := by decide +kernel
theorem dL_height_86 : decode cL_height 86 = .ok (.isub, 1) := by decide +kernel
theorem dL_height_87 : decode cL_height 87 = .ok (.iaload, 1) := by decide +kernel
theorem dL_height_88 : decode cL_height 88 = .ok (.isub, 1) := by decide +kernel
theorem dL_height_89 : decode cL_height 89 = .ok (.idiv, 1) := by decide +kernel
theorem dL_height_90 : decode cL_height 90 = .ok (.iadd, 1) := by decide +kernel
theorem dL_height_91 : decode cL_height 91 = .ok (.ireturn, 1) := by decide +kernel
theorem dL_height_92 : decode cL_height 92 = .ok (.iinc 3 1, 3) := by decide +kernel
theorem dL_height_95 : decode cL_height 95 = .ok (.goto (-74), 3) := by decide +kernel
theorem dL_height_98 : decode cL_height 98 = .ok (.aload_n 1, 1) := by decide +kernel
theorem dL_height_99 : decode cL_height 99 = .ok (.iconst 2, 1) := by decide +kernel
theorem dL_height_100 : decode cL_height 100 = .ok (.aload_n 0, 1) := by decide +kernel
theorem dL_height_101 : decode cL_height 101 = .ok (.iconst 0, 1) := by decide +kernel
theorem dL_height_102 : decode cL_height 102 = .ok (.iaload, 1) := by decide +kernel
theorem dL_height_103 : decode cL_height 103 = .ok (.imul, 1) := by decide +kernel
theorem dL_height_104 : decode cL_height 104 = .ok (.iconst 1, 1) := by decide +kernel
theorem dL_height_105 : decode cL_height 105 = .ok (.isub, 1) := by decide +kernel
theorem dL_height_106 : decode cL_height 106 = .ok (.iaload, 1) := by decide +kernel
theorem dL_height_107 : decode cL_height 107 = .ok (.ireturn, 1) := by decide +kernel
theorem dL_need_0 : decode cL_need 0 = .ok (.iload_n 1, 1) := by decide +kernel
theorem dL_need_1 : decode cL_need 1 = .ok (.iload_n 1, 1) := by decide +kernel
theorem dL_need_2 : decode cL_need 2 = .ok (.bipush 10, 2) := by decide +kernel
theorem dL_need_4 : decode cL_need 4 = .ok (.idiv, 1) := by decide +kernel
theorem dL_need_5 : decode cL_need 5 = .ok (.iadd, 1) := by decide +kernel
theorem dL_need_6 : decode cL_need 6 = .ok (.aload_n 0, 1) := by decide +kernel
theorem dL_need_7 : decode cL_need 7 = .ok (.bipush 6, 2) := by decide +kernel
theorem dL_need_9 : decode cL_need 9 = .ok (.iaload, 1) := by decide +kernel
theorem dL_need_10 : decode cL_need 10 = .ok (.iadd, 1) := by decide +kernel
theorem dL_need_11 : decode cL_need 11 = .ok (.ireturn, 1) := by decide +kernel
theorem dL_tugs_0 : decode cL_tugs 0 = .ok (.iload_n 0, 1) := by decide +kernel
theorem dL_tugs_1 : decode cL_tugs 1 = .ok (.sipush 220, 3) := by decide +kernel
theorem dL_tugs_4 : decode cL_tugs 4 = .ok (.if_icmp .lt 7, 3) := by decide +kernel
theorem dL_tugs_7 : decode cL_tugs 7 = .ok (.iconst 3, 1) := by decide +kernel
theorem dL_tugs_8 : decode cL_tugs 8 = .ok (.goto 25, 3) := by decide +kernel
theorem dL_tugs_11 : decode cL_tugs 11 = .ok (.iload_n 0, 1) := by decide +kernel
theorem dL_tugs_12 : decode cL_tugs 12 = .ok (.sipush 160, 3) := by decide +kernel
theorem dL_tugs_15 : decode cL_tugs 15 = .ok (.if_icmp .lt 7, 3) := by decide +kernel
theorem dL_tugs_18 : decode cL_tugs 18 = .ok (.iconst 2, 1) := by decide +kernel
theorem dL_tugs_19 : decode cL_tugs 19 = .ok (.goto 14, 3) := by decide +kernel
theorem dL_tugs_22 : decode cL_tugs 22 = .ok (.iload_n 0, 1) := by decide +kernel
theorem dL_tugs_23 : decode cL_tugs 23 = .ok (.bipush 100, 2) := by decide +kernel
theorem dL_tugs_25 : decode cL_tugs 25 = .ok (.if_icmp .lt 7, 3) := by decide +kernel
theorem dL_tugs_28 : decode cL_tugs 28 = .ok (.iconst 1, 1) := by decide +kernel
theorem dL_tugs_29 : decode cL_tugs 29 = .ok (.goto 4, 3) := by decide +kernel
theorem dL_tugs_32 : decode cL_tugs 32 = .ok (.iconst 0, 1) := by decide +kernel
theorem dL_tugs_33 : decode cL_tugs 33 = .ok (.ireturn, 1) := by decide +kernel
theorem dL_tugsAt_0 : decode cL_tugsAt 0 = .ok (.iconst 0, 1) := by decide +kernel
theorem dL_tugsAt_1 : decode cL_tugsAt 1 = .ok (.istore_n 3, 1) := by decide +kernel
theorem dL_tugsAt_2 : decode cL_tugsAt 2 = .ok (.iconst 0, 1) := by decide +kernel
theorem dL_tugsAt_3 : decode cL_tugsAt 3 = .ok (.istore 4, 2) := by decide +kernel
theorem dL_tugsAt_5 : decode cL_tugsAt 5 = .ok (.iload 4, 2) := by decide +kernel
theorem dL_tugsAt_7 : decode cL_tugsAt 7 = .ok (.iload_n 0, 1) := by decide +kernel
theorem dL_tugsAt_8 : decode cL_tugsAt 8 = .ok (.if_icmp .ge 67, 3) := by decide +kernel
theorem dL_tugsAt_11 : decode cL_tugsAt 11 = .ok (.iload_n 2, 1) := by decide +kernel
theorem dL_tugsAt_12 : decode cL_tugsAt 12 = .ok (.aload_n 1, 1) := by decide +kernel
theorem dL_tugsAt_13 : decode cL_tugsAt 13 = .ok (.iload 4, 2) := by decide +kernel
theorem dL_tugsAt_15 : decode cL_tugsAt 15 = .ok (.aaload, 1) := by decide +kernel
theorem dL_tugsAt_16 : decode cL_tugsAt 16 = .ok (.iconst 1, 1) := by decide +kernel
theorem dL_tugsAt_17 : decode cL_tugsAt 17 = .ok (.iaload, 1) := by decide +kernel
theorem dL_tugsAt_18 : decode cL_tugsAt 18 = .ok (.isub, 1) := by decide +kernel
theorem dL_tugsAt_19 : decode cL_tugsAt 19 = .ok (.istore 5, 2) := by decide +kernel
theorem dL_tugsAt_21 : decode cL_tugsAt 21 = .ok (.aload_n 1, 1) := by decide +kernel
theorem dL_tugsAt_22 : decode cL_tugsAt 22 = .ok (.iload 4, 2) := by decide +kernel
theorem dL_tugsAt_24 : decode cL_tugsAt 24 = .ok (.aaload, 1) := by decide +kernel
theorem dL_tugsAt_25 : decode cL_tugsAt 25 = .ok (.iconst 5, 1) := by decide +kernel
theorem dL_tugsAt_26 : decode cL_tugsAt 26 = .ok (.iaload, 1) := by decide +kernel
theorem dL_tugsAt_27 : decode cL_tugsAt 27 = .ok (.iconst 1, 1) := by decide +kernel
theorem dL_tugsAt_28 : decode cL_tugsAt 28 = .ok (.if_icmp .ne 18, 3) := by decide +kernel
theorem dL_tugsAt_31 : decode cL_tugsAt 31 = .ok (.iload 5, 2) := by decide +kernel
theorem dL_tugsAt_33 : decode cL_tugsAt 33 = .ok (.ifCond .lt 36, 3) := by decide +kernel
theorem dL_tugsAt_36 : decode cL_tugsAt 36 = .ok (.iload 5, 2) := by decide +kernel
theorem dL_tugsAt_38 : decode cL_tugsAt 38 = .ok (.bipush 40, 2) := by decide +kernel
theorem dL_tugsAt_40 : decode cL_tugsAt 40 = .ok (.if_icmp .ge 29, 3) := by decide +kernel
theorem dL_tugsAt_43 : decode cL_tugsAt 43 = .ok (.goto 17, 3) := by decide +kernel
theorem dL_tugsAt_46 : decode cL_tugsAt 46 = .ok (.iload 5, 2) := by decide +kernel
theorem dL_tugsAt_48 : decode cL_tugsAt 48 = .ok (.bipush 20, 2) := by decide +kernel
theorem dL_tugsAt_50 : decode cL_tugsAt 50 = .ok (.if_icmp .lt 19, 3) := by decide +kernel
theorem dL_tugsAt_53 : decode cL_tugsAt 53 = .ok (.iload 5, 2) := by decide +kernel
theorem dL_tugsAt_55 : decode cL_tugsAt 55 = .ok (.bipush 60, 2) := by decide +kernel
theorem dL_tugsAt_57 : decode cL_tugsAt 57 = .ok (.if_icmp .ge 12, 3) := by decide +kernel
theorem dL_tugsAt_60 : decode cL_tugsAt 60 = .ok (.iload_n 3, 1) := by decide +kernel
theorem dL_tugsAt_61 : decode cL_tugsAt 61 = .ok (.aload_n 1, 1) := by decide +kernel
theorem dL_tugsAt_62 : decode cL_tugsAt 62 = .ok (.iload 4, 2) := by decide +kernel
theorem dL_tugsAt_64 : decode cL_tugsAt 64 = .ok (.aaload, 1) := by decide +kernel
theorem dL_tugsAt_65 : decode cL_tugsAt 65 = .ok (.iconst 3, 1) := by decide +kernel
theorem dL_tugsAt_66 : decode cL_tugsAt 66 = .ok (.iaload, 1) := by decide +kernel
theorem dL_tugsAt_67 : decode cL_tugsAt 67 = .ok (.iadd, 1) := by decide +kernel
theorem dL_tugsAt_68 : decode cL_tugsAt 68 = .ok (.istore_n 3, 1) := by decide +kernel
theorem dL_tugsAt_69 : decode cL_tugsAt 69 = .ok (.iinc 4 1, 3) := by decide +kernel
theorem dL_tugsAt_72 : decode cL_tugsAt 72 = .ok (.goto (-67), 3) := by decide +kernel
theorem dL_tugsAt_75 : decode cL_tugsAt 75 = .ok (.iload_n 3, 1) := by decide +kernel
theorem dL_tugsAt_76 : decode cL_tugsAt 76 = .ok (.ireturn, 1) := by decide +kernel
theorem dL_leaves_0 : decode cL_leaves 0 = .ok (.iload_n 2, 1) := by decide +kernel
theorem dL_leaves_1 : decode cL_leaves 1 = .ok (.iconst 1, 1) := by decide +kernel
theorem dL_leaves_2 : decode cL_leaves 2 = .ok (.iadd, 1) := by decide +kernel
theorem dL_leaves_3 : decode cL_leaves 3 = .ok (.istore_n 3, 1) := by decide +kernel
theorem dL_leaves_4 : decode cL_leaves 4 = .ok (.iload_n 3, 1) := by decide +kernel
theorem dL_leaves_5 : decode cL_leaves 5 = .ok (.iload_n 0, 1) := by decide +kernel
theorem dL_leaves_6 : decode cL_leaves 6 = .ok (.if_icmp .ge 40, 3) := by decide +kernel
theorem dL_leaves_9 : decode cL_leaves 9 = .ok (.aload_n 1, 1) := by decide +kernel
theorem dL_leaves_10 : decode cL_leaves 10 = .ok (.iload_n 3, 1) := by decide +kernel
theorem dL_leaves_11 : decode cL_leaves 11 = .ok (.aaload, 1) := by decide +kernel
theorem dL_leaves_12 : decode cL_leaves 12 = .ok (.iconst 0, 1) := by decide +kernel
theorem dL_leaves_13 : decode cL_leaves 13 = .ok (.iaload, 1) := by decide +kernel
theorem dL_leaves_14 : decode cL_leaves 14 = .ok (.aload_n 1, 1) := by decide +kernel
theorem dL_leaves_15 : decode cL_leaves 15 = .ok (.iload_n 2, 1) := by decide +kernel
theorem dL_leaves_16 : decode cL_leaves 16 = .ok (.aaload, 1) := by decide +kernel
theorem dL_leaves_17 : decode cL_leaves 17 = .ok (.iconst 0, 1) := by decide +kernel
theorem dL_leaves_18 : decode cL_leaves 18 = .ok (.iaload, 1) := by decide +kernel
theorem dL_leaves_19 : decode cL_leaves 19 = .ok (.if_icmp .ne 21, 3) := by decide +kernel
theorem dL_leaves_22 : decode cL_leaves 22 = .ok (.aload_n 1, 1) := by decide +kernel
theorem dL_leaves_23 : decode cL_leaves 23 = .ok (.iload_n 3, 1) := by decide +kernel
theorem dL_leaves_24 : decode cL_leaves 24 = .ok (.aaload, 1) := by decide +kernel
theorem dL_leaves_25 : decode cL_leaves 25 = .ok (.iconst 5, 1) := by decide +kernel
theorem dL_leaves_26 : decode cL_leaves 26 = .ok (.iaload, 1) := by decide +kernel
theorem dL_leaves_27 : decode cL_leaves 27 = .ok (.iconst 1, 1) := by decide +kernel
theorem dL_leaves_28 : decode cL_leaves 28 = .ok (.if_icmp .ne 12, 3) := by decide +kernel
theorem dL_leaves_31 : decode cL_leaves 31 = .ok (.aload_n 1, 1) := by decide +kernel
theorem dL_leaves_32 : decode cL_leaves 32 = .ok (.iload_n 3, 1) := by decide +kernel
theorem dL_leaves_33 : decode cL_leaves 33 = .ok (.aaload, 1) := by decide +kernel
theorem dL_leaves_34 : decode cL_leaves 34 = .ok (.iconst 1, 1) := by decide +kernel
theorem dL_leaves_35 : decode cL_leaves 35 = .ok (.iaload, 1) := by decide +kernel
theorem dL_leaves_36 : decode cL_leaves 36 = .ok (.bipush 60, 2) := by decide +kernel
theorem dL_leaves_38 : decode cL_leaves 38 = .ok (.iadd, 1) := by decide +kernel
theorem dL_leaves_39 : decode cL_leaves 39 = .ok (.ireturn, 1) := by decide +kernel
theorem dL_leaves_40 : decode cL_leaves 40 = .ok (.iinc 3 1, 3) := by decide +kernel
theorem dL_leaves_43 : decode cL_leaves 43 = .ok (.goto (-39), 3) := by decide +kernel
theorem dL_leaves_46 : decode cL_leaves 46 = .ok (.ldc 44, 2) := by decide +kernel
theorem dL_leaves_48 : decode cL_leaves 48 = .ok (.ireturn, 1) := by decide +kernel
theorem dL_pilot_0 : decode cL_pilot 0 = .ok (.iconst (-1), 1) := by decide +kernel
theorem dL_pilot_1 : decode cL_pilot 1 = .ok (.istore 7, 2) := by decide +kernel
theorem dL_pilot_3 : decode cL_pilot 3 = .ok (.iconst 0, 1) := by decide +kernel
theorem dL_pilot_4 : decode cL_pilot 4 = .ok (.istore 8, 2) := by decide +kernel
theorem dL_pilot_6 : decode cL_pilot 6 = .ok (.iconst 0, 1) := by decide +kernel
theorem dL_pilot_7 : decode cL_pilot 7 = .ok (.istore 9, 2) := by decide +kernel
theorem dL_pilot_9 : decode cL_pilot 9 = .ok (.iload 9, 2) := by decide +kernel
theorem dL_pilot_11 : decode cL_pilot 11 = .ok (.aload 5, 2) := by decide +kernel
theorem dL_pilot_13 : decode cL_pilot 13 = .ok (.iconst 3, 1) := by decide +kernel
theorem dL_pilot_14 : decode cL_pilot 14 = .ok (.iaload, 1) := by decide +kernel
theorem dL_pilot_15 : decode cL_pilot 15 = .ok (.if_icmp .ge 230, 3) := by decide +kernel
theorem dL_pilot_18 : decode cL_pilot 18 = .ok (.iconst (-1), 1) := by decide +kernel
theorem dL_pilot_19 : decode cL_pilot 19 = .ok (.istore 10, 2) := by decide +kernel
theorem dL_pilot_21 : decode cL_pilot 21 = .ok (.aload 6, 2) := by decide +kernel
theorem dL_pilot_23 : decode cL_pilot 23 = .ok (.iconst 2, 1) := by decide +kernel
theorem dL_pilot_24 : decode cL_pilot 24 = .ok (.iload 9, 2) := by decide +kernel
theorem dL_pilot_26 : decode cL_pilot 26 = .ok (.imul, 1) := by decide +kernel
theorem dL_pilot_27 : decode cL_pilot 27 = .ok (.iconst 1, 1) := by decide +kernel
theorem dL_pilot_28 : decode cL_pilot 28 = .ok (.iadd, 1) := by decide +kernel
theorem dL_pilot_29 : decode cL_pilot 29 = .ok (.iaload, 1) := by decide +kernel
theorem dL_pilot_30 : decode cL_pilot 30 = .ok (.istore 11, 2) := by decide +kernel
theorem dL_pilot_32 : decode cL_pilot 32 = .ok (.iconst 0, 1) := by decide +kernel
theorem dL_pilot_33 : decode cL_pilot 33 = .ok (.istore 12, 2) := by decide +kernel
theorem dL_pilot_35 : decode cL_pilot 35 = .ok (.iconst 0, 1) := by decide +kernel
theorem dL_pilot_36 : decode cL_pilot 36 = .ok (.istore 13, 2) := by decide +kernel
theorem dL_pilot_38 : decode cL_pilot 38 = .ok (.iload 13, 2) := by decide +kernel
theorem dL_pilot_40 : decode cL_pilot 40 = .ok (.iload_n 3, 1) := by decide +kernel
theorem dL_pilot_41 : decode cL_pilot 41 = .ok (.if_icmp .ge 88, 3) := by decide +kernel
theorem dL_pilot_44 : decode cL_pilot 44 = .ok (.aload 4, 2) := by decide +kernel
theorem dL_pilot_46 : decode cL_pilot 46 = .ok (.iload 13, 2) := by decide +kernel
theorem dL_pilot_48 : decode cL_pilot 48 = .ok (.aaload, 1) := by decide +kernel
theorem dL_pilot_49 : decode cL_pilot 49 = .ok (.iconst 2, 1) := by decide +kernel
theorem dL_pilot_50 : decode cL_pilot 50 = .ok (.iaload, 1) := by decide +kernel
theorem dL_pilot_51 : decode cL_pilot 51 = .ok (.iload 9, 2) := by decide +kernel
theorem dL_pilot_53 : decode cL_pilot 53 = .ok (.if_icmp .eq 6, 3) := by decide +kernel
theorem dL_pilot_56 : decode cL_pilot 56 = .ok (.goto 67, 3) := by decide +kernel
theorem dL_pilot_59 : decode cL_pilot 59 = .ok (.iload 12, 2) := by decide +kernel
theorem dL_pilot_61 : decode cL_pilot 61 = .ok (.ifCond .ne 14, 3) := by decide +kernel
theorem dL_pilot_64 : decode cL_pilot 64 = .ok (.aload 4, 2) := by decide +kernel
theorem dL_pilot_66 : decode cL_pilot 66 = .ok (.iload 13, 2) := by decide +kernel
theorem dL_pilot_68 : decode cL_pilot 68 = .ok (.aaload, 1) := by decide +kernel
theorem dL_pilot_69 : decode cL_pilot 69 = .ok (.iconst 1, 1) := by decide +kernel
theorem dL_pilot_70 : decode cL_pilot 70 = .ok (.iaload, 1) := by decide +kernel
theorem dL_pilot_71 : decode cL_pilot 71 = .ok (.iload_n 2, 1) := by decide +kernel
theorem dL_pilot_72 : decode cL_pilot 72 = .ok (.if_icmp .lt 7, 3) := by decide +kernel
theorem dL_pilot_75 : decode cL_pilot 75 = .ok (.iconst 1, 1) := by decide +kernel
theorem dL_pilot_76 : decode cL_pilot 76 = .ok (.goto 4, 3) := by decide +kernel
theorem dL_pilot_79 : decode cL_pilot 79 = .ok (.iconst 0, 1) := by decide +kernel
theorem dL_pilot_80 : decode cL_pilot 80 = .ok (.istore 12, 2) := by decide +kernel
theorem dL_pilot_82 : decode cL_pilot 82 = .ok (.aload 4, 2) := by decide +kernel
theorem dL_pilot_84 : decode cL_pilot 84 = .ok (.iload 13, 2) := by decide +kernel
theorem dL_pilot_86 : decode cL_pilot 86 = .ok (.aaload, 1) := by decide +kernel
theorem dL_pilot_87 : decode cL_pilot 87 = .ok (.iconst 1, 1) := by decide +kernel
theorem dL_pilot_88 : decode cL_pilot 88 = .ok (.iaload, 1) := by decide +kernel
theorem dL_pilot_89 : decode cL_pilot 89 = .ok (.bipush 60, 2) := by decide +kernel
theorem dL_pilot_91 : decode cL_pilot 91 = .ok (.iadd, 1) := by decide +kernel
theorem dL_pilot_92 : decode cL_pilot 92 = .ok (.iload 10, 2) := by decide +kernel
theorem dL_pilot_94 : decode cL_pilot 94 = .ok (.if_icmp .gt 6, 3) := by decide +kernel
theorem dL_pilot_97 : decode cL_pilot 97 = .ok (.goto 26, 3) := by decide +kernel
theorem dL_pilot_100 : decode cL_pilot 100 = .ok (.aload 4, 2) := by decide +kernel
theorem dL_pilot_102 : decode cL_pilot 102 = .ok (.iload 13, 2) := by decide +kernel
theorem dL_pilot_104 : decode cL_pilot 104 = .ok (.aaload, 1) := by decide +kernel
theorem dL_pilot_105 : decode cL_pilot 105 = .ok (.iconst 1, 1) := by decide +kernel
theorem dL_pilot_106 : decode cL_pilot 106 = .ok (.iaload, 1) := by decide +kernel
theorem dL_pilot_107 : decode cL_pilot 107 = .ok (.bipush 60, 2) := by decide +kernel
theorem dL_pilot_109 : decode cL_pilot 109 = .ok (.iadd, 1) := by decide +kernel
theorem dL_pilot_110 : decode cL_pilot 110 = .ok (.istore 10, 2) := by decide +kernel
theorem dL_pilot_112 : decode cL_pilot 112 = .ok (.iconst 1, 1) := by decide +kernel
theorem dL_pilot_113 : decode cL_pilot 113 = .ok (.aload 4, 2) := by decide +kernel
theorem dL_pilot_115 : decode cL_pilot 115 = .ok (.iload 13, 2) := by decide +kernel
theorem dL_pilot_117 : decode cL_pilot 117 = .ok (.aaload, 1) := by decide +kernel
theorem dL_pilot_118 : decode cL_pilot 118 = .ok (.iconst 5, 1) := by decide +kernel
theorem dL_pilot_119 : decode cL_pilot 119 = .ok (.iaload, 1) := by decide +kernel
theorem dL_pilot_120 : decode cL_pilot 120 = .ok (.isub, 1) := by decide +kernel
theorem dL_pilot_121 : decode cL_pilot 121 = .ok (.istore 11, 2) := by decide +kernel
theorem dL_pilot_123 : decode cL_pilot 123 = .ok (.iinc 13 1, 3) := by decide +kernel
theorem dL_pilot_126 : decode cL_pilot 126 = .ok (.goto (-88), 3) := by decide +kernel
theorem dL_pilot_129 : decode cL_pilot 129 = .ok (.iload 11, 2) := by decide +kernel
theorem dL_pilot_131 : decode cL_pilot 131 = .ok (.iload_n 1, 1) := by decide +kernel
theorem dL_pilot_132 : decode cL_pilot 132 = .ok (.ifCond .eq 7, 3) := by decide +kernel
theorem dL_pilot_135 : decode cL_pilot 135 = .ok (.iconst 1, 1) := by decide +kernel
theorem dL_pilot_136 : decode cL_pilot 136 = .ok (.goto 4, 3) := by decide +kernel
theorem dL_pilot_139 : decode cL_pilot 139 = .ok (.iconst 0, 1) := by decide +kernel
theorem dL_pilot_140 : decode cL_pilot 140 = .ok (.if_icmp .ne 7, 3) := by decide +kernel
theorem dL_pilot_143 : decode cL_pilot 143 = .ok (.iconst 1, 1) := by decide +kernel
theorem dL_pilot_144 : decode cL_pilot 144 = .ok (.goto 4, 3) := by decide +kernel
theorem dL_pilot_147 : decode cL_pilot 147 = .ok (.iconst 0, 1) := by decide +kernel
theorem dL_pilot_148 : decode cL_pilot 148 = .ok (.istore 13, 2) := by decide +kernel
theorem dL_pilot_150 : decode cL_pilot 150 = .ok (.aload 6, 2) := by decide +kernel
theorem dL_pilot_152 : decode cL_pilot 152 = .ok (.iconst 2, 1) := by decide +kernel
theorem dL_pilot_153 : decode cL_pilot 153 = .ok (.iload 9, 2) := by decide +kernel
theorem dL_pilot_155 : decode cL_pilot 155 = .ok (.imul, 1) := by decide +kernel
theorem dL_pilot_156 : decode cL_pilot 156 = .ok (.iaload, 1) := by decide +kernel
theorem dL_pilot_157 : decode cL_pilot 157 = .ok (.iload_n 0, 1) := by decide +kernel
theorem dL_pilot_158 : decode cL_pilot 158 = .ok (.if_icmp .lt 50, 3) := by decide +kernel
theorem dL_pilot_161 : decode cL_pilot 161 = .ok (.iload 12, 2) := by decide +kernel
theorem dL_pilot_163 : decode cL_pilot 163 = .ok (.ifCond .ne 45, 3) := by decide +kernel
theorem dL_pilot_166 : decode cL_pilot 166 = .ok (.iload 10, 2) := by decide +kernel
theorem dL_pilot_168 : decode cL_pilot 168 = .ok (.ifCond .ge 17, 3) := by decide +kernel
theorem dL_pilot_171 : decode cL_pilot 171 = .ok (.iload 13, 2) := by decide +kernel
theorem dL_pilot_173 : decode cL_pilot 173 = .ok (.ifCond .ne 31, 3) := by decide +kernel
theorem dL_pilot_176 : decode cL_pilot 176 = .ok (.iload_n 2, 1) := by decide +kernel
theorem dL_pilot_177 : decode cL_pilot 177 = .ok (.bipush 60, 2) := by decide +kernel
theorem dL_pilot_179 : decode cL_pilot 179 = .ok (.if_icmp .lt 29, 3) := by decide +kernel
theorem dL_pilot_182 : decode cL_pilot 182 = .ok (.goto 22, 3) := by decide +kernel
theorem dL_pilot_185 : decode cL_pilot 185 = .ok (.iload_n 2, 1) := by decide +kernel
theorem dL_pilot_186 : decode cL_pilot 186 = .ok (.iload 10, 2) := by decide +kernel
theorem dL_pilot_188 : decode cL_pilot 188 = .ok (.isub, 1) := by decide +kernel
theorem dL_pilot_189 : decode cL_pilot 189 = .ok (.iload 13, 2) := by decide +kernel
theorem dL_pilot_191 : decode cL_pilot 191 = .ok (.ifCond .eq 8, 3) := by decide +kernel
theorem dL_pilot_194 : decode cL_pilot 194 = .ok (.bipush 30, 2) := by decide +kernel
theorem dL_pilot_196 : decode cL_pilot 196 = .ok (.goto 5, 3) := by decide +kernel
theorem dL_pilot_199 : decode cL_pilot 199 = .ok (.bipush 90, 2) := by decide +kernel
theorem dL_pilot_201 : decode cL_pilot 201 = .ok (.if_icmp .lt 7, 3) := by decide +kernel
theorem dL_pilot_204 : decode cL_pilot 204 = .ok (.iconst 1, 1) := by decide +kernel
theorem dL_pilot_205 : decode cL_pilot 205 = .ok (.goto 4, 3) := by decide +kernel
theorem dL_pilot_208 : decode cL_pilot 208 = .ok (.iconst 0, 1) := by decide +kernel
theorem dL_pilot_209 : decode cL_pilot 209 = .ok (.istore 14, 2) := by decide +kernel
theorem dL_pilot_211 : decode cL_pilot 211 = .ok (.iload 14, 2) := by decide +kernel
theorem dL_pilot_213 : decode cL_pilot 213 = .ok (.ifCond .eq 26, 3) := by decide +kernel
theorem dL_pilot_216 : decode cL_pilot 216 = .ok (.iload 7, 2) := by decide +kernel
theorem dL_pilot_218 : decode cL_pilot 218 = .ok (.ifCond .lt 13, 3) := by decide +kernel
theorem dL_pilot_221 : decode cL_pilot 221 = .ok (.iload 10, 2) := by decide +kernel
theorem dL_pilot_223 : decode cL_pilot 223 = .ok (.iload 8, 2) := by decide +kernel
theorem dL_pilot_225 : decode cL_pilot 225 = .ok (.if_icmp .lt 6, 3) := by decide +kernel
theorem dL_pilot_228 : decode cL_pilot 228 = .ok (.goto 11, 3) := by decide +kernel
theorem dL_pilot_231 : decode cL_pilot 231 = .ok (.iload 9, 2) := by decide +kernel
theorem dL_pilot_233 : decode cL_pilot 233 = .ok (.istore 7, 2) := by decide +kernel
theorem dL_pilot_235 : decode cL_pilot 235 = .ok (.iload 10, 2) := by decide +kernel
theorem dL_pilot_237 : decode cL_pilot 237 = .ok (.istore 8, 2) := by decide +kernel
theorem dL_pilot_239 : decode cL_pilot 239 = .ok (.iinc 9 1, 3) := by decide +kernel
theorem dL_pilot_242 : decode cL_pilot 242 = .ok (.goto (-233), 3) := by decide +kernel
theorem dL_pilot_245 : decode cL_pilot 245 = .ok (.iload 7, 2) := by decide +kernel
theorem dL_pilot_247 : decode cL_pilot 247 = .ok (.ireturn, 1) := by decide +kernel
set_option maxRecDepth 20000 in
theorem ggL_canBegin_L_need : GoodIn wsL_canBegin wsL_need := goodIn_r _ [8] (by decide +kernel) (by decide +kernel)
set_option maxRecDepth 20000 in
theorem gL_canBegin_L_need : GoodIn wsL_canBegin (va_wsS RL 45 yL_need wsL_need) := goodIn_app (goodIn_of _ (by decide +kernel)) ggL_canBegin_L_need
set_option maxRecDepth 20000 in
theorem ggL_canBegin_L_height : GoodIn wsL_canBegin wsL_height := goodIn_r _ [11] (by decide +kernel) (by decide +kernel)
set_option maxRecDepth 20000 in
theorem gL_canBegin_L_height : GoodIn wsL_canBegin (va_wsS RL 48 yL_height wsL_height) := goodIn_app (goodIn_of _ (by decide +kernel)) ggL_canBegin_L_height
set_option maxRecDepth 20000 in
theorem ggL_canBegin_L_leaves : GoodIn wsL_canBegin wsL_leaves := goodIn_r _ [14, 15] (by decide +kernel) (by decide +kernel)
set_option maxRecDepth 20000 in
theorem gL_canBegin_L_leaves : GoodIn wsL_canBegin (va_wsS RL 52 yL_leaves wsL_leaves) := goodIn_app (goodIn_of _ (by decide +kernel)) ggL_canBegin_L_leaves
set_option maxRecDepth 20000 in
theorem ggL_canBegin_L_tugs : GoodIn wsL_canBegin wsL_tugs := goodIn_r _ [18] (by decide +kernel) (by decide +kernel)
set_option maxRecDepth 20000 in
theorem gL_canBegin_L_tugs : GoodIn wsL_canBegin (va_wsS RL 61 yL_tugs wsL_tugs) := goodIn_app (goodIn_of _ (by decide +kernel)) ggL_canBegin_L_tugs
set_option maxRecDepth 20000 in
theorem ggL_canBegin_L_tugsAt : GoodIn wsL_canBegin wsL_tugsAt := goodIn_r _ [21] (by decide +kernel) (by decide +kernel)
set_option maxRecDepth 20000 in
theorem gL_canBegin_L_tugsAt : GoodIn wsL_canBegin (va_wsS RL 64 yL_tugsAt wsL_tugsAt) := goodIn_app (goodIn_of _ (by decide +kernel)) ggL_canBegin_L_tugsAt
set_option maxRecDepth 20000 in
theorem ggL_canBegin_L_pilot : GoodIn wsL_canBegin wsL_pilot := goodIn_r _ [24] (by decide +kernel) (by decide +kernel)
set_option maxRecDepth 20000 in
theorem gL_canBegin_L_pilot : GoodIn wsL_canBegin (va_wsS RL 67 yL_pilot wsL_pilot) := goodIn_app (goodIn_of _ (by decide +kernel)) ggL_canBegin_L_pilot
theorem dL_canBegin_0 : decode cL_canBegin 0 = .ok (.iload_n 1, 1) := by decide +kernel
theorem dL_canBegin_1 : decode cL_canBegin 1 = .ok (.ifCond .ge 7, 3) := by decide +kernel
theorem dL_canBegin_4 : decode cL_canBegin 4 = .ok (.iconst 1, 1) := by decide +kernel
theorem dL_canBegin_5 : decode cL_canBegin 5 = .ok (.goto 4, 3) := by decide +kernel
theorem dL_canBegin_8 : decode cL_canBegin 8 = .ok (.iconst 0, 1) := by decide +kernel
theorem dL_canBegin_9 : decode cL_canBegin 9 = .ok (.istore 10, 2) := by decide +kernel
theorem dL_canBegin_11 : decode cL_canBegin 11 = .ok (.iconst (-1), 1) := by decide +kernel
theorem dL_canBegin_12 : decode cL_canBegin 12 = .ok (.istore 11, 2) := by decide +kernel
theorem dL_canBegin_14 : decode cL_canBegin 14 = .ok (.iconst 0, 1) := by decide +kernel
theorem dL_canBegin_15 : decode cL_canBegin 15 = .ok (.istore 12, 2) := by decide +kernel
theorem dL_canBegin_17 : decode cL_canBegin 17 = .ok (.iload 12, 2) := by decide +kernel
theorem dL_canBegin_19 : decode cL_canBegin 19 = .ok (.iload_n 3, 1) := by decide +kernel
theorem dL_canBegin_20 : decode cL_canBegin 20 = .ok (.if_icmp .ge 24, 3) := by decide +kernel
theorem dL_canBegin_23 : decode cL_canBegin 23 = .ok (.aload 4, 2) := by decide +kernel
theorem dL_canBegin_25 : decode cL_canBegin 25 = .ok (.iload 12, 2) := by decide +kernel
theorem dL_canBegin_27 : decode cL_canBegin 27 = .ok (.aaload, 1) := by decide +kernel
theorem dL_canBegin_28 : decode cL_canBegin 28 = .ok (.iconst 0, 1) := by decide +kernel
theorem dL_canBegin_29 : decode cL_canBegin 29 = .ok (.iaload, 1) := by decide +kernel
theorem dL_canBegin_30 : decode cL_canBegin 30 = .ok (.iload_n 0, 1) := by decide +kernel
theorem dL_canBegin_31 : decode cL_canBegin 31 = .ok (.if_icmp .ne 7, 3) := by decide +kernel
theorem dL_canBegin_34 : decode cL_canBegin 34 = .ok (.iload 12, 2) := by decide +kernel
theorem dL_canBegin_36 : decode cL_canBegin 36 = .ok (.istore 11, 2) := by decide +kernel
theorem dL_canBegin_38 : decode cL_canBegin 38 = .ok (.iinc 12 1, 3) := by decide +kernel
theorem dL_canBegin_41 : decode cL_canBegin 41 = .ok (.goto (-24), 3) := by decide +kernel
theorem dL_canBegin_44 : decode cL_canBegin 44 = .ok (.iload 11, 2) := by decide +kernel
theorem dL_canBegin_46 : decode cL_canBegin 46 = .ok (.ifCond .lt 17, 3) := by decide +kernel
theorem dL_canBegin_49 : decode cL_canBegin 49 = .ok (.aload 4, 2) := by decide +kernel
theorem dL_canBegin_51 : decode cL_canBegin 51 = .ok (.iload 11, 2) := by decide +kernel
theorem dL_canBegin_53 : decode cL_canBegin 53 = .ok (.aaload, 1) := by decide +kernel
theorem dL_canBegin_54 : decode cL_canBegin 54 = .ok (.iconst 5, 1) := by decide +kernel
theorem dL_canBegin_55 : decode cL_canBegin 55 = .ok (.iaload, 1) := by decide +kernel
theorem dL_canBegin_56 : decode cL_canBegin 56 = .ok (.ifCond .ne 7, 3) := by decide +kernel
theorem dL_canBegin_59 : decode cL_canBegin 59 = .ok (.iconst 1, 1) := by decide +kernel
theorem dL_canBegin_60 : decode cL_canBegin 60 = .ok (.goto 4, 3) := by decide +kernel
theorem dL_canBegin_63 : decode cL_canBegin 63 = .ok (.iconst 0, 1) := by decide +kernel
theorem dL_canBegin_64 : decode cL_canBegin 64 = .ok (.istore 12, 2) := by decide +kernel
theorem dL_canBegin_66 : decode cL_canBegin 66 = .ok (.iload 10, 2) := by decide +kernel
theorem dL_canBegin_68 : decode cL_canBegin 68 = .ok (.iload 12, 2) := by decide +kernel
theorem dL_canBegin_70 : decode cL_canBegin 70 = .ok (.if_icmp .ne 29, 3) := by decide +kernel
theorem dL_canBegin_73 : decode cL_canBegin 73 = .ok (.iload 11, 2) := by decide +kernel
theorem dL_canBegin_75 : decode cL_canBegin 75 = .ok (.ifCond .lt 17, 3) := by decide +kernel
theorem dL_canBegin_78 : decode cL_canBegin 78 = .ok (.aload 4, 2) := by decide +kernel
theorem dL_canBegin_80 : decode cL_canBegin 80 = .ok (.iload 11, 2) := by decide +kernel
theorem dL_canBegin_82 : decode cL_canBegin 82 = .ok (.aaload, 1) := by decide +kernel
theorem dL_canBegin_83 : decode cL_canBegin 83 = .ok (.iconst 1, 1) := by decide +kernel
theorem dL_canBegin_84 : decode cL_canBegin 84 = .ok (.iaload, 1) := by decide +kernel
theorem dL_canBegin_85 : decode cL_canBegin 85 = .ok (.bipush 60, 2) := by decide +kernel
theorem dL_canBegin_87 : decode cL_canBegin 87 = .ok (.iadd, 1) := by decide +kernel
theorem dL_canBegin_88 : decode cL_canBegin 88 = .ok (.iload_n 2, 1) := by decide +kernel
theorem dL_canBegin_89 : decode cL_canBegin 89 = .ok (.if_icmp .gt 10, 3) := by decide +kernel
theorem dL_canBegin_92 : decode cL_canBegin 92 = .ok (.iload_n 2, 1) := by decide +kernel
theorem dL_canBegin_93 : decode cL_canBegin 93 = .ok (.sipush 2819, 3) := by decide +kernel
theorem dL_canBegin_96 : decode cL_canBegin 96 = .ok (.if_icmp .le 5, 3) := by decide +kernel
theorem dL_canBegin_99 : decode cL_canBegin 99 = .ok (.iconst 0, 1) := by decide +kernel
theorem dL_canBegin_100 : decode cL_canBegin 100 = .ok (.ireturn, 1) := by decide +kernel
theorem dL_canBegin_101 : decode cL_canBegin 101 = .ok (.iload 10, 2) := by decide +kernel
theorem dL_canBegin_103 : decode cL_canBegin 103 = .ok (.ifCond .eq 13, 3) := by decide +kernel
theorem dL_canBegin_106 : decode cL_canBegin 106 = .ok (.aload 4, 2) := by decide +kernel
theorem dL_canBegin_108 : decode cL_canBegin 108 = .ok (.iload 11, 2) := by decide +kernel
theorem dL_canBegin_110 : decode cL_canBegin 110 = .ok (.aaload, 1) := by decide +kernel
theorem dL_canBegin_111 : decode cL_canBegin 111 = .ok (.iconst 4, 1) := by decide +kernel
theorem dL_canBegin_112 : decode cL_canBegin 112 = .ok (.iaload, 1) := by decide +kernel
theorem dL_canBegin_113 : decode cL_canBegin 113 = .ok (.goto 4, 3) := by decide +kernel
theorem dL_canBegin_116 : decode cL_canBegin 116 = .ok (.iload_n 1, 1) := by decide +kernel
theorem dL_canBegin_117 : decode cL_canBegin 117 = .ok (.istore 13, 2) := by decide +kernel
theorem dL_canBegin_119 : decode cL_canBegin 119 = .ok (.aload 5, 2) := by decide +kernel
theorem dL_canBegin_121 : decode cL_canBegin 121 = .ok (.aload 8, 2) := by decide +kernel
theorem dL_canBegin_123 : decode cL_canBegin 123 = .ok (.iconst 2, 1) := by decide +kernel
theorem dL_canBegin_124 : decode cL_canBegin 124 = .ok (.iload_n 0, 1) := by decide +kernel
theorem dL_canBegin_125 : decode cL_canBegin 125 = .ok (.imul, 1) := by decide +kernel
theorem dL_canBegin_126 : decode cL_canBegin 126 = .ok (.iconst 1, 1) := by decide +kernel
theorem dL_canBegin_127 : decode cL_canBegin 127 = .ok (.iadd, 1) := by decide +kernel
theorem dL_canBegin_128 : decode cL_canBegin 128 = .ok (.iaload, 1) := by decide +kernel
theorem dL_canBegin_129 : decode cL_canBegin 129 = .ok (.invokestatic 45, 3) := by decide +kernel
theorem dL_canBegin_132 : decode cL_canBegin 132 = .ok (.istore 14, 2) := by decide +kernel
theorem dL_canBegin_134 : decode cL_canBegin 134 = .ok (.aload 5, 2) := by decide +kernel
theorem dL_canBegin_136 : decode cL_canBegin 136 = .ok (.iconst 5, 1) := by decide +kernel
theorem dL_canBegin_137 : decode cL_canBegin 137 = .ok (.iaload, 1) := by decide +kernel
theorem dL_canBegin_138 : decode cL_canBegin 138 = .ok (.aload 5, 2) := by decide +kernel
theorem dL_canBegin_140 : decode cL_canBegin 140 = .ok (.aload 6, 2) := by decide +kernel
theorem dL_canBegin_142 : decode cL_canBegin 142 = .ok (.iload 10, 2) := by decide +kernel
theorem dL_canBegin_144 : decode cL_canBegin 144 = .ok (.ifCond .eq 10, 3) := by decide +kernel
theorem dL_canBegin_147 : decode cL_canBegin 147 = .ok (.iload_n 2, 1) := by decide +kernel
theorem dL_canBegin_148 : decode cL_canBegin 148 = .ok (.bipush 60, 2) := by decide +kernel
theorem dL_canBegin_150 : decode cL_canBegin 150 = .ok (.iadd, 1) := by decide +kernel
theorem dL_canBegin_151 : decode cL_canBegin 151 = .ok (.goto 4, 3) := by decide +kernel
theorem dL_canBegin_154 : decode cL_canBegin 154 = .ok (.iload_n 2, 1) := by decide +kernel
theorem dL_canBegin_155 : decode cL_canBegin 155 = .ok (.invokestatic 48, 3) := by decide +kernel
theorem dL_canBegin_158 : decode cL_canBegin 158 = .ok (.iadd, 1) := by decide +kernel
theorem dL_canBegin_159 : decode cL_canBegin 159 = .ok (.iload 14, 2) := by decide +kernel
theorem dL_canBegin_161 : decode cL_canBegin 161 = .ok (.if_icmp .lt 38, 3) := by decide +kernel
theorem dL_canBegin_164 : decode cL_canBegin 164 = .ok (.aload 7, 2) := by decide +kernel
theorem dL_canBegin_166 : decode cL_canBegin 166 = .ok (.iconst 2, 1) := by decide +kernel
theorem dL_canBegin_167 : decode cL_canBegin 167 = .ok (.iload 13, 2) := by decide +kernel
theorem dL_canBegin_169 : decode cL_canBegin 169 = .ok (.imul, 1) := by decide +kernel
theorem dL_canBegin_170 : decode cL_canBegin 170 = .ok (.iconst 1, 1) := by decide +kernel
theorem dL_canBegin_171 : decode cL_canBegin 171 = .ok (.iadd, 1) := by decide +kernel
theorem dL_canBegin_172 : decode cL_canBegin 172 = .ok (.iaload, 1) := by decide +kernel
theorem dL_canBegin_173 : decode cL_canBegin 173 = .ok (.aload 5, 2) := by decide +kernel
theorem dL_canBegin_175 : decode cL_canBegin 175 = .ok (.aload 6, 2) := by decide +kernel
theorem dL_canBegin_177 : decode cL_canBegin 177 = .ok (.iload 10, 2) := by decide +kernel
