theorem dX12_init_490 : decode cX12_init 490 = .ok (.bipush 6, 2) := by decide +kernel
theorem dX12_init_492 : decode cX12_init 492 = .ok (.iastore, 1) := by decide +kernel
theorem dX12_init_493 : decode cX12_init 493 = .ok (.aload_n 0, 1) := by decide +kernel
theorem dX12_init_494 : decode cX12_init 494 = .ok (.getfield 71, 3) := by decide +kernel
theorem dX12_init_497 : decode cX12_init 497 = .ok (.iconst 0, 1) := by decide +kernel
theorem dX12_init_498 : decode cX12_init 498 = .ok (.iconst 1, 1) := by decide +kernel
theorem dX12_init_499 : decode cX12_init 499 = .ok (.iastore, 1) := by decide +kernel
theorem dX12_init_500 : decode cX12_init 500 = .ok (.aload_n 0, 1) := by decide +kernel
theorem dX12_init_501 : decode cX12_init 501 = .ok (.getfield 71, 3) := by decide +kernel
theorem dX12_init_504 : decode cX12_init 504 = .ok (.iconst 1, 1) := by decide +kernel
theorem dX12_init_505 : decode cX12_init 505 = .ok (.iconst 1, 1) := by decide +kernel
theorem dX12_init_506 : decode cX12_init 506 = .ok (.iastore, 1) := by decide +kernel
theorem dX12_init_507 : decode cX12_init 507 = .ok (.aload_n 0, 1) := by decide +kernel
theorem dX12_init_508 : decode cX12_init 508 = .ok (.getfield 71, 3) := by decide +kernel
theorem dX12_init_511 : decode cX12_init 511 = .ok (.iconst 2, 1) := by decide +kernel
theorem dX12_init_512 : decode cX12_init 512 = .ok (.aload_n 0, 1) := by decide +kernel
theorem dX12_init_513 : decode cX12_init 513 = .ok (.getfield 154, 3) := by decide +kernel
theorem dX12_init_516 : decode cX12_init 516 = .ok (.iastore, 1) := by decide +kernel
theorem dX12_init_517 : decode cX12_init 517 = .ok (.return_, 1) := by decide +kernel
theorem dX12_between_0 : decode cX12_between 0 = .ok (.iload_n 0, 1) := by decide +kernel
theorem dX12_between_1 : decode cX12_between 1 = .ok (.iload_n 1, 1) := by decide +kernel
theorem dX12_between_2 : decode cX12_between 2 = .ok (.if_icmp .ge 7, 3) := by decide +kernel
theorem dX12_between_5 : decode cX12_between 5 = .ok (.iload_n 1, 1) := by decide +kernel
theorem dX12_between_6 : decode cX12_between 6 = .ok (.goto 13, 3) := by decide +kernel
theorem dX12_between_9 : decode cX12_between 9 = .ok (.iload_n 0, 1) := by decide +kernel
theorem dX12_between_10 : decode cX12_between 10 = .ok (.iload_n 2, 1) := by decide +kernel
theorem dX12_between_11 : decode cX12_between 11 = .ok (.if_icmp .le 7, 3) := by decide +kernel
theorem dX12_between_14 : decode cX12_between 14 = .ok (.iload_n 2, 1) := by decide +kernel
theorem dX12_between_15 : decode cX12_between 15 = .ok (.goto 4, 3) := by decide +kernel
theorem dX12_between_18 : decode cX12_between 18 = .ok (.iload_n 0, 1) := by decide +kernel
theorem dX12_between_19 : decode cX12_between 19 = .ok (.ireturn, 1) := by decide +kernel
theorem dX12_wake_0 : decode cX12_wake 0 = .ok (.aload_n 0, 1) := by decide +kernel
theorem dX12_wake_1 : decode cX12_wake 1 = .ok (.getfield 20, 3) := by decide +kernel
theorem dX12_wake_4 : decode cX12_wake 4 = .ok (.iload_n 1, 1) := by decide +kernel
theorem dX12_wake_5 : decode cX12_wake 5 = .ok (.iconst 0, 1) := by decide +kernel
theorem dX12_wake_6 : decode cX12_wake 6 = .ok (.iastore, 1) := by decide +kernel
theorem dX12_wake_7 : decode cX12_wake 7 = .ok (.aload_n 0, 1) := by decide +kernel
theorem dX12_wake_8 : decode cX12_wake 8 = .ok (.getfield 23, 3) := by decide +kernel
theorem dX12_wake_11 : decode cX12_wake 11 = .ok (.iload_n 1, 1) := by decide +kernel
theorem dX12_wake_12 : decode cX12_wake 12 = .ok (.iconst (-1), 1) := by decide +kernel
theorem dX12_wake_13 : decode cX12_wake 13 = .ok (.iastore, 1) := by decide +kernel
theorem dX12_wake_14 : decode cX12_wake 14 = .ok (.aload_n 0, 1) := by decide +kernel
theorem dX12_wake_15 : decode cX12_wake 15 = .ok (.getfield 16, 3) := by decide +kernel
theorem dX12_wake_18 : decode cX12_wake 18 = .ok (.iload_n 1, 1) := by decide +kernel
theorem dX12_wake_19 : decode cX12_wake 19 = .ok (.iconst 0, 1) := by decide +kernel
theorem dX12_wake_20 : decode cX12_wake 20 = .ok (.bastore, 1) := by decide +kernel
theorem dX12_wake_21 : decode cX12_wake 21 = .ok (.aload_n 0, 1) := by decide +kernel
theorem dX12_wake_22 : decode cX12_wake 22 = .ok (.getfield 13, 3) := by decide +kernel
theorem dX12_wake_25 : decode cX12_wake 25 = .ok (.aload_n 0, 1) := by decide +kernel
theorem dX12_wake_26 : decode cX12_wake 26 = .ok (.getfield 160, 3) := by decide +kernel
theorem dX12_wake_29 : decode cX12_wake 29 = .ok (.iload_n 1, 1) := by decide +kernel
theorem dX12_wake_30 : decode cX12_wake 30 = .ok (.iastore, 1) := by decide +kernel
theorem dX12_wake_31 : decode cX12_wake 31 = .ok (.aload_n 0, 1) := by decide +kernel
theorem dX12_wake_32 : decode cX12_wake 32 = .ok (.dup, 1) := by decide +kernel
theorem dX12_wake_33 : decode cX12_wake 33 = .ok (.getfield 160, 3) := by decide +kernel
theorem dX12_wake_36 : decode cX12_wake 36 = .ok (.iconst 1, 1) := by decide +kernel
theorem dX12_wake_37 : decode cX12_wake 37 = .ok (.iadd, 1) := by decide +kernel
theorem dX12_wake_38 : decode cX12_wake 38 = .ok (.putfield 160, 3) := by decide +kernel
theorem dX12_wake_41 : decode cX12_wake 41 = .ok (.return_, 1) := by decide +kernel
theorem dX12_raise_0 : decode cX12_raise 0 = .ok (.iconst (-1), 1) := by decide +kernel
theorem dX12_raise_1 : decode cX12_raise 1 = .ok (.istore_n 2, 1) := by decide +kernel
theorem dX12_raise_2 : decode cX12_raise 2 = .ok (.bipush 6, 2) := by decide +kernel
theorem dX12_raise_4 : decode cX12_raise 4 = .ok (.istore_n 3, 1) := by decide +kernel
theorem dX12_raise_5 : decode cX12_raise 5 = .ok (.iload_n 3, 1) := by decide +kernel
theorem dX12_raise_6 : decode cX12_raise 6 = .ok (.bipush 10, 2) := by decide +kernel
theorem dX12_raise_8 : decode cX12_raise 8 = .ok (.if_icmp .ge 21, 3) := by decide +kernel
theorem dX12_raise_11 : decode cX12_raise 11 = .ok (.aload_n 0, 1) := by decide +kernel
theorem dX12_raise_12 : decode cX12_raise 12 = .ok (.getfield 23, 3) := by decide +kernel
theorem dX12_raise_15 : decode cX12_raise 15 = .ok (.iload_n 3, 1) := by decide +kernel
theorem dX12_raise_16 : decode cX12_raise 16 = .ok (.iaload, 1) := by decide +kernel
theorem dX12_raise_17 : decode cX12_raise 17 = .ok (.iload_n 1, 1) := by decide +kernel
theorem dX12_raise_18 : decode cX12_raise 18 = .ok (.if_icmp .ne 5, 3) := by decide +kernel
theorem dX12_raise_21 : decode cX12_raise 21 = .ok (.iload_n 3, 1) := by decide +kernel
theorem dX12_raise_22 : decode cX12_raise 22 = .ok (.istore_n 2, 1) := by decide +kernel
theorem dX12_raise_23 : decode cX12_raise 23 = .ok (.iinc 3 1, 3) := by decide +kernel
theorem dX12_raise_26 : decode cX12_raise 26 = .ok (.goto (-21), 3) := by decide +kernel
theorem dX12_raise_29 : decode cX12_raise 29 = .ok (.iload_n 2, 1) := by decide +kernel
theorem dX12_raise_30 : decode cX12_raise 30 = .ok (.iconst (-1), 1) := by decide +kernel
theorem dX12_raise_31 : decode cX12_raise 31 = .ok (.if_icmp .ne 16, 3) := by decide +kernel
theorem dX12_raise_34 : decode cX12_raise 34 = .ok (.aload_n 0, 1) := by decide +kernel
theorem dX12_raise_35 : decode cX12_raise 35 = .ok (.getfield 29, 3) := by decide +kernel
theorem dX12_raise_38 : decode cX12_raise 38 = .ok (.iload_n 1, 1) := by decide +kernel
theorem dX12_raise_39 : decode cX12_raise 39 = .ok (.dup2, 1) := by decide +kernel
theorem dX12_raise_40 : decode cX12_raise 40 = .ok (.iaload, 1) := by decide +kernel
theorem dX12_raise_41 : decode cX12_raise 41 = .ok (.iconst 1, 1) := by decide +kernel
theorem dX12_raise_42 : decode cX12_raise 42 = .ok (.iadd, 1) := by decide +kernel
theorem dX12_raise_43 : decode cX12_raise 43 = .ok (.iastore, 1) := by decide +kernel
theorem dX12_raise_44 : decode cX12_raise 44 = .ok (.goto 8, 3) := by decide +kernel
theorem dX12_raise_47 : decode cX12_raise 47 = .ok (.aload_n 0, 1) := by decide +kernel
theorem dX12_raise_48 : decode cX12_raise 48 = .ok (.iload_n 2, 1) := by decide +kernel
theorem dX12_raise_49 : decode cX12_raise 49 = .ok (.invokevirtual 163, 3) := by decide +kernel
theorem dX12_raise_52 : decode cX12_raise 52 = .ok (.return_, 1) := by decide +kernel
theorem dX12_waitFor_0 : decode cX12_waitFor 0 = .ok (.aload_n 0, 1) := by decide +kernel
theorem dX12_waitFor_1 : decode cX12_waitFor 1 = .ok (.getfield 26, 3) := by decide +kernel
theorem dX12_waitFor_4 : decode cX12_waitFor 4 = .ok (.iload_n 1, 1) := by decide +kernel
theorem dX12_waitFor_5 : decode cX12_waitFor 5 = .ok (.iload_n 3, 1) := by decide +kernel
theorem dX12_waitFor_6 : decode cX12_waitFor 6 = .ok (.iastore, 1) := by decide +kernel
theorem dX12_waitFor_7 : decode cX12_waitFor 7 = .ok (.aload_n 0, 1) := by decide +kernel
theorem dX12_waitFor_8 : decode cX12_waitFor 8 = .ok (.getfield 29, 3) := by decide +kernel
theorem dX12_waitFor_11 : decode cX12_waitFor 11 = .ok (.iload_n 2, 1) := by decide +kernel
theorem dX12_waitFor_12 : decode cX12_waitFor 12 = .ok (.iaload, 1) := by decide +kernel
theorem dX12_waitFor_13 : decode cX12_waitFor 13 = .ok (.ifCond .le 14, 3) := by decide +kernel
theorem dX12_waitFor_16 : decode cX12_waitFor 16 = .ok (.aload_n 0, 1) := by decide +kernel
theorem dX12_waitFor_17 : decode cX12_waitFor 17 = .ok (.getfield 29, 3) := by decide +kernel
theorem dX12_waitFor_20 : decode cX12_waitFor 20 = .ok (.iload_n 2, 1) := by decide +kernel
theorem dX12_waitFor_21 : decode cX12_waitFor 21 = .ok (.dup2, 1) := by decide +kernel
theorem dX12_waitFor_22 : decode cX12_waitFor 22 = .ok (.iaload, 1) := by decide +kernel
theorem dX12_waitFor_23 : decode cX12_waitFor 23 = .ok (.iconst 1, 1) := by decide +kernel
theorem dX12_waitFor_24 : decode cX12_waitFor 24 = .ok (.isub, 1) := by decide +kernel
theorem dX12_waitFor_25 : decode cX12_waitFor 25 = .ok (.iastore, 1) := by decide +kernel
theorem dX12_waitFor_26 : decode cX12_waitFor 26 = .ok (.return_, 1) := by decide +kernel
theorem dX12_waitFor_27 : decode cX12_waitFor 27 = .ok (.aload_n 0, 1) := by decide +kernel
theorem dX12_waitFor_28 : decode cX12_waitFor 28 = .ok (.getfield 23, 3) := by decide +kernel
theorem dX12_waitFor_31 : decode cX12_waitFor 31 = .ok (.iload_n 1, 1) := by decide +kernel
theorem dX12_waitFor_32 : decode cX12_waitFor 32 = .ok (.iload_n 2, 1) := by decide +kernel
theorem dX12_waitFor_33 : decode cX12_waitFor 33 = .ok (.iastore, 1) := by decide +kernel
theorem dX12_waitFor_34 : decode cX12_waitFor 34 = .ok (.aload_n 0, 1) := by decide +kernel
theorem dX12_waitFor_35 : decode cX12_waitFor 35 = .ok (.getfield 16, 3) := by decide +kernel
theorem dX12_waitFor_38 : decode cX12_waitFor 38 = .ok (.iload_n 1, 1) := by decide +kernel
theorem dX12_waitFor_39 : decode cX12_waitFor 39 = .ok (.iconst 1, 1) := by decide +kernel
theorem dX12_waitFor_40 : decode cX12_waitFor 40 = .ok (.bastore, 1) := by decide +kernel
theorem dX12_waitFor_41 : decode cX12_waitFor 41 = .ok (.return_, 1) := by decide +kernel
theorem dX12_pause_0 : decode cX12_pause 0 = .ok (.aload_n 0, 1) := by decide +kernel
theorem dX12_pause_1 : decode cX12_pause 1 = .ok (.getfield 20, 3) := by decide +kernel
theorem dX12_pause_4 : decode cX12_pause 4 = .ok (.iload_n 1, 1) := by decide +kernel
theorem dX12_pause_5 : decode cX12_pause 5 = .ok (.iload_n 2, 1) := by decide +kernel
theorem dX12_pause_6 : decode cX12_pause 6 = .ok (.iastore, 1) := by decide +kernel
theorem dX12_pause_7 : decode cX12_pause 7 = .ok (.aload_n 0, 1) := by decide +kernel
theorem dX12_pause_8 : decode cX12_pause 8 = .ok (.getfield 16, 3) := by decide +kernel
theorem dX12_pause_11 : decode cX12_pause 11 = .ok (.iload_n 1, 1) := by decide +kernel
theorem dX12_pause_12 : decode cX12_pause 12 = .ok (.iconst 1, 1) := by decide +kernel
theorem dX12_pause_13 : decode cX12_pause 13 = .ok (.bastore, 1) := by decide +kernel
theorem dX12_pause_14 : decode cX12_pause 14 = .ok (.return_, 1) := by decide +kernel
theorem dX12_oneTick_0 : decode cX12_oneTick 0 = .ok (.aload_n 0, 1) := by decide +kernel
theorem dX12_oneTick_1 : decode cX12_oneTick 1 = .ok (.dup, 1) := by decide +kernel
theorem dX12_oneTick_2 : decode cX12_oneTick 2 = .ok (.getfield 167, 3) := by decide +kernel
theorem dX12_oneTick_5 : decode cX12_oneTick 5 = .ok (.iconst 1, 1) := by decide +kernel
theorem dX12_oneTick_6 : decode cX12_oneTick 6 = .ok (.iadd, 1) := by decide +kernel
theorem dX12_oneTick_7 : decode cX12_oneTick 7 = .ok (.putfield 167, 3) := by decide +kernel
theorem dX12_oneTick_10 : decode cX12_oneTick 10 = .ok (.aload_n 0, 1) := by decide +kernel
theorem dX12_oneTick_11 : decode cX12_oneTick 11 = .ok (.getfield 160, 3) := by decide +kernel
theorem dX12_oneTick_14 : decode cX12_oneTick 14 = .ok (.ifCond .ne 4, 3) := by decide +kernel
theorem dX12_oneTick_17 : decode cX12_oneTick 17 = .ok (.return_, 1) := by decide +kernel
theorem dX12_oneTick_18 : decode cX12_oneTick 18 = .ok (.aload_n 0, 1) := by decide +kernel
theorem dX12_oneTick_19 : decode cX12_oneTick 19 = .ok (.getfield 13, 3) := by decide +kernel
theorem dX12_oneTick_22 : decode cX12_oneTick 22 = .ok (.iconst 0, 1) := by decide +kernel
theorem dX12_oneTick_23 : decode cX12_oneTick 23 = .ok (.iaload, 1) := by decide +kernel
theorem dX12_oneTick_24 : decode cX12_oneTick 24 = .ok (.istore_n 1, 1) := by decide +kernel
theorem dX12_oneTick_25 : decode cX12_oneTick 25 = .ok (.iload_n 1, 1) := by decide +kernel
theorem dX12_oneTick_26 : decode cX12_oneTick 26 = .ok (.bipush 6, 2) := by decide +kernel
theorem dX12_oneTick_28 : decode cX12_oneTick 28 = .ok (.if_icmp .ge 11, 3) := by decide +kernel
theorem dX12_oneTick_31 : decode cX12_oneTick 31 = .ok (.aload_n 0, 1) := by decide +kernel
theorem dX12_oneTick_32 : decode cX12_oneTick 32 = .ok (.iload_n 1, 1) := by decide +kernel
theorem dX12_oneTick_33 : decode cX12_oneTick 33 = .ok (.invokevirtual 170, 3) := by decide +kernel
theorem dX12_oneTick_36 : decode cX12_oneTick 36 = .ok (.goto 46, 3) := by decide +kernel
theorem dX12_oneTick_39 : decode cX12_oneTick 39 = .ok (.iload_n 1, 1) := by decide +kernel
theorem dX12_oneTick_40 : decode cX12_oneTick 40 = .ok (.bipush 6, 2) := by decide +kernel
theorem dX12_oneTick_42 : decode cX12_oneTick 42 = .ok (.if_icmp .ne 10, 3) := by decide +kernel
theorem dX12_oneTick_45 : decode cX12_oneTick 45 = .ok (.aload_n 0, 1) := by decide +kernel
theorem dX12_oneTick_46 : decode cX12_oneTick 46 = .ok (.invokevirtual 173, 3) := by decide +kernel
theorem dX12_oneTick_49 : decode cX12_oneTick 49 = .ok (.goto 33, 3) := by decide +kernel
theorem dX12_oneTick_52 : decode cX12_oneTick 52 = .ok (.iload_n 1, 1) := by decide +kernel
theorem dX12_oneTick_53 : decode cX12_oneTick 53 = .ok (.bipush 7, 2) := by decide +kernel
theorem dX12_oneTick_55 : decode cX12_oneTick 55 = .ok (.if_icmp .ne 10, 3) := by decide +kernel
theorem dX12_oneTick_58 : decode cX12_oneTick 58 = .ok (.aload_n 0, 1) := by decide +kernel
theorem dX12_oneTick_59 : decode cX12_oneTick 59 = .ok (.invokevirtual 176, 3) := by decide +kernel
theorem dX12_oneTick_62 : decode cX12_oneTick 62 = .ok (.goto 20, 3) := by decide +kernel
theorem dX12_oneTick_65 : decode cX12_oneTick 65 = .ok (.iload_n 1, 1) := by decide +kernel
theorem dX12_oneTick_66 : decode cX12_oneTick 66 = .ok (.bipush 8, 2) := by decide +kernel
theorem dX12_oneTick_68 : decode cX12_oneTick 68 = .ok (.if_icmp .ne 10, 3) := by decide +kernel
theorem dX12_oneTick_71 : decode cX12_oneTick 71 = .ok (.aload_n 0, 1) := by decide +kernel
theorem dX12_oneTick_72 : decode cX12_oneTick 72 = .ok (.invokevirtual 179, 3) := by decide +kernel
theorem dX12_oneTick_75 : decode cX12_oneTick 75 = .ok (.goto 7, 3) := by decide +kernel
theorem dX12_oneTick_78 : decode cX12_oneTick 78 = .ok (.aload_n 0, 1) := by decide +kernel
theorem dX12_oneTick_79 : decode cX12_oneTick 79 = .ok (.invokevirtual 182, 3) := by decide +kernel
theorem dX12_oneTick_82 : decode cX12_oneTick 82 = .ok (.aload_n 0, 1) := by decide +kernel
theorem dX12_oneTick_83 : decode cX12_oneTick 83 = .ok (.dup, 1) := by decide +kernel
theorem dX12_oneTick_84 : decode cX12_oneTick 84 = .ok (.getfield 185, 3) := by decide +kernel
theorem dX12_oneTick_87 : decode cX12_oneTick 87 = .ok (.iconst 1, 1) := by decide +kernel
theorem dX12_oneTick_88 : decode cX12_oneTick 88 = .ok (.iadd, 1) := by decide +kernel
theorem dX12_oneTick_89 : decode cX12_oneTick 89 = .ok (.putfield 185, 3) := by decide +kernel
theorem dX12_oneTick_92 : decode cX12_oneTick 92 = .ok (.aload_n 0, 1) := by decide +kernel
theorem dX12_oneTick_93 : decode cX12_oneTick 93 = .ok (.getfield 16, 3) := by decide +kernel
theorem dX12_oneTick_96 : decode cX12_oneTick 96 = .ok (.iload_n 1, 1) := by decide +kernel
theorem dX12_oneTick_97 : decode cX12_oneTick 97 = .ok (.baload, 1) := by decide +kernel
theorem dX12_oneTick_98 : decode cX12_oneTick 98 = .ok (.ifCond .ne 14, 3) := by decide +kernel
theorem dX12_oneTick_101 : decode cX12_oneTick 101 = .ok (.aload_n 0, 1) := by decide +kernel
theorem dX12_oneTick_102 : decode cX12_oneTick 102 = .ok (.getfield 185, 3) := by decide +kernel
theorem dX12_oneTick_105 : decode cX12_oneTick 105 = .ok (.aload_n 0, 1) := by decide +kernel
theorem dX12_oneTick_106 : decode cX12_oneTick 106 = .ok (.getfield 157, 3) := by decide +kernel
theorem dX12_oneTick_109 : decode cX12_oneTick 109 = .ok (.if_icmp .ne 7, 3) := by decide +kernel
theorem dX12_oneTick_112 : decode cX12_oneTick 112 = .ok (.iconst 1, 1) := by decide +kernel
theorem dX12_oneTick_113 : decode cX12_oneTick 113 = .ok (.goto 4, 3) := by decide +kernel
theorem dX12_oneTick_116 : decode cX12_oneTick 116 = .ok (.iconst 0, 1) := by decide +kernel
theorem dX12_oneTick_117 : decode cX12_oneTick 117 = .ok (.istore_n 2, 1) := by decide +kernel
theorem dX12_oneTick_118 : decode cX12_oneTick 118 = .ok (.iload_n 2, 1) := by decide +kernel
theorem dX12_oneTick_119 : decode cX12_oneTick 119 = .ok (.ifCond .ne 4, 3) := by decide +kernel
theorem dX12_oneTick_122 : decode cX12_oneTick 122 = .ok (.return_, 1) := by decide +kernel
theorem dX12_oneTick_123 : decode cX12_oneTick 123 = .ok (.aload_n 0, 1) := by decide +kernel
theorem dX12_oneTick_124 : decode cX12_oneTick 124 = .ok (.iconst 0, 1) := by decide +kernel
theorem dX12_oneTick_125 : decode cX12_oneTick 125 = .ok (.putfield 185, 3) := by decide +kernel
theorem dX12_oneTick_128 : decode cX12_oneTick 128 = .ok (.iconst 1, 1) := by decide +kernel
theorem dX12_oneTick_129 : decode cX12_oneTick 129 = .ok (.istore_n 3, 1) := by decide +kernel
theorem dX12_oneTick_130 : decode cX12_oneTick 130 = .ok (.iload_n 3, 1) := by decide +kernel
theorem dX12_oneTick_131 : decode cX12_oneTick 131 = .ok (.aload_n 0, 1) := by decide +kernel
theorem dX12_oneTick_132 : decode cX12_oneTick 132 = .ok (.getfield 160, 3) := by decide +kernel
theorem dX12_oneTick_135 : decode cX12_oneTick 135 = .ok (.if_icmp .ge 23, 3) := by decide +kernel
theorem dX12_oneTick_138 : decode cX12_oneTick 138 = .ok (.aload_n 0, 1) := by decide +kernel
theorem dX12_oneTick_139 : decode cX12_oneTick 139 = .ok (.getfield 13, 3) := by decide +kernel
theorem dX12_oneTick_142 : decode cX12_oneTick 142 = .ok (.iload_n 3, 1) := by decide +kernel
theorem dX12_oneTick_143 : decode cX12_oneTick 143 = .ok (.iconst 1, 1) := by decide +kernel
theorem dX12_oneTick_144 : decode cX12_oneTick 144 = .ok (.isub, 1) := by decide +kernel
theorem dX12_oneTick_145 : decode cX12_oneTick 145 = .ok (.aload_n 0, 1) := by decide +kernel
theorem dX12_oneTick_146 : decode cX12_oneTick 146 = .ok (.getfield 13, 3) := by decide +kernel
theorem dX12_oneTick_149 : decode cX12_oneTick 149 = .ok (.iload_n 3, 1) := by decide +kernel
theorem dX12_oneTick_150 : decode cX12_oneTick 150 = .ok (.iaload, 1) := by decide +kernel
theorem dX12_oneTick_151 : decode cX12_oneTick 151 = .ok (.iastore, 1) := by decide +kernel
theorem dX12_oneTick_152 : decode cX12_oneTick 152 = .ok (.iinc 3 1, 3) := by decide +kernel
theorem dX12_oneTick_155 : decode cX12_oneTick 155 = .ok (.goto (-25), 3) := by decide +kernel
theorem dX12_oneTick_158 : decode cX12_oneTick 158 = .ok (.aload_n 0, 1) := by decide +kernel
theorem dX12_oneTick_159 : decode cX12_oneTick 159 = .ok (.dup, 1) := by decide +kernel
theorem dX12_oneTick_160 : decode cX12_oneTick 160 = .ok (.getfield 160, 3) := by decide +kernel
theorem dX12_oneTick_163 : decode cX12_oneTick 163 = .ok (.iconst 1, 1) := by decide +kernel
theorem dX12_oneTick_164 : decode cX12_oneTick 164 = .ok (.isub, 1) := by decide +kernel
theorem dX12_oneTick_165 : decode cX12_oneTick 165 = .ok (.putfield 160, 3) := by decide +kernel
theorem dX12_oneTick_168 : decode cX12_oneTick 168 = .ok (.aload_n 0, 1) := by decide +kernel
theorem dX12_oneTick_169 : decode cX12_oneTick 169 = .ok (.getfield 16, 3) := by decide +kernel
theorem dX12_oneTick_172 : decode cX12_oneTick 172 = .ok (.iload_n 1, 1) := by decide +kernel
theorem dX12_oneTick_173 : decode cX12_oneTick 173 = .ok (.baload, 1) := by decide +kernel
theorem dX12_oneTick_174 : decode cX12_oneTick 174 = .ok (.ifCond .eq 4, 3) := by decide +kernel
theorem dX12_oneTick_177 : decode cX12_oneTick 177 = .ok (.return_, 1) := by decide +kernel
theorem dX12_oneTick_178 : decode cX12_oneTick 178 = .ok (.aload_n 0, 1) := by decide +kernel
theorem dX12_oneTick_179 : decode cX12_oneTick 179 = .ok (.getfield 13, 3) := by decide +kernel
theorem dX12_oneTick_182 : decode cX12_oneTick 182 = .ok (.aload_n 0, 1) := by decide +kernel
theorem dX12_oneTick_183 : decode cX12_oneTick 183 = .ok (.getfield 160, 3) := by decide +kernel
theorem dX12_oneTick_186 : decode cX12_oneTick 186 = .ok (.iload_n 1, 1) := by decide +kernel
theorem dX12_oneTick_187 : decode cX12_oneTick 187 = .ok (.iastore, 1) := by decide +kernel
theorem dX12_oneTick_188 : decode cX12_oneTick 188 = .ok (.aload_n 0, 1) := by decide +kernel
theorem dX12_oneTick_189 : decode cX12_oneTick 189 = .ok (.dup, 1) := by decide +kernel
theorem dX12_oneTick_190 : decode cX12_oneTick 190 = .ok (.getfield 160, 3) := by decide +kernel
theorem dX12_oneTick_193 : decode cX12_oneTick 193 = .ok (.iconst 1, 1) := by decide +kernel
theorem dX12_oneTick_194 : decode cX12_oneTick 194 = .ok (.iadd, 1) := by decide +kernel
theorem dX12_oneTick_195 : decode cX12_oneTick 195 = .ok (.putfield 160, 3) := by decide +kernel
theorem dX12_oneTick_198 : decode cX12_oneTick 198 = .ok (.return_, 1) := by decide +kernel
theorem dX12_frameOf_0 : decode cX12_frameOf 0 = .ok (.iconst (-1), 1) := by decide +kernel
theorem dX12_frameOf_1 : decode cX12_frameOf 1 = .ok (.istore_n 3, 1) := by decide +kernel
theorem dX12_frameOf_2 : decode cX12_frameOf 2 = .ok (.iconst 0, 1) := by decide +kernel
theorem dX12_frameOf_3 : decode cX12_frameOf 3 = .ok (.istore 4, 2) := by decide +kernel
theorem dX12_frameOf_5 : decode cX12_frameOf 5 = .ok (.iload 4, 2) := by decide +kernel
theorem dX12_frameOf_7 : decode cX12_frameOf 7 = .ok (.aload_n 0, 1) := by decide +kernel
theorem dX12_frameOf_8 : decode cX12_frameOf 8 = .ok (.getfield 150, 3) := by decide +kernel
theorem dX12_frameOf_11 : decode cX12_frameOf 11 = .ok (.if_icmp .ge 34, 3) := by decide +kernel
theorem dX12_frameOf_14 : decode cX12_frameOf 14 = .ok (.aload_n 0, 1) := by decide +kernel
theorem dX12_frameOf_15 : decode cX12_frameOf 15 = .ok (.getfield 104, 3) := by decide +kernel
theorem dX12_frameOf_18 : decode cX12_frameOf 18 = .ok (.iload 4, 2) := by decide +kernel
theorem dX12_frameOf_20 : decode cX12_frameOf 20 = .ok (.iaload, 1) := by decide +kernel
theorem dX12_frameOf_21 : decode cX12_frameOf 21 = .ok (.iload_n 1, 1) := by decide +kernel
theorem dX12_frameOf_22 : decode cX12_frameOf 22 = .ok (.if_icmp .ne 17, 3) := by decide +kernel
theorem dX12_frameOf_25 : decode cX12_frameOf 25 = .ok (.aload_n 0, 1) := by decide +kernel
theorem dX12_frameOf_26 : decode cX12_frameOf 26 = .ok (.getfield 107, 3) := by decide +kernel
theorem dX12_frameOf_29 : decode cX12_frameOf 29 = .ok (.iload 4, 2) := by decide +kernel
theorem dX12_frameOf_31 : decode cX12_frameOf 31 = .ok (.iaload, 1) := by decide +kernel
theorem dX12_frameOf_32 : decode cX12_frameOf 32 = .ok (.iload_n 2, 1) := by decide +kernel
theorem dX12_frameOf_33 : decode cX12_frameOf 33 = .ok (.if_icmp .ne 6, 3) := by decide +kernel
theorem dX12_frameOf_36 : decode cX12_frameOf 36 = .ok (.iload 4, 2) := by decide +kernel
theorem dX12_frameOf_38 : decode cX12_frameOf 38 = .ok (.istore_n 3, 1) := by decide +kernel
theorem dX12_frameOf_39 : decode cX12_frameOf 39 = .ok (.iinc 4 1, 3) := by decide +kernel
theorem dX12_frameOf_42 : decode cX12_frameOf 42 = .ok (.goto (-37), 3) := by decide +kernel
theorem dX12_frameOf_45 : decode cX12_frameOf 45 = .ok (.iload_n 3, 1) := by decide +kernel
theorem dX12_frameOf_46 : decode cX12_frameOf 46 = .ok (.ireturn, 1) := by decide +kernel
theorem dX12_unpin_0 : decode cX12_unpin 0 = .ok (.iconst 0, 1) := by decide +kernel
theorem dX12_unpin_1 : decode cX12_unpin 1 = .ok (.istore_n 2, 1) := by decide +kernel
theorem dX12_unpin_2 : decode cX12_unpin 2 = .ok (.iload_n 2, 1) := by decide +kernel
theorem dX12_unpin_3 : decode cX12_unpin 3 = .ok (.aload_n 0, 1) := by decide +kernel
theorem dX12_unpin_4 : decode cX12_unpin 4 = .ok (.getfield 150, 3) := by decide +kernel
theorem dX12_unpin_7 : decode cX12_unpin 7 = .ok (.if_icmp .ge 26, 3) := by decide +kernel
theorem dX12_unpin_10 : decode cX12_unpin 10 = .ok (.aload_n 0, 1) := by decide +kernel
theorem dX12_unpin_11 : decode cX12_unpin 11 = .ok (.getfield 104, 3) := by decide +kernel
theorem dX12_unpin_14 : decode cX12_unpin 14 = .ok (.iload_n 2, 1) := by decide +kernel
theorem dX12_unpin_15 : decode cX12_unpin 15 = .ok (.iaload, 1) := by decide +kernel
theorem dX12_unpin_16 : decode cX12_unpin 16 = .ok (.iload_n 1, 1) := by decide +kernel
theorem dX12_unpin_17 : decode cX12_unpin 17 = .ok (.if_icmp .ne 10, 3) := by decide +kernel
theorem dX12_unpin_20 : decode cX12_unpin 20 = .ok (.aload_n 0, 1) := by decide +kernel
theorem dX12_unpin_21 : decode cX12_unpin 21 = .ok (.getfield 116, 3) := by decide +kernel
theorem dX12_unpin_24 : decode cX12_unpin 24 = .ok (.iload_n 2, 1) := by decide +kernel
theorem dX12_unpin_25 : decode cX12_unpin 25 = .ok (.iconst 0, 1) := by decide +kernel
theorem dX12_unpin_26 : decode cX12_unpin 26 = .ok (.bastore, 1) := by decide +kernel
theorem dX12_unpin_27 : decode cX12_unpin 27 = .ok (.iinc 2 1, 3) := by decide +kernel
theorem dX12_unpin_30 : decode cX12_unpin 30 = .ok (.goto (-28), 3) := by decide +kernel
theorem dX12_unpin_33 : decode cX12_unpin 33 = .ok (.return_, 1) := by decide +kernel
theorem dX12_finish_0 : decode cX12_finish 0 = .ok (.aload_n 0, 1) := by decide +kernel
theorem dX12_finish_1 : decode cX12_finish 1 = .ok (.getfield 41, 3) := by decide +kernel
theorem dX12_finish_4 : decode cX12_finish 4 = .ok (.iload_n 1, 1) := by decide +kernel
theorem dX12_finish_5 : decode cX12_finish 5 = .ok (.dup2, 1) := by decide +kernel
theorem dX12_finish_6 : decode cX12_finish 6 = .ok (.iaload, 1) := by decide +kernel
theorem dX12_finish_7 : decode cX12_finish 7 = .ok (.iconst 1, 1) := by decide +kernel
theorem dX12_finish_8 : decode cX12_finish 8 = .ok (.iadd, 1) := by decide +kernel
theorem dX12_finish_9 : decode cX12_finish 9 = .ok (.iastore, 1) := by decide +kernel
theorem dX12_finish_10 : decode cX12_finish 10 = .ok (.aload_n 0, 1) := by decide +kernel
theorem dX12_finish_11 : decode cX12_finish 11 = .ok (.getfield 44, 3) := by decide +kernel
theorem dX12_finish_14 : decode cX12_finish 14 = .ok (.iload_n 1, 1) := by decide +kernel
theorem dX12_finish_15 : decode cX12_finish 15 = .ok (.dup2, 1) := by decide +kernel
theorem dX12_finish_16 : decode cX12_finish 16 = .ok (.iaload, 1) := by decide +kernel
theorem dX12_finish_17 : decode cX12_finish 17 = .ok (.iconst 1, 1) := by decide +kernel
theorem dX12_finish_18 : decode cX12_finish 18 = .ok (.iadd, 1) := by decide +kernel
theorem dX12_finish_19 : decode cX12_finish 19 = .ok (.iastore, 1) := by decide +kernel
theorem dX12_finish_20 : decode cX12_finish 20 = .ok (.aload_n 0, 1) := by decide +kernel
theorem dX12_finish_21 : decode cX12_finish 21 = .ok (.iload_n 1, 1) := by decide +kernel
theorem dX12_finish_22 : decode cX12_finish 22 = .ok (.invokevirtual 188, 3) := by decide +kernel
theorem dX12_finish_25 : decode cX12_finish 25 = .ok (.return_, 1) := by decide +kernel
theorem dX12_want_0 : decode cX12_want 0 = .ok (.aload_n 0, 1) := by decide +kernel
theorem dX12_want_1 : decode cX12_want 1 = .ok (.getfield 119, 3) := by decide +kernel
theorem dX12_want_4 : decode cX12_want 4 = .ok (.aload_n 0, 1) := by decide +kernel
theorem dX12_want_5 : decode cX12_want 5 = .ok (.getfield 191, 3) := by decide +kernel
theorem dX12_want_8 : decode cX12_want 8 = .ok (.iload_n 1, 1) := by decide +kernel
theorem dX12_want_9 : decode cX12_want 9 = .ok (.iastore, 1) := by decide +kernel
theorem dX12_want_10 : decode cX12_want 10 = .ok (.aload_n 0, 1) := by decide +kernel
theorem dX12_want_11 : decode cX12_want 11 = .ok (.getfield 122, 3) := by decide +kernel
theorem dX12_want_14 : decode cX12_want 14 = .ok (.aload_n 0, 1) := by decide +kernel
theorem dX12_want_15 : decode cX12_want 15 = .ok (.getfield 191, 3) := by decide +kernel
theorem dX12_want_18 : decode cX12_want 18 = .ok (.iload_n 2, 1) := by decide +kernel
theorem dX12_want_19 : decode cX12_want 19 = .ok (.iastore, 1) := by decide +kernel
theorem dX12_want_20 : decode cX12_want 20 = .ok (.aload_n 0, 1) := by decide +kernel
theorem dX12_want_21 : decode cX12_want 21 = .ok (.dup, 1) := by decide +kernel
theorem dX12_want_22 : decode cX12_want 22 = .ok (.getfield 191, 3) := by decide +kernel
theorem dX12_want_25 : decode cX12_want 25 = .ok (.iconst 1, 1) := by decide +kernel
theorem dX12_want_26 : decode cX12_want 26 = .ok (.iadd, 1) := by decide +kernel
theorem dX12_want_27 : decode cX12_want 27 = .ok (.putfield 191, 3) := by decide +kernel
theorem dX12_want_30 : decode cX12_want 30 = .ok (.aload_n 0, 1) := by decide +kernel
theorem dX12_want_31 : decode cX12_want 31 = .ok (.iload_n 1, 1) := by decide +kernel
theorem dX12_want_32 : decode cX12_want 32 = .ok (.iconst 1, 1) := by decide +kernel
theorem dX12_want_33 : decode cX12_want 33 = .ok (.invokevirtual 194, 3) := by decide +kernel
theorem dX12_want_36 : decode cX12_want 36 = .ok (.aload_n 0, 1) := by decide +kernel
theorem dX12_want_37 : decode cX12_want 37 = .ok (.iconst 0, 1) := by decide +kernel
theorem dX12_want_38 : decode cX12_want 38 = .ok (.invokevirtual 198, 3) := by decide +kernel
theorem dX12_want_41 : decode cX12_want 41 = .ok (.return_, 1) := by decide +kernel
theorem dX12_jobStep_0 : decode cX12_jobStep 0 = .ok (.aload_n 0, 1) := by decide +kernel
theorem dX12_jobStep_1 : decode cX12_jobStep 1 = .ok (.getfield 38, 3) := by decide +kernel
theorem dX12_jobStep_4 : decode cX12_jobStep 4 = .ok (.iload_n 1, 1) := by decide +kernel
theorem dX12_jobStep_5 : decode cX12_jobStep 5 = .ok (.iaload, 1) := by decide +kernel
theorem dX12_jobStep_6 : decode cX12_jobStep 6 = .ok (.ifCond .le 11, 3) := by decide +kernel
theorem dX12_jobStep_9 : decode cX12_jobStep 9 = .ok (.aload_n 0, 1) := by decide +kernel
theorem dX12_jobStep_10 : decode cX12_jobStep 10 = .ok (.iload_n 1, 1) := by decide +kernel
theorem dX12_jobStep_11 : decode cX12_jobStep 11 = .ok (.invokevirtual 201, 3) := by decide +kernel
theorem dX12_jobStep_14 : decode cX12_jobStep 14 = .ok (.goto 89, 3) := by decide +kernel
theorem dX12_jobStep_17 : decode cX12_jobStep 17 = .ok (.aload_n 0, 1) := by decide +kernel
theorem dX12_jobStep_18 : decode cX12_jobStep 18 = .ok (.getfield 62, 3) := by decide +kernel
theorem dX12_jobStep_21 : decode cX12_jobStep 21 = .ok (.iload_n 1, 1) := by decide +kernel
theorem dX12_jobStep_22 : decode cX12_jobStep 22 = .ok (.baload, 1) := by decide +kernel
theorem dX12_jobStep_23 : decode cX12_jobStep 23 = .ok (.ifCond .eq 13, 3) := by decide +kernel
theorem dX12_jobStep_26 : decode cX12_jobStep 26 = .ok (.aload_n 0, 1) := by decide +kernel
theorem dX12_jobStep_27 : decode cX12_jobStep 27 = .ok (.getfield 38, 3) := by decide +kernel
theorem dX12_jobStep_30 : decode cX12_jobStep 30 = .ok (.iload_n 1, 1) := by decide +kernel
theorem dX12_jobStep_31 : decode cX12_jobStep 31 = .ok (.iconst 5, 1) := by decide +kernel
theorem dX12_jobStep_32 : decode cX12_jobStep 32 = .ok (.iastore, 1) := by decide +kernel
theorem dX12_jobStep_33 : decode cX12_jobStep 33 = .ok (.goto 70, 3) := by decide +kernel
theorem dX12_jobStep_36 : decode cX12_jobStep 36 = .ok (.aload_n 0, 1) := by decide +kernel
theorem dX12_jobStep_37 : decode cX12_jobStep 37 = .ok (.getfield 41, 3) := by decide +kernel
theorem dX12_jobStep_40 : decode cX12_jobStep 40 = .ok (.iload_n 1, 1) := by decide +kernel
theorem dX12_jobStep_41 : decode cX12_jobStep 41 = .ok (.iaload, 1) := by decide +kernel
theorem dX12_jobStep_42 : decode cX12_jobStep 42 = .ok (.aload_n 0, 1) := by decide +kernel
theorem dX12_jobStep_43 : decode cX12_jobStep 43 = .ok (.getfield 53, 3) := by decide +kernel
theorem dX12_jobStep_46 : decode cX12_jobStep 46 = .ok (.iload_n 1, 1) := by decide +kernel
theorem dX12_jobStep_47 : decode cX12_jobStep 47 = .ok (.iaload, 1) := by decide +kernel
theorem dX12_jobStep_48 : decode cX12_jobStep 48 = .ok (.if_icmp .lt 13, 3) := by decide +kernel
theorem dX12_jobStep_51 : decode cX12_jobStep 51 = .ok (.aload_n 0, 1) := by decide +kernel
theorem dX12_jobStep_52 : decode cX12_jobStep 52 = .ok (.getfield 38, 3) := by decide +kernel
theorem dX12_jobStep_55 : decode cX12_jobStep 55 = .ok (.iload_n 1, 1) := by decide +kernel
theorem dX12_jobStep_56 : decode cX12_jobStep 56 = .ok (.iconst 2, 1) := by decide +kernel
theorem dX12_jobStep_57 : decode cX12_jobStep 57 = .ok (.iastore, 1) := by decide +kernel
theorem dX12_jobStep_58 : decode cX12_jobStep 58 = .ok (.goto 45, 3) := by decide +kernel
theorem dX12_jobStep_61 : decode cX12_jobStep 61 = .ok (.aload_n 0, 1) := by decide +kernel
theorem dX12_jobStep_62 : decode cX12_jobStep 62 = .ok (.getfield 44, 3) := by decide +kernel
theorem dX12_jobStep_65 : decode cX12_jobStep 65 = .ok (.iload_n 1, 1) := by decide +kernel
theorem dX12_jobStep_66 : decode cX12_jobStep 66 = .ok (.iaload, 1) := by decide +kernel
theorem dX12_jobStep_67 : decode cX12_jobStep 67 = .ok (.ifCond .lt 21, 3) := by decide +kernel
theorem dX12_jobStep_70 : decode cX12_jobStep 70 = .ok (.aload_n 0, 1) := by decide +kernel
theorem dX12_jobStep_71 : decode cX12_jobStep 71 = .ok (.getfield 44, 3) := by decide +kernel
theorem dX12_jobStep_74 : decode cX12_jobStep 74 = .ok (.iload_n 1, 1) := by decide +kernel
theorem dX12_jobStep_75 : decode cX12_jobStep 75 = .ok (.iaload, 1) := by decide +kernel
theorem dX12_jobStep_76 : decode cX12_jobStep 76 = .ok (.bipush 16, 2) := by decide +kernel
theorem dX12_jobStep_78 : decode cX12_jobStep 78 = .ok (.aload_n 0, 1) := by decide +kernel
theorem dX12_jobStep_79 : decode cX12_jobStep 79 = .ok (.getfield 56, 3) := by decide +kernel
theorem dX12_jobStep_82 : decode cX12_jobStep 82 = .ok (.iload_n 1, 1) := by decide +kernel
theorem dX12_jobStep_83 : decode cX12_jobStep 83 = .ok (.iaload, 1) := by decide +kernel
theorem dX12_jobStep_84 : decode cX12_jobStep 84 = .ok (.imul, 1) := by decide +kernel
theorem dX12_jobStep_85 : decode cX12_jobStep 85 = .ok (.if_icmp .lt 13, 3) := by decide +kernel
theorem dX12_jobStep_88 : decode cX12_jobStep 88 = .ok (.aload_n 0, 1) := by decide +kernel
theorem dX12_jobStep_89 : decode cX12_jobStep 89 = .ok (.getfield 38, 3) := by decide +kernel
theorem dX12_jobStep_92 : decode cX12_jobStep 92 = .ok (.iload_n 1, 1) := by decide +kernel
theorem dX12_jobStep_93 : decode cX12_jobStep 93 = .ok (.iconst 4, 1) := by decide +kernel
theorem dX12_jobStep_94 : decode cX12_jobStep 94 = .ok (.iastore, 1) := by decide +kernel
theorem dX12_jobStep_95 : decode cX12_jobStep 95 = .ok (.goto 8, 3) := by decide +kernel
theorem dX12_jobStep_98 : decode cX12_jobStep 98 = .ok (.aload_n 0, 1) := by decide +kernel
theorem dX12_jobStep_99 : decode cX12_jobStep 99 = .ok (.iload_n 1, 1) := by decide +kernel
theorem dX12_jobStep_100 : decode cX12_jobStep 100 = .ok (.invokevirtual 204, 3) := by decide +kernel
theorem dX12_jobStep_103 : decode cX12_jobStep 103 = .ok (.return_, 1) := by decide +kernel
theorem dX12_instruction_0 : decode cX12_instruction 0 = .ok (.aload_n 0, 1) := by decide +kernel
theorem dX12_instruction_1 : decode cX12_instruction 1 = .ok (.iload_n 1, 1) := by decide +kernel
theorem dX12_instruction_2 : decode cX12_instruction 2 = .ok (.aload_n 0, 1) := by decide +kernel
theorem dX12_instruction_3 : decode cX12_instruction 3 = .ok (.getfield 44, 3) := by decide +kernel
theorem dX12_instruction_6 : decode cX12_instruction 6 = .ok (.iload_n 1, 1) := by decide +kernel
theorem dX12_instruction_7 : decode cX12_instruction 7 = .ok (.iaload, 1) := by decide +kernel
theorem dX12_instruction_8 : decode cX12_instruction 8 = .ok (.bipush 16, 2) := by decide +kernel
theorem dX12_instruction_10 : decode cX12_instruction 10 = .ok (.idiv, 1) := by decide +kernel
theorem dX12_instruction_11 : decode cX12_instruction 11 = .ok (.invokevirtual 207, 3) := by decide +kernel
theorem dX12_instruction_14 : decode cX12_instruction 14 = .ok (.istore_n 2, 1) := by decide +kernel
theorem dX12_instruction_15 : decode cX12_instruction 15 = .ok (.iload_n 2, 1) := by decide +kernel
theorem dX12_instruction_16 : decode cX12_instruction 16 = .ok (.iconst (-1), 1) := by decide +kernel
theorem dX12_instruction_17 : decode cX12_instruction 17 = .ok (.if_icmp .ne 18, 3) := by decide +kernel
theorem dX12_instruction_20 : decode cX12_instruction 20 = .ok (.aload_n 0, 1) := by decide +kernel
theorem dX12_instruction_21 : decode cX12_instruction 21 = .ok (.iload_n 1, 1) := by decide +kernel
theorem dX12_instruction_22 : decode cX12_instruction 22 = .ok (.aload_n 0, 1) := by decide +kernel
theorem dX12_instruction_23 : decode cX12_instruction 23 = .ok (.getfield 44, 3) := by decide +kernel
theorem dX12_instruction_26 : decode cX12_instruction 26 = .ok (.iload_n 1, 1) := by decide +kernel
theorem dX12_instruction_27 : decode cX12_instruction 27 = .ok (.iaload, 1) := by decide +kernel
theorem dX12_instruction_28 : decode cX12_instruction 28 = .ok (.bipush 16, 2) := by decide +kernel
theorem dX12_instruction_30 : decode cX12_instruction 30 = .ok (.idiv, 1) := by decide +kernel
theorem dX12_instruction_31 : decode cX12_instruction 31 = .ok (.invokevirtual 211, 3) := by decide +kernel
theorem dX12_instruction_34 : decode cX12_instruction 34 = .ok (.return_, 1) := by decide +kernel
theorem dX12_instruction_35 : decode cX12_instruction 35 = .ok (.aload_n 0, 1) := by decide +kernel
theorem dX12_instruction_36 : decode cX12_instruction 36 = .ok (.getfield 101, 3) := by decide +kernel
theorem dX12_instruction_39 : decode cX12_instruction 39 = .ok (.bipush 16, 2) := by decide +kernel
theorem dX12_instruction_41 : decode cX12_instruction 41 = .ok (.iload_n 2, 1) := by decide +kernel
theorem dX12_instruction_42 : decode cX12_instruction 42 = .ok (.imul, 1) := by decide +kernel
theorem dX12_instruction_43 : decode cX12_instruction 43 = .ok (.aload_n 0, 1) := by decide +kernel
theorem dX12_instruction_44 : decode cX12_instruction 44 = .ok (.getfield 44, 3) := by decide +kernel
theorem dX12_instruction_47 : decode cX12_instruction 47 = .ok (.iload_n 1, 1) := by decide +kernel
theorem dX12_instruction_48 : decode cX12_instruction 48 = .ok (.iaload, 1) := by decide +kernel
theorem dX12_instruction_49 : decode cX12_instruction 49 = .ok (.bipush 16, 2) := by decide +kernel
theorem dX12_instruction_51 : decode cX12_instruction 51 = .ok (.irem, 1) := by decide +kernel
theorem dX12_instruction_52 : decode cX12_instruction 52 = .ok (.iadd, 1) := by decide +kernel
theorem dX12_instruction_53 : decode cX12_instruction 53 = .ok (.iaload, 1) := by decide +kernel
theorem dX12_instruction_54 : decode cX12_instruction 54 = .ok (.istore_n 3, 1) := by decide +kernel
theorem dX12_instruction_55 : decode cX12_instruction 55 = .ok (.iload_n 3, 1) := by decide +kernel
theorem dX12_instruction_56 : decode cX12_instruction 56 = .ok (.sipush 256, 3) := by decide +kernel
theorem dX12_instruction_59 : decode cX12_instruction 59 = .ok (.idiv, 1) := by decide +kernel
theorem dX12_instruction_60 : decode cX12_instruction 60 = .ok (.istore 4, 2) := by decide +kernel
theorem dX12_instruction_62 : decode cX12_instruction 62 = .ok (.iload_n 3, 1) := by decide +kernel
theorem dX12_instruction_63 : decode cX12_instruction 63 = .ok (.ifCond .lt 10, 3) := by decide +kernel
theorem dX12_instruction_66 : decode cX12_instruction 66 = .ok (.iload 4, 2) := by decide +kernel
theorem dX12_instruction_68 : decode cX12_instruction 68 = .ok (.bipush 19, 2) := by decide +kernel
theorem dX12_instruction_70 : decode cX12_instruction 70 = .ok (.if_icmp .le 21, 3) := by decide +kernel
theorem dX12_instruction_73 : decode cX12_instruction 73 = .ok (.aload_n 0, 1) := by decide +kernel
theorem dX12_instruction_74 : decode cX12_instruction 74 = .ok (.getfield 110, 3) := by decide +kernel
theorem dX12_instruction_77 : decode cX12_instruction 77 = .ok (.iload_n 2, 1) := by decide +kernel
theorem dX12_instruction_78 : decode cX12_instruction 78 = .ok (.aload_n 0, 1) := by decide +kernel
theorem dX12_instruction_79 : decode cX12_instruction 79 = .ok (.getfield 167, 3) := by decide +kernel
theorem dX12_instruction_82 : decode cX12_instruction 82 = .ok (.iastore, 1) := by decide +kernel
theorem dX12_instruction_83 : decode cX12_instruction 83 = .ok (.aload_n 0, 1) := by decide +kernel
theorem dX12_instruction_84 : decode cX12_instruction 84 = .ok (.getfield 38, 3) := by decide +kernel
theorem dX12_instruction_87 : decode cX12_instruction 87 = .ok (.iload_n 1, 1) := by decide +kernel
theorem dX12_instruction_88 : decode cX12_instruction 88 = .ok (.iconst 4, 1) := by decide +kernel
theorem dX12_instruction_89 : decode cX12_instruction 89 = .ok (.iastore, 1) := by decide +kernel
theorem dX12_instruction_90 : decode cX12_instruction 90 = .ok (.return_, 1) := by decide +kernel
theorem dX12_instruction_91 : decode cX12_instruction 91 = .ok (.iload 4, 2) := by decide +kernel
theorem dX12_instruction_93 : decode cX12_instruction 93 = .ok (.bipush 11, 2) := by decide +kernel
theorem dX12_instruction_95 : decode cX12_instruction 95 = .ok (.if_icmp .eq 10, 3) := by decide +kernel
theorem dX12_instruction_98 : decode cX12_instruction 98 = .ok (.iload 4, 2) := by decide +kernel
theorem dX12_instruction_100 : decode cX12_instruction 100 = .ok (.bipush 12, 2) := by decide +kernel
theorem dX12_instruction_102 : decode cX12_instruction 102 = .ok (.if_icmp .ne 7, 3) := by decide +kernel
theorem dX12_instruction_105 : decode cX12_instruction 105 = .ok (.iconst 1, 1) := by decide +kernel
theorem dX12_instruction_106 : decode cX12_instruction 106 = .ok (.goto 4, 3) := by decide +kernel
theorem dX12_instruction_109 : decode cX12_instruction 109 = .ok (.iconst 0, 1) := by decide +kernel
theorem dX12_instruction_110 : decode cX12_instruction 110 = .ok (.istore 5, 2) := by decide +kernel
theorem dX12_instruction_112 : decode cX12_instruction 112 = .ok (.iload 4, 2) := by decide +kernel
theorem dX12_instruction_114 : decode cX12_instruction 114 = .ok (.iconst 1, 1) := by decide +kernel
theorem dX12_instruction_115 : decode cX12_instruction 115 = .ok (.if_icmp .lt 10, 3) := by decide +kernel
theorem dX12_instruction_118 : decode cX12_instruction 118 = .ok (.iload 4, 2) := by decide +kernel
theorem dX12_instruction_120 : decode cX12_instruction 120 = .ok (.bipush 6, 2) := by decide +kernel
theorem dX12_instruction_122 : decode cX12_instruction 122 = .ok (.if_icmp .le 15, 3) := by decide +kernel
theorem dX12_instruction_125 : decode cX12_instruction 125 = .ok (.iload 4, 2) := by decide +kernel
theorem dX12_instruction_127 : decode cX12_instruction 127 = .ok (.bipush 10, 2) := by decide +kernel
theorem dX12_instruction_129 : decode cX12_instruction 129 = .ok (.if_icmp .eq 8, 3) := by decide +kernel
theorem dX12_instruction_132 : decode cX12_instruction 132 = .ok (.iload 5, 2) := by decide +kernel
theorem dX12_instruction_134 : decode cX12_instruction 134 = .ok (.ifCond .eq 144, 3) := by decide +kernel
theorem dX12_instruction_137 : decode cX12_instruction 137 = .ok (.iload_n 3, 1) := by decide +kernel
theorem dX12_instruction_138 : decode cX12_instruction 138 = .ok (.sipush 256, 3) := by decide +kernel
theorem dX12_instruction_141 : decode cX12_instruction 141 = .ok (.irem, 1) := by decide +kernel
theorem dX12_instruction_142 : decode cX12_instruction 142 = .ok (.i2l, 1) := by decide +kernel
theorem dX12_instruction_143 : decode cX12_instruction 143 = .ok (.iload 5, 2) := by decide +kernel
theorem dX12_instruction_145 : decode cX12_instruction 145 = .ok (.ifCond .eq 13, 3) := by decide +kernel
theorem dX12_instruction_148 : decode cX12_instruction 148 = .ok (.aload_n 0, 1) := by decide +kernel
theorem dX12_instruction_149 : decode cX12_instruction 149 = .ok (.getfield 50, 3) := by decide +kernel
theorem dX12_instruction_152 : decode cX12_instruction 152 = .ok (.iload_n 1, 1) := by decide +kernel
theorem dX12_instruction_153 : decode cX12_instruction 153 = .ok (.iaload, 1) := by decide +kernel
theorem dX12_instruction_154 : decode cX12_instruction 154 = .ok (.i2l, 1) := by decide +kernel
theorem dX12_instruction_155 : decode cX12_instruction 155 = .ok (.goto 4, 3) := by decide +kernel
theorem dX12_instruction_158 : decode cX12_instruction 158 = .ok (.lconst 0, 1) := by decide +kernel
theorem dX12_instruction_159 : decode cX12_instruction 159 = .ok (.ladd, 1) := by decide +kernel
theorem dX12_instruction_160 : decode cX12_instruction 160 = .ok (.lstore 6, 2) := by decide +kernel
theorem dX12_instruction_162 : decode cX12_instruction 162 = .ok (.lload 6, 2) := by decide +kernel
theorem dX12_instruction_164 : decode cX12_instruction 164 = .ok (.lconst 0, 1) := by decide +kernel
theorem dX12_instruction_165 : decode cX12_instruction 165 = .ok (.lcmp, 1) := by decide +kernel
theorem dX12_instruction_166 : decode cX12_instruction 166 = .ok (.ifCond .lt 20, 3) := by decide +kernel
theorem dX12_instruction_169 : decode cX12_instruction 169 = .ok (.lload 6, 2) := by decide +kernel
theorem dX12_instruction_171 : decode cX12_instruction 171 = .ok (.ldc2_w 214, 3) := by decide +kernel
theorem dX12_instruction_174 : decode cX12_instruction 174 = .ok (.aload_n 0, 1) := by decide +kernel
theorem dX12_instruction_175 : decode cX12_instruction 175 = .ok (.getfield 56, 3) := by decide +kernel
theorem dX12_instruction_178 : decode cX12_instruction 178 = .ok (.iload_n 1, 1) := by decide +kernel
theorem dX12_instruction_179 : decode cX12_instruction 179 = .ok (.iaload, 1) := by decide +kernel
theorem dX12_instruction_180 : decode cX12_instruction 180 = .ok (.i2l, 1) := by decide +kernel
theorem dX12_instruction_181 : decode cX12_instruction 181 = .ok (.lmul, 1) := by decide +kernel
theorem dX12_instruction_182 : decode cX12_instruction 182 = .ok (.lcmp, 1) := by decide +kernel
theorem dX12_instruction_183 : decode cX12_instruction 183 = .ok (.ifCond .lt 21, 3) := by decide +kernel
theorem dX12_instruction_186 : decode cX12_instruction 186 = .ok (.aload_n 0, 1) := by decide +kernel
theorem dX12_instruction_187 : decode cX12_instruction 187 = .ok (.getfield 110, 3) := by decide +kernel
theorem dX12_instruction_190 : decode cX12_instruction 190 = .ok (.iload_n 2, 1) := by decide +kernel
theorem dX12_instruction_191 : decode cX12_instruction 191 = .ok (.aload_n 0, 1) := by decide +kernel
theorem dX12_instruction_192 : decode cX12_instruction 192 = .ok (.getfield 167, 3) := by decide +kernel
theorem dX12_instruction_195 : decode cX12_instruction 195 = .ok (.iastore, 1) := by decide +kernel
theorem dX12_instruction_196 : decode cX12_instruction 196 = .ok (.aload_n 0, 1) := by decide +kernel
theorem dX12_instruction_197 : decode cX12_instruction 197 = .ok (.getfield 38, 3) := by decide +kernel
theorem dX12_instruction_200 : decode cX12_instruction 200 = .ok (.iload_n 1, 1) := by decide +kernel
theorem dX12_instruction_201 : decode cX12_instruction 201 = .ok (.iconst 4, 1) := by decide +kernel
theorem dX12_instruction_202 : decode cX12_instruction 202 = .ok (.iastore, 1) := by decide +kernel
theorem dX12_instruction_203 : decode cX12_instruction 203 = .ok (.return_, 1) := by decide +kernel
theorem dX12_instruction_204 : decode cX12_instruction 204 = .ok (.aload_n 0, 1) := by decide +kernel
theorem dX12_instruction_205 : decode cX12_instruction 205 = .ok (.iload_n 1, 1) := by decide +kernel
theorem dX12_instruction_206 : decode cX12_instruction 206 = .ok (.lload 6, 2) := by decide +kernel
theorem dX12_instruction_208 : decode cX12_instruction 208 = .ok (.l2i, 1) := by decide +kernel
theorem dX12_instruction_209 : decode cX12_instruction 209 = .ok (.bipush 16, 2) := by decide +kernel
theorem dX12_instruction_211 : decode cX12_instruction 211 = .ok (.idiv, 1) := by decide +kernel
theorem dX12_instruction_212 : decode cX12_instruction 212 = .ok (.invokevirtual 207, 3) := by decide +kernel
theorem dX12_instruction_215 : decode cX12_instruction 215 = .ok (.istore 8, 2) := by decide +kernel
theorem dX12_instruction_217 : decode cX12_instruction 217 = .ok (.iload 8, 2) := by decide +kernel
theorem dX12_instruction_219 : decode cX12_instruction 219 = .ok (.iconst (-1), 1) := by decide +kernel
theorem dX12_instruction_220 : decode cX12_instruction 220 = .ok (.if_icmp .ne 15, 3) := by decide +kernel
theorem dX12_instruction_223 : decode cX12_instruction 223 = .ok (.aload_n 0, 1) := by decide +kernel
theorem dX12_instruction_224 : decode cX12_instruction 224 = .ok (.iload_n 1, 1) := by decide +kernel
theorem dX12_instruction_225 : decode cX12_instruction 225 = .ok (.lload 6, 2) := by decide +kernel
theorem dX12_instruction_227 : decode cX12_instruction 227 = .ok (.l2i, 1) := by decide +kernel
theorem dX12_instruction_228 : decode cX12_instruction 228 = .ok (.bipush 16, 2) := by decide +kernel
theorem dX12_instruction_230 : decode cX12_instruction 230 = .ok (.idiv, 1) := by decide +kernel
theorem dX12_instruction_231 : decode cX12_instruction 231 = .ok (.invokevirtual 211, 3) := by decide +kernel
theorem dX12_instruction_234 : decode cX12_instruction 234 = .ok (.return_, 1) := by decide +kernel
theorem dX12_instruction_235 : decode cX12_instruction 235 = .ok (.aload_n 0, 1) := by decide +kernel
theorem dX12_instruction_236 : decode cX12_instruction 236 = .ok (.getfield 110, 3) := by decide +kernel
theorem dX12_instruction_239 : decode cX12_instruction 239 = .ok (.iload_n 2, 1) := by decide +kernel
theorem dX12_instruction_240 : decode cX12_instruction 240 = .ok (.aload_n 0, 1) := by decide +kernel
theorem dX12_instruction_241 : decode cX12_instruction 241 = .ok (.getfield 167, 3) := by decide +kernel
theorem dX12_instruction_244 : decode cX12_instruction 244 = .ok (.iastore, 1) := by decide +kernel
theorem dX12_instruction_245 : decode cX12_instruction 245 = .ok (.aload_n 0, 1) := by decide +kernel
theorem dX12_instruction_246 : decode cX12_instruction 246 = .ok (.getfield 110, 3) := by decide +kernel
theorem dX12_instruction_249 : decode cX12_instruction 249 = .ok (.iload 8, 2) := by decide +kernel
theorem dX12_instruction_251 : decode cX12_instruction 251 = .ok (.aload_n 0, 1) := by decide +kernel
theorem dX12_instruction_252 : decode cX12_instruction 252 = .ok (.getfield 167, 3) := by decide +kernel
theorem dX12_instruction_255 : decode cX12_instruction 255 = .ok (.iastore, 1) := by decide +kernel
theorem dX12_instruction_256 : decode cX12_instruction 256 = .ok (.aload_n 0, 1) := by decide +kernel
theorem dX12_instruction_257 : decode cX12_instruction 257 = .ok (.iload_n 1, 1) := by decide +kernel
theorem dX12_instruction_258 : decode cX12_instruction 258 = .ok (.iload 4, 2) := by decide +kernel
theorem dX12_instruction_260 : decode cX12_instruction 260 = .ok (.iload 8, 2) := by decide +kernel
theorem dX12_instruction_262 : decode cX12_instruction 262 = .ok (.bipush 16, 2) := by decide +kernel
theorem dX12_instruction_264 : decode cX12_instruction 264 = .ok (.iload 8, 2) := by decide +kernel
theorem dX12_instruction_266 : decode cX12_instruction 266 = .ok (.imul, 1) := by decide +kernel
theorem dX12_instruction_267 : decode cX12_instruction 267 = .ok (.lload 6, 2) := by decide +kernel
theorem dX12_instruction_269 : decode cX12_instruction 269 = .ok (.l2i, 1) := by decide +kernel
theorem dX12_instruction_270 : decode cX12_instruction 270 = .ok (.bipush 16, 2) := by decide +kernel
theorem dX12_instruction_272 : decode cX12_instruction 272 = .ok (.irem, 1) := by decide +kernel
theorem dX12_instruction_273 : decode cX12_instruction 273 = .ok (.iadd, 1) := by decide +kernel
theorem dX12_instruction_274 : decode cX12_instruction 274 = .ok (.invokevirtual 216, 3) := by decide +kernel
theorem dX12_instruction_277 : decode cX12_instruction 277 = .ok (.return_, 1) := by decide +kernel
theorem dX12_instruction_278 : decode cX12_instruction 278 = .ok (.aload_n 0, 1) := by decide +kernel
theorem dX12_instruction_279 : decode cX12_instruction 279 = .ok (.getfield 110, 3) := by decide +kernel
theorem dX12_instruction_282 : decode cX12_instruction 282 = .ok (.iload_n 2, 1) := by decide +kernel
theorem dX12_instruction_283 : decode cX12_instruction 283 = .ok (.aload_n 0, 1) := by decide +kernel
theorem dX12_instruction_284 : decode cX12_instruction 284 = .ok (.getfield 167, 3) := by decide +kernel
theorem dX12_instruction_287 : decode cX12_instruction 287 = .ok (.iastore, 1) := by decide +kernel
theorem dX12_instruction_288 : decode cX12_instruction 288 = .ok (.aload_n 0, 1) := by decide +kernel
theorem dX12_instruction_289 : decode cX12_instruction 289 = .ok (.iload_n 1, 1) := by decide +kernel
theorem dX12_instruction_290 : decode cX12_instruction 290 = .ok (.iload 4, 2) := by decide +kernel
theorem dX12_instruction_292 : decode cX12_instruction 292 = .ok (.iload_n 3, 1) := by decide +kernel
theorem dX12_instruction_293 : decode cX12_instruction 293 = .ok (.sipush 256, 3) := by decide +kernel
theorem dX12_instruction_296 : decode cX12_instruction 296 = .ok (.irem, 1) := by decide +kernel
theorem dX12_instruction_297 : decode cX12_instruction 297 = .ok (.invokevirtual 220, 3) := by decide +kernel
theorem dX12_instruction_300 : decode cX12_instruction 300 = .ok (.return_, 1) := by decide +kernel
theorem dX12_withWord_0 : decode cX12_withWord 0 = .ok (.aload_n 0, 1) := by decide +kernel
theorem dX12_withWord_1 : decode cX12_withWord 1 = .ok (.getfield 101, 3) := by decide +kernel
theorem dX12_withWord_4 : decode cX12_withWord 4 = .ok (.iload 4, 2) := by decide +kernel
theorem dX12_withWord_6 : decode cX12_withWord 6 = .ok (.iaload, 1) := by decide +kernel
theorem dX12_withWord_7 : decode cX12_withWord 7 = .ok (.istore 5, 2) := by decide +kernel
theorem dX12_withWord_9 : decode cX12_withWord 9 = .ok (.iload_n 2, 1) := by decide +kernel
theorem dX12_withWord_10 : decode cX12_withWord 10 = .ok (.bipush 6, 2) := by decide +kernel
theorem dX12_withWord_12 : decode cX12_withWord 12 = .ok (.if_icmp .ne 16, 3) := by decide +kernel
theorem dX12_withWord_15 : decode cX12_withWord 15 = .ok (.iload 5, 2) := by decide +kernel
theorem dX12_withWord_17 : decode cX12_withWord 17 = .ok (.ifCond .ne 11, 3) := by decide +kernel
theorem dX12_withWord_20 : decode cX12_withWord 20 = .ok (.aload_n 0, 1) := by decide +kernel
theorem dX12_withWord_21 : decode cX12_withWord 21 = .ok (.getfield 38, 3) := by decide +kernel
theorem dX12_withWord_24 : decode cX12_withWord 24 = .ok (.iload_n 1, 1) := by decide +kernel
theorem dX12_withWord_25 : decode cX12_withWord 25 = .ok (.iconst 4, 1) := by decide +kernel
theorem dX12_withWord_26 : decode cX12_withWord 26 = .ok (.iastore, 1) := by decide +kernel
theorem dX12_withWord_27 : decode cX12_withWord 27 = .ok (.return_, 1) := by decide +kernel
theorem dX12_withWord_28 : decode cX12_withWord 28 = .ok (.iload_n 2, 1) := by decide +kernel
theorem dX12_withWord_29 : decode cX12_withWord 29 = .ok (.iconst 2, 1) := by decide +kernel
theorem dX12_withWord_30 : decode cX12_withWord 30 = .ok (.if_icmp .eq 9, 3) := by decide +kernel
theorem dX12_withWord_33 : decode cX12_withWord 33 = .ok (.iload_n 2, 1) := by decide +kernel
theorem dX12_withWord_34 : decode cX12_withWord 34 = .ok (.bipush 12, 2) := by decide +kernel
theorem dX12_withWord_36 : decode cX12_withWord 36 = .ok (.if_icmp .ne 23, 3) := by decide +kernel
theorem dX12_withWord_39 : decode cX12_withWord 39 = .ok (.aload_n 0, 1) := by decide +kernel
theorem dX12_withWord_40 : decode cX12_withWord 40 = .ok (.getfield 101, 3) := by decide +kernel
theorem dX12_withWord_43 : decode cX12_withWord 43 = .ok (.iload 4, 2) := by decide +kernel
theorem dX12_withWord_45 : decode cX12_withWord 45 = .ok (.aload_n 0, 1) := by decide +kernel
theorem dX12_withWord_46 : decode cX12_withWord 46 = .ok (.getfield 47, 3) := by decide +kernel
theorem dX12_withWord_49 : decode cX12_withWord 49 = .ok (.iload_n 1, 1) := by decide +kernel
theorem dX12_withWord_50 : decode cX12_withWord 50 = .ok (.iaload, 1) := by decide +kernel
theorem dX12_withWord_51 : decode cX12_withWord 51 = .ok (.iastore, 1) := by decide +kernel
theorem dX12_withWord_52 : decode cX12_withWord 52 = .ok (.aload_n 0, 1) := by decide +kernel
theorem dX12_withWord_53 : decode cX12_withWord 53 = .ok (.getfield 113, 3) := by decide +kernel
theorem dX12_withWord_56 : decode cX12_withWord 56 = .ok (.iload_n 3, 1) := by decide +kernel
theorem dX12_withWord_57 : decode cX12_withWord 57 = .ok (.iconst 1, 1) := by decide +kernel
theorem dX12_withWord_58 : decode cX12_withWord 58 = .ok (.bastore, 1) := by decide +kernel
theorem dX12_withWord_59 : decode cX12_withWord 59 = .ok (.iload_n 2, 1) := by decide +kernel
theorem dX12_withWord_60 : decode cX12_withWord 60 = .ok (.iconst 1, 1) := by decide +kernel
theorem dX12_withWord_61 : decode cX12_withWord 61 = .ok (.if_icmp .eq 9, 3) := by decide +kernel
theorem dX12_withWord_64 : decode cX12_withWord 64 = .ok (.iload_n 2, 1) := by decide +kernel
theorem dX12_withWord_65 : decode cX12_withWord 65 = .ok (.bipush 11, 2) := by decide +kernel
theorem dX12_withWord_67 : decode cX12_withWord 67 = .ok (.if_icmp .ne 11, 3) := by decide +kernel
theorem dX12_withWord_70 : decode cX12_withWord 70 = .ok (.aload_n 0, 1) := by decide +kernel
theorem dX12_withWord_71 : decode cX12_withWord 71 = .ok (.getfield 47, 3) := by decide +kernel
theorem dX12_withWord_74 : decode cX12_withWord 74 = .ok (.iload_n 1, 1) := by decide +kernel
theorem dX12_withWord_75 : decode cX12_withWord 75 = .ok (.iload 5, 2) := by decide +kernel
theorem dX12_withWord_77 : decode cX12_withWord 77 = .ok (.iastore, 1) := by decide +kernel
theorem dX12_withWord_78 : decode cX12_withWord 78 = .ok (.iload_n 2, 1) := by decide +kernel
theorem dX12_withWord_79 : decode cX12_withWord 79 = .ok (.iconst 3, 1) := by decide +kernel
theorem dX12_withWord_80 : decode cX12_withWord 80 = .ok (.if_icmp .ne 18, 3) := by decide +kernel
theorem dX12_withWord_83 : decode cX12_withWord 83 = .ok (.aload_n 0, 1) := by decide +kernel
theorem dX12_withWord_84 : decode cX12_withWord 84 = .ok (.getfield 47, 3) := by decide +kernel
theorem dX12_withWord_87 : decode cX12_withWord 87 = .ok (.iload_n 1, 1) := by decide +kernel
theorem dX12_withWord_88 : decode cX12_withWord 88 = .ok (.aload_n 0, 1) := by decide +kernel
theorem dX12_withWord_89 : decode cX12_withWord 89 = .ok (.getfield 47, 3) := by decide +kernel
theorem dX12_withWord_92 : decode cX12_withWord 92 = .ok (.iload_n 1, 1) := by decide +kernel
theorem dX12_withWord_93 : decode cX12_withWord 93 = .ok (.iaload, 1) := by decide +kernel
theorem dX12_withWord_94 : decode cX12_withWord 94 = .ok (.iload 5, 2) := by decide +kernel
theorem dX12_withWord_96 : decode cX12_withWord 96 = .ok (.iadd, 1) := by decide +kernel
theorem dX12_withWord_97 : decode cX12_withWord 97 = .ok (.iastore, 1) := by decide +kernel
theorem dX12_withWord_98 : decode cX12_withWord 98 = .ok (.iload_n 2, 1) := by decide +kernel
theorem dX12_withWord_99 : decode cX12_withWord 99 = .ok (.iconst 4, 1) := by decide +kernel
theorem dX12_withWord_100 : decode cX12_withWord 100 = .ok (.if_icmp .ne 18, 3) := by decide +kernel
theorem dX12_withWord_103 : decode cX12_withWord 103 = .ok (.aload_n 0, 1) := by decide +kernel
theorem dX12_withWord_104 : decode cX12_withWord 104 = .ok (.getfield 47, 3) := by decide +kernel
theorem dX12_withWord_107 : decode cX12_withWord 107 = .ok (.iload_n 1, 1) := by decide +kernel
theorem dX12_withWord_108 : decode cX12_withWord 108 = .ok (.aload_n 0, 1) := by decide +kernel
theorem dX12_withWord_109 : decode cX12_withWord 109 = .ok (.getfield 47, 3) := by decide +kernel
theorem dX12_withWord_112 : decode cX12_withWord 112 = .ok (.iload_n 1, 1) := by decide +kernel
theorem dX12_withWord_113 : decode cX12_withWord 113 = .ok (.iaload, 1) := by decide +kernel
theorem dX12_withWord_114 : decode cX12_withWord 114 = .ok (.iload 5, 2) := by decide +kernel
theorem dX12_withWord_116 : decode cX12_withWord 116 = .ok (.isub, 1) := by decide +kernel
theorem dX12_withWord_117 : decode cX12_withWord 117 = .ok (.iastore, 1) := by decide +kernel
theorem dX12_withWord_118 : decode cX12_withWord 118 = .ok (.iload_n 2, 1) := by decide +kernel
theorem dX12_withWord_119 : decode cX12_withWord 119 = .ok (.iconst 5, 1) := by decide +kernel
theorem dX12_withWord_120 : decode cX12_withWord 120 = .ok (.if_icmp .ne 18, 3) := by decide +kernel
theorem dX12_withWord_123 : decode cX12_withWord 123 = .ok (.aload_n 0, 1) := by decide +kernel
theorem dX12_withWord_124 : decode cX12_withWord 124 = .ok (.getfield 47, 3) := by decide +kernel
theorem dX12_withWord_127 : decode cX12_withWord 127 = .ok (.iload_n 1, 1) := by decide +kernel
theorem dX12_withWord_128 : decode cX12_withWord 128 = .ok (.aload_n 0, 1) := by decide +kernel
theorem dX12_withWord_129 : decode cX12_withWord 129 = .ok (.getfield 47, 3) := by decide +kernel
theorem dX12_withWord_132 : decode cX12_withWord 132 = .ok (.iload_n 1, 1) := by decide +kernel
theorem dX12_withWord_133 : decode cX12_withWord 133 = .ok (.iaload, 1) := by decide +kernel
theorem dX12_withWord_134 : decode cX12_withWord 134 = .ok (.iload 5, 2) := by decide +kernel
theorem dX12_withWord_136 : decode cX12_withWord 136 = .ok (.imul, 1) := by decide +kernel
theorem dX12_withWord_137 : decode cX12_withWord 137 = .ok (.iastore, 1) := by decide +kernel
theorem dX12_withWord_138 : decode cX12_withWord 138 = .ok (.iload_n 2, 1) := by decide +kernel
theorem dX12_withWord_139 : decode cX12_withWord 139 = .ok (.bipush 6, 2) := by decide +kernel
theorem dX12_withWord_141 : decode cX12_withWord 141 = .ok (.if_icmp .ne 18, 3) := by decide +kernel
theorem dX12_withWord_144 : decode cX12_withWord 144 = .ok (.aload_n 0, 1) := by decide +kernel
theorem dX12_withWord_145 : decode cX12_withWord 145 = .ok (.getfield 47, 3) := by decide +kernel
theorem dX12_withWord_148 : decode cX12_withWord 148 = .ok (.iload_n 1, 1) := by decide +kernel
theorem dX12_withWord_149 : decode cX12_withWord 149 = .ok (.aload_n 0, 1) := by decide +kernel
theorem dX12_withWord_150 : decode cX12_withWord 150 = .ok (.getfield 47, 3) := by decide +kernel
theorem dX12_withWord_153 : decode cX12_withWord 153 = .ok (.iload_n 1, 1) := by decide +kernel
theorem dX12_withWord_154 : decode cX12_withWord 154 = .ok (.iaload, 1) := by decide +kernel
theorem dX12_withWord_155 : decode cX12_withWord 155 = .ok (.iload 5, 2) := by decide +kernel
theorem dX12_withWord_157 : decode cX12_withWord 157 = .ok (.idiv, 1) := by decide +kernel
theorem dX12_withWord_158 : decode cX12_withWord 158 = .ok (.iastore, 1) := by decide +kernel
theorem dX12_withWord_159 : decode cX12_withWord 159 = .ok (.iload_n 2, 1) := by decide +kernel
theorem dX12_withWord_160 : decode cX12_withWord 160 = .ok (.bipush 10, 2) := by decide +kernel
theorem dX12_withWord_162 : decode cX12_withWord 162 = .ok (.if_icmp .ne 11, 3) := by decide +kernel
theorem dX12_withWord_165 : decode cX12_withWord 165 = .ok (.aload_n 0, 1) := by decide +kernel
theorem dX12_withWord_166 : decode cX12_withWord 166 = .ok (.getfield 50, 3) := by decide +kernel
theorem dX12_withWord_169 : decode cX12_withWord 169 = .ok (.iload_n 1, 1) := by decide +kernel
theorem dX12_withWord_170 : decode cX12_withWord 170 = .ok (.iload 5, 2) := by decide +kernel
theorem dX12_withWord_172 : decode cX12_withWord 172 = .ok (.iastore, 1) := by decide +kernel
theorem dX12_withWord_173 : decode cX12_withWord 173 = .ok (.aload_n 0, 1) := by decide +kernel
theorem dX12_withWord_174 : decode cX12_withWord 174 = .ok (.iload_n 1, 1) := by decide +kernel
theorem dX12_withWord_175 : decode cX12_withWord 175 = .ok (.invokevirtual 224, 3) := by decide +kernel
theorem dX12_withWord_178 : decode cX12_withWord 178 = .ok (.return_, 1) := by decide +kernel
theorem dX12_without_0 : decode cX12_without 0 = .ok (.iload_n 2, 1) := by decide +kernel
theorem dX12_without_1 : decode cX12_without 1 = .ok (.tableswitch 256 0 18 #[91, 256, 256, 256, 256, 256, 256, 106, 106, 106, 256, 256, 256, 178, 186, 194, 223, 232, 241], 91) := by decide +kernel
theorem dX12_without_92 : decode cX12_without 92 = .ok (.aload_n 0, 1) := by decide +kernel
theorem dX12_without_93 : decode cX12_without 93 = .ok (.iload_n 1, 1) := by decide +kernel
theorem dX12_without_94 : decode cX12_without 94 = .ok (.invokevirtual 224, 3) := by decide +kernel
theorem dX12_without_97 : decode cX12_without 97 = .ok (.aload_n 0, 1) := by decide +kernel
theorem dX12_without_98 : decode cX12_without 98 = .ok (.getfield 38, 3) := by decide +kernel
theorem dX12_without_101 : decode cX12_without 101 = .ok (.iload_n 1, 1) := by decide +kernel
theorem dX12_without_102 : decode cX12_without 102 = .ok (.iconst 1, 1) := by decide +kernel
theorem dX12_without_103 : decode cX12_without 103 = .ok (.iastore, 1) := by decide +kernel
theorem dX12_without_104 : decode cX12_without 104 = .ok (.goto 170, 3) := by decide +kernel
theorem dX12_without_107 : decode cX12_without 107 = .ok (.iload_n 2, 1) := by decide +kernel
theorem dX12_without_108 : decode cX12_without 108 = .ok (.bipush 7, 2) := by decide +kernel
theorem dX12_without_110 : decode cX12_without 110 = .ok (.if_icmp .eq 33, 3) := by decide +kernel
theorem dX12_without_113 : decode cX12_without 113 = .ok (.iload_n 2, 1) := by decide +kernel
theorem dX12_without_114 : decode cX12_without 114 = .ok (.bipush 8, 2) := by decide +kernel
theorem dX12_without_116 : decode cX12_without 116 = .ok (.if_icmp .ne 12, 3) := by decide +kernel
theorem dX12_without_119 : decode cX12_without 119 = .ok (.aload_n 0, 1) := by decide +kernel
theorem dX12_without_120 : decode cX12_without 120 = .ok (.getfield 47, 3) := by decide +kernel
theorem dX12_without_123 : decode cX12_without 123 = .ok (.iload_n 1, 1) := by decide +kernel
theorem dX12_without_124 : decode cX12_without 124 = .ok (.iaload, 1) := by decide +kernel
theorem dX12_without_125 : decode cX12_without 125 = .ok (.ifCond .lt 18, 3) := by decide +kernel
theorem dX12_without_128 : decode cX12_without 128 = .ok (.iload_n 2, 1) := by decide +kernel
theorem dX12_without_129 : decode cX12_without 129 = .ok (.bipush 9, 2) := by decide +kernel
theorem dX12_without_131 : decode cX12_without 131 = .ok (.if_icmp .ne 16, 3) := by decide +kernel
theorem dX12_without_134 : decode cX12_without 134 = .ok (.aload_n 0, 1) := by decide +kernel
theorem dX12_without_135 : decode cX12_without 135 = .ok (.getfield 47, 3) := by decide +kernel
theorem dX12_without_138 : decode cX12_without 138 = .ok (.iload_n 1, 1) := by decide +kernel
theorem dX12_without_139 : decode cX12_without 139 = .ok (.iaload, 1) := by decide +kernel
theorem dX12_without_140 : decode cX12_without 140 = .ok (.ifCond .ne 7, 3) := by decide +kernel
theorem dX12_without_143 : decode cX12_without 143 = .ok (.iconst 1, 1) := by decide +kernel
theorem dX12_without_144 : decode cX12_without 144 = .ok (.goto 4, 3) := by decide +kernel
theorem dX12_without_147 : decode cX12_without 147 = .ok (.iconst 0, 1) := by decide +kernel
theorem dX12_without_148 : decode cX12_without 148 = .ok (.istore 4, 2) := by decide +kernel
theorem dX12_without_150 : decode cX12_without 150 = .ok (.aload_n 0, 1) := by decide +kernel
theorem dX12_without_151 : decode cX12_without 151 = .ok (.iload_n 1, 1) := by decide +kernel
theorem dX12_without_152 : decode cX12_without 152 = .ok (.invokevirtual 224, 3) := by decide +kernel
theorem dX12_without_155 : decode cX12_without 155 = .ok (.aload_n 0, 1) := by decide +kernel
theorem dX12_without_156 : decode cX12_without 156 = .ok (.getfield 44, 3) := by decide +kernel
theorem dX12_without_159 : decode cX12_without 159 = .ok (.iload_n 1, 1) := by decide +kernel
theorem dX12_without_160 : decode cX12_without 160 = .ok (.iload 4, 2) := by decide +kernel
theorem dX12_without_162 : decode cX12_without 162 = .ok (.ifCond .eq 7, 3) := by decide +kernel
theorem dX12_without_165 : decode cX12_without 165 = .ok (.iload_n 3, 1) := by decide +kernel
theorem dX12_without_166 : decode cX12_without 166 = .ok (.goto 9, 3) := by decide +kernel
theorem dX12_without_169 : decode cX12_without 169 = .ok (.aload_n 0, 1) := by decide +kernel
theorem dX12_without_170 : decode cX12_without 170 = .ok (.getfield 44, 3) := by decide +kernel
theorem dX12_without_173 : decode cX12_without 173 = .ok (.iload_n 1, 1) := by decide +kernel
theorem dX12_without_174 : decode cX12_without 174 = .ok (.iaload, 1) := by decide +kernel
theorem dX12_without_175 : decode cX12_without 175 = .ok (.iastore, 1) := by decide +kernel
theorem dX12_without_176 : decode cX12_without 176 = .ok (.goto 98, 3) := by decide +kernel
theorem dX12_without_179 : decode cX12_without 179 = .ok (.aload_n 0, 1) := by decide +kernel
theorem dX12_without_180 : decode cX12_without 180 = .ok (.iload_n 1, 1) := by decide +kernel
theorem dX12_without_181 : decode cX12_without 181 = .ok (.invokevirtual 227, 3) := by decide +kernel
theorem dX12_without_184 : decode cX12_without 184 = .ok (.goto 90, 3) := by decide +kernel
theorem dX12_without_187 : decode cX12_without 187 = .ok (.aload_n 0, 1) := by decide +kernel
theorem dX12_without_188 : decode cX12_without 188 = .ok (.iload_n 1, 1) := by decide +kernel
theorem dX12_without_189 : decode cX12_without 189 = .ok (.invokevirtual 230, 3) := by decide +kernel
theorem dX12_without_192 : decode cX12_without 192 = .ok (.goto 82, 3) := by decide +kernel
theorem dX12_without_195 : decode cX12_without 195 = .ok (.aload_n 0, 1) := by decide +kernel
theorem dX12_without_196 : decode cX12_without 196 = .ok (.bipush 48, 2) := by decide +kernel
theorem dX12_without_198 : decode cX12_without 198 = .ok (.iload_n 1, 1) := by decide +kernel
theorem dX12_without_199 : decode cX12_without 199 = .ok (.iadd, 1) := by decide +kernel
theorem dX12_without_200 : decode cX12_without 200 = .ok (.invokevirtual 233, 3) := by decide +kernel
theorem dX12_without_203 : decode cX12_without 203 = .ok (.aload_n 0, 1) := by decide +kernel
theorem dX12_without_204 : decode cX12_without 204 = .ok (.bipush 63, 2) := by decide +kernel
theorem dX12_without_206 : decode cX12_without 206 = .ok (.invokevirtual 233, 3) := by decide +kernel
theorem dX12_without_209 : decode cX12_without 209 = .ok (.aload_n 0, 1) := by decide +kernel
theorem dX12_without_210 : decode cX12_without 210 = .ok (.bipush 10, 2) := by decide +kernel
theorem dX12_without_212 : decode cX12_without 212 = .ok (.invokevirtual 233, 3) := by decide +kernel
theorem dX12_without_215 : decode cX12_without 215 = .ok (.aload_n 0, 1) := by decide +kernel
theorem dX12_without_216 : decode cX12_without 216 = .ok (.iload_n 1, 1) := by decide +kernel
theorem dX12_without_217 : decode cX12_without 217 = .ok (.iconst 5, 1) := by decide +kernel
theorem dX12_without_218 : decode cX12_without 218 = .ok (.invokevirtual 194, 3) := by decide +kernel
theorem dX12_without_221 : decode cX12_without 221 = .ok (.goto 53, 3) := by decide +kernel
theorem dX12_without_224 : decode cX12_without 224 = .ok (.aload_n 0, 1) := by decide +kernel
theorem dX12_without_225 : decode cX12_without 225 = .ok (.iload_n 1, 1) := by decide +kernel
theorem dX12_without_226 : decode cX12_without 226 = .ok (.iload_n 3, 1) := by decide +kernel
theorem dX12_without_227 : decode cX12_without 227 = .ok (.invokevirtual 236, 3) := by decide +kernel
theorem dX12_without_230 : decode cX12_without 230 = .ok (.goto 44, 3) := by decide +kernel
theorem dX12_without_233 : decode cX12_without 233 = .ok (.aload_n 0, 1) := by decide +kernel
theorem dX12_without_234 : decode cX12_without 234 = .ok (.iload_n 1, 1) := by decide +kernel
theorem dX12_without_235 : decode cX12_without 235 = .ok (.iload_n 3, 1) := by decide +kernel
theorem dX12_without_236 : decode cX12_without 236 = .ok (.invokevirtual 239, 3) := by decide +kernel
theorem dX12_without_239 : decode cX12_without 239 = .ok (.goto 35, 3) := by decide +kernel
theorem dX12_without_242 : decode cX12_without 242 = .ok (.aload_n 0, 1) := by decide +kernel
theorem dX12_without_243 : decode cX12_without 243 = .ok (.getfield 47, 3) := by decide +kernel
theorem dX12_without_246 : decode cX12_without 246 = .ok (.iload_n 1, 1) := by decide +kernel
theorem dX12_without_247 : decode cX12_without 247 = .ok (.iload_n 3, 1) := by decide +kernel
theorem dX12_without_248 : decode cX12_without 248 = .ok (.iastore, 1) := by decide +kernel
theorem dX12_without_249 : decode cX12_without 249 = .ok (.aload_n 0, 1) := by decide +kernel
theorem dX12_without_250 : decode cX12_without 250 = .ok (.iload_n 1, 1) := by decide +kernel
theorem dX12_without_251 : decode cX12_without 251 = .ok (.invokevirtual 224, 3) := by decide +kernel
theorem dX12_without_254 : decode cX12_without 254 = .ok (.goto 20, 3) := by decide +kernel
theorem dX12_without_257 : decode cX12_without 257 = .ok (.aload_n 0, 1) := by decide +kernel
theorem dX12_without_258 : decode cX12_without 258 = .ok (.getfield 47, 3) := by decide +kernel
theorem dX12_without_261 : decode cX12_without 261 = .ok (.iload_n 1, 1) := by decide +kernel
theorem dX12_without_262 : decode cX12_without 262 = .ok (.aload_n 0, 1) := by decide +kernel
theorem dX12_without_263 : decode cX12_without 263 = .ok (.getfield 50, 3) := by decide +kernel
theorem dX12_without_266 : decode cX12_without 266 = .ok (.iload_n 1, 1) := by decide +kernel
theorem dX12_without_267 : decode cX12_without 267 = .ok (.iaload, 1) := by decide +kernel
theorem dX12_without_268 : decode cX12_without 268 = .ok (.iastore, 1) := by decide +kernel
theorem dX12_without_269 : decode cX12_without 269 = .ok (.aload_n 0, 1) := by decide +kernel
theorem dX12_without_270 : decode cX12_without 270 = .ok (.iload_n 1, 1) := by decide +kernel
theorem dX12_without_271 : decode cX12_without 271 = .ok (.invokevirtual 224, 3) := by decide +kernel
theorem dX12_without_274 : decode cX12_without 274 = .ok (.return_, 1) := by decide +kernel
theorem dX12_choose_0 : decode cX12_choose 0 = .ok (.iconst 0, 1) := by decide +kernel
theorem dX12_choose_1 : decode cX12_choose 1 = .ok (.istore_n 1, 1) := by decide +kernel
theorem dX12_choose_2 : decode cX12_choose 2 = .ok (.iload_n 1, 1) := by decide +kernel
theorem dX12_choose_3 : decode cX12_choose 3 = .ok (.aload_n 0, 1) := by decide +kernel
theorem dX12_choose_4 : decode cX12_choose 4 = .ok (.getfield 150, 3) := by decide +kernel
theorem dX12_choose_7 : decode cX12_choose 7 = .ok (.if_icmp .ge 21, 3) := by decide +kernel
theorem dX12_choose_10 : decode cX12_choose 10 = .ok (.aload_n 0, 1) := by decide +kernel
theorem dX12_choose_11 : decode cX12_choose 11 = .ok (.getfield 104, 3) := by decide +kernel
theorem dX12_choose_14 : decode cX12_choose 14 = .ok (.iload_n 1, 1) := by decide +kernel
theorem dX12_choose_15 : decode cX12_choose 15 = .ok (.iaload, 1) := by decide +kernel
theorem dX12_choose_16 : decode cX12_choose 16 = .ok (.iconst (-1), 1) := by decide +kernel
theorem dX12_choose_17 : decode cX12_choose 17 = .ok (.if_icmp .ne 5, 3) := by decide +kernel
theorem dX12_choose_20 : decode cX12_choose 20 = .ok (.iload_n 1, 1) := by decide +kernel
theorem dX12_choose_21 : decode cX12_choose 21 = .ok (.ireturn, 1) := by decide +kernel
theorem dX12_choose_22 : decode cX12_choose 22 = .ok (.iinc 1 1, 3) := by decide +kernel
theorem dX12_choose_25 : decode cX12_choose 25 = .ok (.goto (-23), 3) := by decide +kernel
theorem dX12_choose_28 : decode cX12_choose 28 = .ok (.iconst (-1), 1) := by decide +kernel
theorem dX12_choose_29 : decode cX12_choose 29 = .ok (.istore_n 1, 1) := by decide +kernel
theorem dX12_choose_30 : decode cX12_choose 30 = .ok (.iconst 0, 1) := by decide +kernel
theorem dX12_choose_31 : decode cX12_choose 31 = .ok (.istore_n 2, 1) := by decide +kernel
theorem dX12_choose_32 : decode cX12_choose 32 = .ok (.iload_n 2, 1) := by decide +kernel
theorem dX12_choose_33 : decode cX12_choose 33 = .ok (.aload_n 0, 1) := by decide +kernel
theorem dX12_choose_34 : decode cX12_choose 34 = .ok (.getfield 150, 3) := by decide +kernel
theorem dX12_choose_37 : decode cX12_choose 37 = .ok (.if_icmp .ge 54, 3) := by decide +kernel
theorem dX12_choose_40 : decode cX12_choose 40 = .ok (.aload_n 0, 1) := by decide +kernel
theorem dX12_choose_41 : decode cX12_choose 41 = .ok (.getfield 104, 3) := by decide +kernel
theorem dX12_choose_44 : decode cX12_choose 44 = .ok (.iload_n 2, 1) := by decide +kernel
theorem dX12_choose_45 : decode cX12_choose 45 = .ok (.iaload, 1) := by decide +kernel
theorem dX12_choose_46 : decode cX12_choose 46 = .ok (.bipush (-2), 2) := by decide +kernel
theorem dX12_choose_48 : decode cX12_choose 48 = .ok (.if_icmp .eq 37, 3) := by decide +kernel
theorem dX12_choose_51 : decode cX12_choose 51 = .ok (.aload_n 0, 1) := by decide +kernel
theorem dX12_choose_52 : decode cX12_choose 52 = .ok (.getfield 116, 3) := by decide +kernel
theorem dX12_choose_55 : decode cX12_choose 55 = .ok (.iload_n 2, 1) := by decide +kernel
theorem dX12_choose_56 : decode cX12_choose 56 = .ok (.baload, 1) := by decide +kernel
theorem dX12_choose_57 : decode cX12_choose 57 = .ok (.ifCond .eq 6, 3) := by decide +kernel
theorem dX12_choose_60 : decode cX12_choose 60 = .ok (.goto 25, 3) := by decide +kernel
theorem dX12_choose_63 : decode cX12_choose 63 = .ok (.iload_n 1, 1) := by decide +kernel
theorem dX12_choose_64 : decode cX12_choose 64 = .ok (.iconst (-1), 1) := by decide +kernel
theorem dX12_choose_65 : decode cX12_choose 65 = .ok (.if_icmp .eq 18, 3) := by decide +kernel
theorem dX12_choose_68 : decode cX12_choose 68 = .ok (.aload_n 0, 1) := by decide +kernel
theorem dX12_choose_69 : decode cX12_choose 69 = .ok (.getfield 110, 3) := by decide +kernel
theorem dX12_choose_72 : decode cX12_choose 72 = .ok (.iload_n 2, 1) := by decide +kernel
theorem dX12_choose_73 : decode cX12_choose 73 = .ok (.iaload, 1) := by decide +kernel
theorem dX12_choose_74 : decode cX12_choose 74 = .ok (.aload_n 0, 1) := by decide +kernel
theorem dX12_choose_75 : decode cX12_choose 75 = .ok (.getfield 110, 3) := by decide +kernel
theorem dX12_choose_78 : decode cX12_choose 78 = .ok (.iload_n 1, 1) := by decide +kernel
theorem dX12_choose_79 : decode cX12_choose 79 = .ok (.iaload, 1) := by decide +kernel
theorem dX12_choose_80 : decode cX12_choose 80 = .ok (.if_icmp .ge 5, 3) := by decide +kernel
theorem dX12_choose_83 : decode cX12_choose 83 = .ok (.iload_n 2, 1) := by decide +kernel
theorem dX12_choose_84 : decode cX12_choose 84 = .ok (.istore_n 1, 1) := by decide +kernel
theorem dX12_choose_85 : decode cX12_choose 85 = .ok (.iinc 2 1, 3) := by decide +kernel
theorem dX12_choose_88 : decode cX12_choose 88 = .ok (.goto (-56), 3) := by decide +kernel
theorem dX12_choose_91 : decode cX12_choose 91 = .ok (.iload_n 1, 1) := by decide +kernel
theorem dX12_choose_92 : decode cX12_choose 92 = .ok (.ireturn, 1) := by decide +kernel
theorem dX12_segmentsStep_0 : decode cX12_segmentsStep 0 = .ok (.aload_n 0, 1) := by decide +kernel
theorem dX12_segmentsStep_1 : decode cX12_segmentsStep 1 = .ok (.getfield 26, 3) := by decide +kernel
theorem dX12_segmentsStep_4 : decode cX12_segmentsStep 4 = .ok (.bipush 6, 2) := by decide +kernel
theorem dX12_segmentsStep_6 : decode cX12_segmentsStep 6 = .ok (.iaload, 1) := by decide +kernel
theorem dX12_segmentsStep_7 : decode cX12_segmentsStep 7 = .ok (.ifCond .ne 195, 3) := by decide +kernel
theorem dX12_segmentsStep_10 : decode cX12_segmentsStep 10 = .ok (.aload_n 0, 1) := by decide +kernel
theorem dX12_segmentsStep_11 : decode cX12_segmentsStep 11 = .ok (.aload_n 0, 1) := by decide +kernel
theorem dX12_segmentsStep_12 : decode cX12_segmentsStep 12 = .ok (.getfield 119, 3) := by decide +kernel
theorem dX12_segmentsStep_15 : decode cX12_segmentsStep 15 = .ok (.iconst 0, 1) := by decide +kernel
theorem dX12_segmentsStep_16 : decode cX12_segmentsStep 16 = .ok (.iaload, 1) := by decide +kernel
theorem dX12_segmentsStep_17 : decode cX12_segmentsStep 17 = .ok (.putfield 242, 3) := by decide +kernel
theorem dX12_segmentsStep_20 : decode cX12_segmentsStep 20 = .ok (.aload_n 0, 1) := by decide +kernel
theorem dX12_segmentsStep_21 : decode cX12_segmentsStep 21 = .ok (.aload_n 0, 1) := by decide +kernel
theorem dX12_segmentsStep_22 : decode cX12_segmentsStep 22 = .ok (.getfield 122, 3) := by decide +kernel
theorem dX12_segmentsStep_25 : decode cX12_segmentsStep 25 = .ok (.iconst 0, 1) := by decide +kernel
theorem dX12_segmentsStep_26 : decode cX12_segmentsStep 26 = .ok (.iaload, 1) := by decide +kernel
theorem dX12_segmentsStep_27 : decode cX12_segmentsStep 27 = .ok (.putfield 245, 3) := by decide +kernel
theorem dX12_segmentsStep_30 : decode cX12_segmentsStep 30 = .ok (.iconst 1, 1) := by decide +kernel
theorem dX12_segmentsStep_31 : decode cX12_segmentsStep 31 = .ok (.istore_n 1, 1) := by decide +kernel
theorem dX12_segmentsStep_32 : decode cX12_segmentsStep 32 = .ok (.iload_n 1, 1) := by decide +kernel
theorem dX12_segmentsStep_33 : decode cX12_segmentsStep 33 = .ok (.aload_n 0, 1) := by decide +kernel
theorem dX12_segmentsStep_34 : decode cX12_segmentsStep 34 = .ok (.getfield 191, 3) := by decide +kernel
theorem dX12_segmentsStep_37 : decode cX12_segmentsStep 37 = .ok (.if_icmp .ge 37, 3) := by decide +kernel
theorem dX12_segmentsStep_40 : decode cX12_segmentsStep 40 = .ok (.aload_n 0, 1) := by decide +kernel
theorem dX12_segmentsStep_41 : decode cX12_segmentsStep 41 = .ok (.getfield 119, 3) := by decide +kernel
theorem dX12_segmentsStep_44 : decode cX12_segmentsStep 44 = .ok (.iload_n 1, 1) := by decide +kernel
theorem dX12_segmentsStep_45 : decode cX12_segmentsStep 45 = .ok (.iconst 1, 1) := by decide +kernel
theorem dX12_segmentsStep_46 : decode cX12_segmentsStep 46 = .ok (.isub, 1) := by decide +kernel
theorem dX12_segmentsStep_47 : decode cX12_segmentsStep 47 = .ok (.aload_n 0, 1) := by decide +kernel
theorem dX12_segmentsStep_48 : decode cX12_segmentsStep 48 = .ok (.getfield 119, 3) := by decide +kernel
theorem dX12_segmentsStep_51 : decode cX12_segmentsStep 51 = .ok (.iload_n 1, 1) := by decide +kernel
theorem dX12_segmentsStep_52 : decode cX12_segmentsStep 52 = .ok (.iaload, 1) := by decide +kernel
theorem dX12_segmentsStep_53 : decode cX12_segmentsStep 53 = .ok (.iastore, 1) := by decide +kernel
theorem dX12_segmentsStep_54 : decode cX12_segmentsStep 54 = .ok (.aload_n 0, 1) := by decide +kernel
theorem dX12_segmentsStep_55 : decode cX12_segmentsStep 55 = .ok (.getfield 122, 3) := by decide +kernel
theorem dX12_segmentsStep_58 : decode cX12_segmentsStep 58 = .ok (.iload_n 1, 1) := by decide +kernel
theorem dX12_segmentsStep_59 : decode cX12_segmentsStep 59 = .ok (.iconst 1, 1) := by decide +kernel
theorem dX12_segmentsStep_60 : decode cX12_segmentsStep 60 = .ok (.isub, 1) := by decide +kernel
theorem dX12_segmentsStep_61 : decode cX12_segmentsStep 61 = .ok (.aload_n 0, 1) := by decide +kernel
theorem dX12_segmentsStep_62 : decode cX12_segmentsStep 62 = .ok (.getfield 122, 3) := by decide +kernel
theorem dX12_segmentsStep_65 : decode cX12_segmentsStep 65 = .ok (.iload_n 1, 1) := by decide +kernel
theorem dX12_segmentsStep_66 : decode cX12_segmentsStep 66 = .ok (.iaload, 1) := by decide +kernel
theorem dX12_segmentsStep_67 : decode cX12_segmentsStep 67 = .ok (.iastore, 1) := by decide +kernel
theorem dX12_segmentsStep_68 : decode cX12_segmentsStep 68 = .ok (.iinc 1 1, 3) := by decide +kernel
theorem dX12_segmentsStep_71 : decode cX12_segmentsStep 71 = .ok (.goto (-39), 3) := by decide +kernel
theorem dX12_segmentsStep_74 : decode cX12_segmentsStep 74 = .ok (.aload_n 0, 1) := by decide +kernel
theorem dX12_segmentsStep_75 : decode cX12_segmentsStep 75 = .ok (.dup, 1) := by decide +kernel
theorem dX12_segmentsStep_76 : decode cX12_segmentsStep 76 = .ok (.getfield 191, 3) := by decide +kernel
theorem dX12_segmentsStep_79 : decode cX12_segmentsStep 79 = .ok (.iconst 1, 1) := by decide +kernel
theorem dX12_segmentsStep_80 : decode cX12_segmentsStep 80 = .ok (.isub, 1) := by decide +kernel
theorem dX12_segmentsStep_81 : decode cX12_segmentsStep 81 = .ok (.putfield 191, 3) := by decide +kernel
theorem dX12_segmentsStep_84 : decode cX12_segmentsStep 84 = .ok (.aload_n 0, 1) := by decide +kernel
theorem dX12_segmentsStep_85 : decode cX12_segmentsStep 85 = .ok (.aload_n 0, 1) := by decide +kernel
theorem dX12_segmentsStep_86 : decode cX12_segmentsStep 86 = .ok (.invokevirtual 248, 3) := by decide +kernel
theorem dX12_segmentsStep_89 : decode cX12_segmentsStep 89 = .ok (.putfield 252, 3) := by decide +kernel
theorem dX12_segmentsStep_92 : decode cX12_segmentsStep 92 = .ok (.aload_n 0, 1) := by decide +kernel
theorem dX12_segmentsStep_93 : decode cX12_segmentsStep 93 = .ok (.aload_n 0, 1) := by decide +kernel
theorem dX12_segmentsStep_94 : decode cX12_segmentsStep 94 = .ok (.getfield 104, 3) := by decide +kernel
theorem dX12_segmentsStep_97 : decode cX12_segmentsStep 97 = .ok (.aload_n 0, 1) := by decide +kernel
theorem dX12_segmentsStep_98 : decode cX12_segmentsStep 98 = .ok (.getfield 252, 3) := by decide +kernel
theorem dX12_segmentsStep_101 : decode cX12_segmentsStep 101 = .ok (.iaload, 1) := by decide +kernel
theorem dX12_segmentsStep_102 : decode cX12_segmentsStep 102 = .ok (.putfield 255, 3) := by decide +kernel
theorem dX12_segmentsStep_105 : decode cX12_segmentsStep 105 = .ok (.aload_n 0, 1) := by decide +kernel
theorem dX12_segmentsStep_106 : decode cX12_segmentsStep 106 = .ok (.aload_n 0, 1) := by decide +kernel
theorem dX12_segmentsStep_107 : decode cX12_segmentsStep 107 = .ok (.getfield 107, 3) := by decide +kernel
theorem dX12_segmentsStep_110 : decode cX12_segmentsStep 110 = .ok (.aload_n 0, 1) := by decide +kernel
theorem dX12_segmentsStep_111 : decode cX12_segmentsStep 111 = .ok (.getfield 252, 3) := by decide +kernel
theorem dX12_segmentsStep_114 : decode cX12_segmentsStep 114 = .ok (.iaload, 1) := by decide +kernel
theorem dX12_segmentsStep_115 : decode cX12_segmentsStep 115 = .ok (.putfield 258, 3) := by decide +kernel
theorem dX12_segmentsStep_118 : decode cX12_segmentsStep 118 = .ok (.aload_n 0, 1) := by decide +kernel
theorem dX12_segmentsStep_119 : decode cX12_segmentsStep 119 = .ok (.getfield 255, 3) := by decide +kernel
theorem dX12_segmentsStep_122 : decode cX12_segmentsStep 122 = .ok (.ifCond .lt 19, 3) := by decide +kernel
theorem dX12_segmentsStep_125 : decode cX12_segmentsStep 125 = .ok (.aload_n 0, 1) := by decide +kernel
theorem dX12_segmentsStep_126 : decode cX12_segmentsStep 126 = .ok (.getfield 113, 3) := by decide +kernel
theorem dX12_segmentsStep_129 : decode cX12_segmentsStep 129 = .ok (.aload_n 0, 1) := by decide +kernel
theorem dX12_segmentsStep_130 : decode cX12_segmentsStep 130 = .ok (.getfield 252, 3) := by decide +kernel
theorem dX12_segmentsStep_133 : decode cX12_segmentsStep 133 = .ok (.baload, 1) := by decide +kernel
theorem dX12_segmentsStep_134 : decode cX12_segmentsStep 134 = .ok (.ifCond .eq 7, 3) := by decide +kernel
theorem dX12_segmentsStep_137 : decode cX12_segmentsStep 137 = .ok (.iconst 1, 1) := by decide +kernel
theorem dX12_segmentsStep_138 : decode cX12_segmentsStep 138 = .ok (.goto 4, 3) := by decide +kernel
theorem dX12_segmentsStep_141 : decode cX12_segmentsStep 141 = .ok (.iconst 0, 1) := by decide +kernel
theorem dX12_segmentsStep_142 : decode cX12_segmentsStep 142 = .ok (.istore_n 1, 1) := by decide +kernel
theorem dX12_segmentsStep_143 : decode cX12_segmentsStep 143 = .ok (.aload_n 0, 1) := by decide +kernel
theorem dX12_segmentsStep_144 : decode cX12_segmentsStep 144 = .ok (.iload_n 1, 1) := by decide +kernel
theorem dX12_segmentsStep_145 : decode cX12_segmentsStep 145 = .ok (.ifCond .eq 15, 3) := by decide +kernel
theorem dX12_segmentsStep_148 : decode cX12_segmentsStep 148 = .ok (.aload_n 0, 1) := by decide +kernel
theorem dX12_segmentsStep_149 : decode cX12_segmentsStep 149 = .ok (.getfield 59, 3) := by decide +kernel
theorem dX12_segmentsStep_152 : decode cX12_segmentsStep 152 = .ok (.aload_n 0, 1) := by decide +kernel
theorem dX12_segmentsStep_153 : decode cX12_segmentsStep 153 = .ok (.getfield 255, 3) := by decide +kernel
theorem dX12_segmentsStep_156 : decode cX12_segmentsStep 156 = .ok (.iaload, 1) := by decide +kernel
theorem dX12_segmentsStep_157 : decode cX12_segmentsStep 157 = .ok (.goto 4, 3) := by decide +kernel
theorem dX12_segmentsStep_160 : decode cX12_segmentsStep 160 = .ok (.iconst 0, 1) := by decide +kernel
theorem dX12_segmentsStep_161 : decode cX12_segmentsStep 161 = .ok (.putfield 261, 3) := by decide +kernel
theorem dX12_segmentsStep_164 : decode cX12_segmentsStep 164 = .ok (.aload_n 0, 1) := by decide +kernel
theorem dX12_segmentsStep_165 : decode cX12_segmentsStep 165 = .ok (.getfield 104, 3) := by decide +kernel
theorem dX12_segmentsStep_168 : decode cX12_segmentsStep 168 = .ok (.aload_n 0, 1) := by decide +kernel
theorem dX12_segmentsStep_169 : decode cX12_segmentsStep 169 = .ok (.getfield 252, 3) := by decide +kernel
theorem dX12_segmentsStep_172 : decode cX12_segmentsStep 172 = .ok (.bipush (-2), 2) := by decide +kernel
theorem dX12_segmentsStep_174 : decode cX12_segmentsStep 174 = .ok (.iastore, 1) := by decide +kernel
theorem dX12_segmentsStep_175 : decode cX12_segmentsStep 175 = .ok (.aload_n 0, 1) := by decide +kernel
theorem dX12_segmentsStep_176 : decode cX12_segmentsStep 176 = .ok (.iload_n 1, 1) := by decide +kernel
theorem dX12_segmentsStep_177 : decode cX12_segmentsStep 177 = .ok (.ifCond .eq 7, 3) := by decide +kernel
theorem dX12_segmentsStep_180 : decode cX12_segmentsStep 180 = .ok (.iconst 1, 1) := by decide +kernel
theorem dX12_segmentsStep_181 : decode cX12_segmentsStep 181 = .ok (.goto 4, 3) := by decide +kernel
theorem dX12_segmentsStep_184 : decode cX12_segmentsStep 184 = .ok (.iconst 2, 1) := by decide +kernel
theorem dX12_segmentsStep_185 : decode cX12_segmentsStep 185 = .ok (.putfield 264, 3) := by decide +kernel
theorem dX12_segmentsStep_188 : decode cX12_segmentsStep 188 = .ok (.aload_n 0, 1) := by decide +kernel
theorem dX12_segmentsStep_189 : decode cX12_segmentsStep 189 = .ok (.bipush 6, 2) := by decide +kernel
theorem dX12_segmentsStep_191 : decode cX12_segmentsStep 191 = .ok (.iconst 1, 1) := by decide +kernel
theorem dX12_segmentsStep_192 : decode cX12_segmentsStep 192 = .ok (.aload_n 0, 1) := by decide +kernel
theorem dX12_segmentsStep_193 : decode cX12_segmentsStep 193 = .ok (.getfield 264, 3) := by decide +kernel
theorem dX12_segmentsStep_196 : decode cX12_segmentsStep 196 = .ok (.invokevirtual 267, 3) := by decide +kernel
theorem dX12_segmentsStep_199 : decode cX12_segmentsStep 199 = .ok (.goto 115, 3) := by decide +kernel
theorem dX12_segmentsStep_202 : decode cX12_segmentsStep 202 = .ok (.aload_n 0, 1) := by decide +kernel
theorem dX12_segmentsStep_203 : decode cX12_segmentsStep 203 = .ok (.getfield 26, 3) := by decide +kernel
theorem dX12_segmentsStep_206 : decode cX12_segmentsStep 206 = .ok (.bipush 6, 2) := by decide +kernel
theorem dX12_segmentsStep_208 : decode cX12_segmentsStep 208 = .ok (.iaload, 1) := by decide +kernel
theorem dX12_segmentsStep_209 : decode cX12_segmentsStep 209 = .ok (.iconst 1, 1) := by decide +kernel
theorem dX12_segmentsStep_210 : decode cX12_segmentsStep 210 = .ok (.if_icmp .ne 19, 3) := by decide +kernel
theorem dX12_segmentsStep_213 : decode cX12_segmentsStep 213 = .ok (.aload_n 0, 1) := by decide +kernel
theorem dX12_segmentsStep_214 : decode cX12_segmentsStep 214 = .ok (.iconst 2, 1) := by decide +kernel
theorem dX12_segmentsStep_215 : decode cX12_segmentsStep 215 = .ok (.putfield 264, 3) := by decide +kernel
theorem dX12_segmentsStep_218 : decode cX12_segmentsStep 218 = .ok (.aload_n 0, 1) := by decide +kernel
theorem dX12_segmentsStep_219 : decode cX12_segmentsStep 219 = .ok (.bipush 6, 2) := by decide +kernel
theorem dX12_segmentsStep_221 : decode cX12_segmentsStep 221 = .ok (.iconst 1, 1) := by decide +kernel
theorem dX12_segmentsStep_222 : decode cX12_segmentsStep 222 = .ok (.iconst 2, 1) := by decide +kernel
theorem dX12_segmentsStep_223 : decode cX12_segmentsStep 223 = .ok (.invokevirtual 267, 3) := by decide +kernel
theorem dX12_segmentsStep_226 : decode cX12_segmentsStep 226 = .ok (.goto 88, 3) := by decide +kernel
theorem dX12_segmentsStep_229 : decode cX12_segmentsStep 229 = .ok (.aload_n 0, 1) := by decide +kernel
theorem dX12_segmentsStep_230 : decode cX12_segmentsStep 230 = .ok (.getfield 104, 3) := by decide +kernel
theorem dX12_segmentsStep_233 : decode cX12_segmentsStep 233 = .ok (.aload_n 0, 1) := by decide +kernel
theorem dX12_segmentsStep_234 : decode cX12_segmentsStep 234 = .ok (.getfield 252, 3) := by decide +kernel
theorem dX12_segmentsStep_237 : decode cX12_segmentsStep 237 = .ok (.aload_n 0, 1) := by decide +kernel
theorem dX12_segmentsStep_238 : decode cX12_segmentsStep 238 = .ok (.getfield 242, 3) := by decide +kernel
theorem dX12_segmentsStep_241 : decode cX12_segmentsStep 241 = .ok (.iastore, 1) := by decide +kernel
theorem dX12_segmentsStep_242 : decode cX12_segmentsStep 242 = .ok (.aload_n 0, 1) := by decide +kernel
theorem dX12_segmentsStep_243 : decode cX12_segmentsStep 243 = .ok (.getfield 107, 3) := by decide +kernel
theorem dX12_segmentsStep_246 : decode cX12_segmentsStep 246 = .ok (.aload_n 0, 1) := by decide +kernel
theorem dX12_segmentsStep_247 : decode cX12_segmentsStep 247 = .ok (.getfield 252, 3) := by decide +kernel
theorem dX12_segmentsStep_250 : decode cX12_segmentsStep 250 = .ok (.aload_n 0, 1) := by decide +kernel
theorem dX12_segmentsStep_251 : decode cX12_segmentsStep 251 = .ok (.getfield 245, 3) := by decide +kernel
theorem dX12_segmentsStep_254 : decode cX12_segmentsStep 254 = .ok (.iastore, 1) := by decide +kernel
theorem dX12_segmentsStep_255 : decode cX12_segmentsStep 255 = .ok (.aload_n 0, 1) := by decide +kernel
theorem dX12_segmentsStep_256 : decode cX12_segmentsStep 256 = .ok (.getfield 113, 3) := by decide +kernel
theorem dX12_segmentsStep_259 : decode cX12_segmentsStep 259 = .ok (.aload_n 0, 1) := by decide +kernel
theorem dX12_segmentsStep_260 : decode cX12_segmentsStep 260 = .ok (.getfield 252, 3) := by decide +kernel
theorem dX12_segmentsStep_263 : decode cX12_segmentsStep 263 = .ok (.iconst 0, 1) := by decide +kernel
theorem dX12_segmentsStep_264 : decode cX12_segmentsStep 264 = .ok (.bastore, 1) := by decide +kernel
theorem dX12_segmentsStep_265 : decode cX12_segmentsStep 265 = .ok (.aload_n 0, 1) := by decide +kernel
theorem dX12_segmentsStep_266 : decode cX12_segmentsStep 266 = .ok (.getfield 116, 3) := by decide +kernel
theorem dX12_segmentsStep_269 : decode cX12_segmentsStep 269 = .ok (.aload_n 0, 1) := by decide +kernel
theorem dX12_segmentsStep_270 : decode cX12_segmentsStep 270 = .ok (.getfield 252, 3) := by decide +kernel
theorem dX12_segmentsStep_273 : decode cX12_segmentsStep 273 = .ok (.iconst 1, 1) := by decide +kernel
theorem dX12_segmentsStep_274 : decode cX12_segmentsStep 274 = .ok (.bastore, 1) := by decide +kernel
theorem dX12_segmentsStep_275 : decode cX12_segmentsStep 275 = .ok (.aload_n 0, 1) := by decide +kernel
theorem dX12_segmentsStep_276 : decode cX12_segmentsStep 276 = .ok (.getfield 110, 3) := by decide +kernel
theorem dX12_segmentsStep_279 : decode cX12_segmentsStep 279 = .ok (.aload_n 0, 1) := by decide +kernel
theorem dX12_segmentsStep_280 : decode cX12_segmentsStep 280 = .ok (.getfield 252, 3) := by decide +kernel
theorem dX12_segmentsStep_283 : decode cX12_segmentsStep 283 = .ok (.aload_n 0, 1) := by decide +kernel
theorem dX12_segmentsStep_284 : decode cX12_segmentsStep 284 = .ok (.getfield 167, 3) := by decide +kernel
theorem dX12_segmentsStep_287 : decode cX12_segmentsStep 287 = .ok (.iastore, 1) := by decide +kernel
theorem dX12_segmentsStep_288 : decode cX12_segmentsStep 288 = .ok (.aload_n 0, 1) := by decide +kernel
theorem dX12_segmentsStep_289 : decode cX12_segmentsStep 289 = .ok (.dup, 1) := by decide +kernel
theorem dX12_segmentsStep_290 : decode cX12_segmentsStep 290 = .ok (.getfield 270, 3) := by decide +kernel
theorem dX12_segmentsStep_293 : decode cX12_segmentsStep 293 = .ok (.iconst 1, 1) := by decide +kernel
theorem dX12_segmentsStep_294 : decode cX12_segmentsStep 294 = .ok (.iadd, 1) := by decide +kernel
theorem dX12_segmentsStep_295 : decode cX12_segmentsStep 295 = .ok (.putfield 270, 3) := by decide +kernel
theorem dX12_segmentsStep_298 : decode cX12_segmentsStep 298 = .ok (.aload_n 0, 1) := by decide +kernel
theorem dX12_segmentsStep_299 : decode cX12_segmentsStep 299 = .ok (.aload_n 0, 1) := by decide +kernel
theorem dX12_segmentsStep_300 : decode cX12_segmentsStep 300 = .ok (.getfield 242, 3) := by decide +kernel
theorem dX12_segmentsStep_303 : decode cX12_segmentsStep 303 = .ok (.invokevirtual 163, 3) := by decide +kernel
theorem dX12_segmentsStep_306 : decode cX12_segmentsStep 306 = .ok (.aload_n 0, 1) := by decide +kernel
theorem dX12_segmentsStep_307 : decode cX12_segmentsStep 307 = .ok (.bipush 6, 2) := by decide +kernel
theorem dX12_segmentsStep_309 : decode cX12_segmentsStep 309 = .ok (.iconst 0, 1) := by decide +kernel
theorem dX12_segmentsStep_310 : decode cX12_segmentsStep 310 = .ok (.iconst 0, 1) := by decide +kernel
theorem dX12_segmentsStep_311 : decode cX12_segmentsStep 311 = .ok (.invokevirtual 267, 3) := by decide +kernel
theorem dX12_segmentsStep_314 : decode cX12_segmentsStep 314 = .ok (.return_, 1) := by decide +kernel
theorem dX12_isWritten_0 : decode cX12_isWritten 0 = .ok (.aload_n 0, 1) := by decide +kernel
theorem dX12_isWritten_1 : decode cX12_isWritten 1 = .ok (.getfield 264, 3) := by decide +kernel
theorem dX12_isWritten_4 : decode cX12_isWritten 4 = .ok (.iconst 1, 1) := by decide +kernel
theorem dX12_isWritten_5 : decode cX12_isWritten 5 = .ok (.if_icmp .ne 38, 3) := by decide +kernel
theorem dX12_isWritten_8 : decode cX12_isWritten 8 = .ok (.aload_n 0, 1) := by decide +kernel
theorem dX12_isWritten_9 : decode cX12_isWritten 9 = .ok (.getfield 255, 3) := by decide +kernel
theorem dX12_isWritten_12 : decode cX12_isWritten 12 = .ok (.iload_n 1, 1) := by decide +kernel
theorem dX12_isWritten_13 : decode cX12_isWritten 13 = .ok (.if_icmp .ne 30, 3) := by decide +kernel
theorem dX12_isWritten_16 : decode cX12_isWritten 16 = .ok (.aload_n 0, 1) := by decide +kernel
theorem dX12_isWritten_17 : decode cX12_isWritten 17 = .ok (.getfield 59, 3) := by decide +kernel
theorem dX12_isWritten_20 : decode cX12_isWritten 20 = .ok (.iload_n 1, 1) := by decide +kernel
theorem dX12_isWritten_21 : decode cX12_isWritten 21 = .ok (.iaload, 1) := by decide +kernel
theorem dX12_isWritten_22 : decode cX12_isWritten 22 = .ok (.aload_n 0, 1) := by decide +kernel
theorem dX12_isWritten_23 : decode cX12_isWritten 23 = .ok (.getfield 261, 3) := by decide +kernel
theorem dX12_isWritten_26 : decode cX12_isWritten 26 = .ok (.if_icmp .ne 17, 3) := by decide +kernel
theorem dX12_isWritten_29 : decode cX12_isWritten 29 = .ok (.aload_n 0, 1) := by decide +kernel
theorem dX12_isWritten_30 : decode cX12_isWritten 30 = .ok (.getfield 32, 3) := by decide +kernel
theorem dX12_isWritten_33 : decode cX12_isWritten 33 = .ok (.iload_n 1, 1) := by decide +kernel
theorem dX12_isWritten_34 : decode cX12_isWritten 34 = .ok (.iaload, 1) := by decide +kernel
theorem dX12_isWritten_35 : decode cX12_isWritten 35 = .ok (.iconst 2, 1) := by decide +kernel
theorem dX12_isWritten_36 : decode cX12_isWritten 36 = .ok (.if_icmp .ne 7, 3) := by decide +kernel
theorem dX12_isWritten_39 : decode cX12_isWritten 39 = .ok (.iconst 1, 1) := by decide +kernel
theorem dX12_isWritten_40 : decode cX12_isWritten 40 = .ok (.goto 4, 3) := by decide +kernel
theorem dX12_isWritten_43 : decode cX12_isWritten 43 = .ok (.iconst 0, 1) := by decide +kernel
theorem dX12_isWritten_44 : decode cX12_isWritten 44 = .ok (.ireturn, 1) := by decide +kernel
theorem dX12_drumIsDone_0 : decode cX12_drumIsDone 0 = .ok (.aload_n 0, 1) := by decide +kernel
theorem dX12_drumIsDone_1 : decode cX12_drumIsDone 1 = .ok (.aload_n 0, 1) := by decide +kernel
theorem dX12_drumIsDone_2 : decode cX12_drumIsDone 2 = .ok (.getfield 255, 3) := by decide +kernel
theorem dX12_drumIsDone_5 : decode cX12_drumIsDone 5 = .ok (.ifCond .ge 7, 3) := by decide +kernel
theorem dX12_drumIsDone_8 : decode cX12_drumIsDone 8 = .ok (.iconst 0, 1) := by decide +kernel
theorem dX12_drumIsDone_9 : decode cX12_drumIsDone 9 = .ok (.goto 7, 3) := by decide +kernel
theorem dX12_drumIsDone_12 : decode cX12_drumIsDone 12 = .ok (.aload_n 0, 1) := by decide +kernel
theorem dX12_drumIsDone_13 : decode cX12_drumIsDone 13 = .ok (.getfield 255, 3) := by decide +kernel
theorem dX12_drumIsDone_16 : decode cX12_drumIsDone 16 = .ok (.invokevirtual 273, 3) := by decide +kernel
theorem dX12_drumIsDone_19 : decode cX12_drumIsDone 19 = .ok (.ifCond .eq 54, 3) := by decide +kernel
theorem dX12_drumIsDone_22 : decode cX12_drumIsDone 22 = .ok (.iconst 0, 1) := by decide +kernel
theorem dX12_drumIsDone_23 : decode cX12_drumIsDone 23 = .ok (.istore_n 1, 1) := by decide +kernel
theorem dX12_drumIsDone_24 : decode cX12_drumIsDone 24 = .ok (.iload_n 1, 1) := by decide +kernel
theorem dX12_drumIsDone_25 : decode cX12_drumIsDone 25 = .ok (.bipush 16, 2) := by decide +kernel
theorem dX12_drumIsDone_27 : decode cX12_drumIsDone 27 = .ok (.if_icmp .ge 46, 3) := by decide +kernel
theorem dX12_drumIsDone_30 : decode cX12_drumIsDone 30 = .ok (.aload_n 0, 1) := by decide +kernel
theorem dX12_drumIsDone_31 : decode cX12_drumIsDone 31 = .ok (.getfield 98, 3) := by decide +kernel
theorem dX12_drumIsDone_34 : decode cX12_drumIsDone 34 = .ok (.sipush 128, 3) := by decide +kernel
theorem dX12_drumIsDone_37 : decode cX12_drumIsDone 37 = .ok (.aload_n 0, 1) := by decide +kernel
theorem dX12_drumIsDone_38 : decode cX12_drumIsDone 38 = .ok (.getfield 255, 3) := by decide +kernel
theorem dX12_drumIsDone_41 : decode cX12_drumIsDone 41 = .ok (.imul, 1) := by decide +kernel
theorem dX12_drumIsDone_42 : decode cX12_drumIsDone 42 = .ok (.bipush 16, 2) := by decide +kernel
theorem dX12_drumIsDone_44 : decode cX12_drumIsDone 44 = .ok (.aload_n 0, 1) := by decide +kernel
theorem dX12_drumIsDone_45 : decode cX12_drumIsDone 45 = .ok (.getfield 258, 3) := by decide +kernel
theorem dX12_drumIsDone_48 : decode cX12_drumIsDone 48 = .ok (.imul, 1) := by decide +kernel
theorem dX12_drumIsDone_49 : decode cX12_drumIsDone 49 = .ok (.iadd, 1) := by decide +kernel
theorem dX12_drumIsDone_50 : decode cX12_drumIsDone 50 = .ok (.iload_n 1, 1) := by decide +kernel
theorem dX12_drumIsDone_51 : decode cX12_drumIsDone 51 = .ok (.iadd, 1) := by decide +kernel
theorem dX12_drumIsDone_52 : decode cX12_drumIsDone 52 = .ok (.aload_n 0, 1) := by decide +kernel
theorem dX12_drumIsDone_53 : decode cX12_drumIsDone 53 = .ok (.getfield 101, 3) := by decide +kernel
theorem dX12_drumIsDone_56 : decode cX12_drumIsDone 56 = .ok (.bipush 16, 2) := by decide +kernel
theorem dX12_drumIsDone_58 : decode cX12_drumIsDone 58 = .ok (.aload_n 0, 1) := by decide +kernel
theorem dX12_drumIsDone_59 : decode cX12_drumIsDone 59 = .ok (.getfield 252, 3) := by decide +kernel
theorem dX12_drumIsDone_62 : decode cX12_drumIsDone 62 = .ok (.imul, 1) := by decide +kernel
theorem dX12_drumIsDone_63 : decode cX12_drumIsDone 63 = .ok (.iload_n 1, 1) := by decide +kernel
theorem dX12_drumIsDone_64 : decode cX12_drumIsDone 64 = .ok (.iadd, 1) := by decide +kernel
theorem dX12_drumIsDone_65 : decode cX12_drumIsDone 65 = .ok (.iaload, 1) := by decide +kernel
theorem dX12_drumIsDone_66 : decode cX12_drumIsDone 66 = .ok (.iastore, 1) := by decide +kernel
theorem dX12_drumIsDone_67 : decode cX12_drumIsDone 67 = .ok (.iinc 1 1, 3) := by decide +kernel
theorem dX12_drumIsDone_70 : decode cX12_drumIsDone 70 = .ok (.goto (-46), 3) := by decide +kernel
theorem dX12_drumIsDone_73 : decode cX12_drumIsDone 73 = .ok (.aload_n 0, 1) := by decide +kernel
theorem dX12_drumIsDone_74 : decode cX12_drumIsDone 74 = .ok (.getfield 264, 3) := by decide +kernel
theorem dX12_drumIsDone_77 : decode cX12_drumIsDone 77 = .ok (.iconst 2, 1) := by decide +kernel
theorem dX12_drumIsDone_78 : decode cX12_drumIsDone 78 = .ok (.if_icmp .ne 54, 3) := by decide +kernel
theorem dX12_drumIsDone_81 : decode cX12_drumIsDone 81 = .ok (.iconst 0, 1) := by decide +kernel
theorem dX12_drumIsDone_82 : decode cX12_drumIsDone 82 = .ok (.istore_n 1, 1) := by decide +kernel
theorem dX12_drumIsDone_83 : decode cX12_drumIsDone 83 = .ok (.iload_n 1, 1) := by decide +kernel
theorem dX12_drumIsDone_84 : decode cX12_drumIsDone 84 = .ok (.bipush 16, 2) := by decide +kernel
theorem dX12_drumIsDone_86 : decode cX12_drumIsDone 86 = .ok (.if_icmp .ge 46, 3) := by decide +kernel
theorem dX12_drumIsDone_89 : decode cX12_drumIsDone 89 = .ok (.aload_n 0, 1) := by decide +kernel
theorem dX12_drumIsDone_90 : decode cX12_drumIsDone 90 = .ok (.getfield 101, 3) := by decide +kernel
theorem dX12_drumIsDone_93 : decode cX12_drumIsDone 93 = .ok (.bipush 16, 2) := by decide +kernel
theorem dX12_drumIsDone_95 : decode cX12_drumIsDone 95 = .ok (.aload_n 0, 1) := by decide +kernel
theorem dX12_drumIsDone_96 : decode cX12_drumIsDone 96 = .ok (.getfield 252, 3) := by decide +kernel
theorem dX12_drumIsDone_99 : decode cX12_drumIsDone 99 = .ok (.imul, 1) := by decide +kernel
theorem dX12_drumIsDone_100 : decode cX12_drumIsDone 100 = .ok (.iload_n 1, 1) := by decide +kernel
theorem dX12_drumIsDone_101 : decode cX12_drumIsDone 101 = .ok (.iadd, 1) := by decide +kernel
theorem dX12_drumIsDone_102 : decode cX12_drumIsDone 102 = .ok (.aload_n 0, 1) := by decide +kernel
theorem dX12_drumIsDone_103 : decode cX12_drumIsDone 103 = .ok (.getfield 98, 3) := by decide +kernel
theorem dX12_drumIsDone_106 : decode cX12_drumIsDone 106 = .ok (.sipush 128, 3) := by decide +kernel
theorem dX12_drumIsDone_109 : decode cX12_drumIsDone 109 = .ok (.aload_n 0, 1) := by decide +kernel
theorem dX12_drumIsDone_110 : decode cX12_drumIsDone 110 = .ok (.getfield 242, 3) := by decide +kernel
theorem dX12_drumIsDone_113 : decode cX12_drumIsDone 113 = .ok (.imul, 1) := by decide +kernel
theorem dX12_drumIsDone_114 : decode cX12_drumIsDone 114 = .ok (.bipush 16, 2) := by decide +kernel
theorem dX12_drumIsDone_116 : decode cX12_drumIsDone 116 = .ok (.aload_n 0, 1) := by decide +kernel
theorem dX12_drumIsDone_117 : decode cX12_drumIsDone 117 = .ok (.getfield 245, 3) := by decide +kernel
theorem dX12_drumIsDone_120 : decode cX12_drumIsDone 120 = .ok (.imul, 1) := by decide +kernel
theorem dX12_drumIsDone_121 : decode cX12_drumIsDone 121 = .ok (.iadd, 1) := by decide +kernel
theorem dX12_drumIsDone_122 : decode cX12_drumIsDone 122 = .ok (.iload_n 1, 1) := by decide +kernel
theorem dX12_drumIsDone_123 : decode cX12_drumIsDone 123 = .ok (.iadd, 1) := by decide +kernel
theorem dX12_drumIsDone_124 : decode cX12_drumIsDone 124 = .ok (.iaload, 1) := by decide +kernel
theorem dX12_drumIsDone_125 : decode cX12_drumIsDone 125 = .ok (.iastore, 1) := by decide +kernel
theorem dX12_drumIsDone_126 : decode cX12_drumIsDone 126 = .ok (.iinc 1 1, 3) := by decide +kernel
theorem dX12_drumIsDone_129 : decode cX12_drumIsDone 129 = .ok (.goto (-46), 3) := by decide +kernel
theorem dX12_drumIsDone_132 : decode cX12_drumIsDone 132 = .ok (.aload_n 0, 1) := by decide +kernel
theorem dX12_drumIsDone_133 : decode cX12_drumIsDone 133 = .ok (.iconst 0, 1) := by decide +kernel
theorem dX12_drumIsDone_134 : decode cX12_drumIsDone 134 = .ok (.putfield 264, 3) := by decide +kernel
theorem dX12_drumIsDone_137 : decode cX12_drumIsDone 137 = .ok (.aload_n 0, 1) := by decide +kernel
theorem dX12_drumIsDone_138 : decode cX12_drumIsDone 138 = .ok (.iconst 1, 1) := by decide +kernel
theorem dX12_drumIsDone_139 : decode cX12_drumIsDone 139 = .ok (.invokevirtual 198, 3) := by decide +kernel
theorem dX12_drumIsDone_142 : decode cX12_drumIsDone 142 = .ok (.return_, 1) := by decide +kernel
theorem dX12_claimed_0 : decode cX12_claimed 0 = .ok (.aload_n 0, 1) := by decide +kernel
theorem dX12_claimed_1 : decode cX12_claimed 1 = .ok (.getfield 65, 3) := by decide +kernel
theorem dX12_claimed_4 : decode cX12_claimed 4 = .ok (.iconst 3, 1) := by decide +kernel
theorem dX12_claimed_5 : decode cX12_claimed 5 = .ok (.iload_n 1, 1) := by decide +kernel
theorem dX12_claimed_6 : decode cX12_claimed 6 = .ok (.imul, 1) := by decide +kernel
theorem dX12_claimed_7 : decode cX12_claimed 7 = .ok (.iload_n 2, 1) := by decide +kernel
theorem dX12_claimed_8 : decode cX12_claimed 8 = .ok (.iadd, 1) := by decide +kernel
theorem dX12_claimed_9 : decode cX12_claimed 9 = .ok (.iaload, 1) := by decide +kernel
theorem dX12_claimed_10 : decode cX12_claimed 10 = .ok (.aload_n 0, 1) := by decide +kernel
theorem dX12_claimed_11 : decode cX12_claimed 11 = .ok (.getfield 68, 3) := by decide +kernel
theorem dX12_claimed_14 : decode cX12_claimed 14 = .ok (.iconst 3, 1) := by decide +kernel
theorem dX12_claimed_15 : decode cX12_claimed 15 = .ok (.iload_n 1, 1) := by decide +kernel
theorem dX12_claimed_16 : decode cX12_claimed 16 = .ok (.imul, 1) := by decide +kernel
theorem dX12_claimed_17 : decode cX12_claimed 17 = .ok (.iload_n 2, 1) := by decide +kernel
theorem dX12_claimed_18 : decode cX12_claimed 18 = .ok (.iadd, 1) := by decide +kernel
theorem dX12_claimed_19 : decode cX12_claimed 19 = .ok (.iaload, 1) := by decide +kernel
theorem dX12_claimed_20 : decode cX12_claimed 20 = .ok (.isub, 1) := by decide +kernel
theorem dX12_claimed_21 : decode cX12_claimed 21 = .ok (.ireturn, 1) := by decide +kernel
theorem dX12_isSafe_0 : decode cX12_isSafe 0 = .ok (.aload_n 0, 1) := by decide +kernel
theorem dX12_isSafe_1 : decode cX12_isSafe 1 = .ok (.getfield 143, 3) := by decide +kernel
theorem dX12_isSafe_4 : decode cX12_isSafe 4 = .ok (.astore_n 1, 1) := by decide +kernel
theorem dX12_isSafe_5 : decode cX12_isSafe 5 = .ok (.iconst 0, 1) := by decide +kernel
theorem dX12_isSafe_6 : decode cX12_isSafe 6 = .ok (.istore_n 2, 1) := by decide +kernel
theorem dX12_isSafe_7 : decode cX12_isSafe 7 = .ok (.iconst 0, 1) := by decide +kernel
theorem dX12_isSafe_8 : decode cX12_isSafe 8 = .ok (.istore_n 3, 1) := by decide +kernel
theorem dX12_isSafe_9 : decode cX12_isSafe 9 = .ok (.iload_n 3, 1) := by decide +kernel
theorem dX12_isSafe_10 : decode cX12_isSafe 10 = .ok (.bipush 6, 2) := by decide +kernel
theorem dX12_isSafe_12 : decode cX12_isSafe 12 = .ok (.if_icmp .ge 29, 3) := by decide +kernel
theorem dX12_isSafe_15 : decode cX12_isSafe 15 = .ok (.iload_n 2, 1) := by decide +kernel
theorem dX12_isSafe_16 : decode cX12_isSafe 16 = .ok (.aload_n 0, 1) := by decide +kernel
theorem dX12_isSafe_17 : decode cX12_isSafe 17 = .ok (.getfield 32, 3) := by decide +kernel
theorem dX12_isSafe_20 : decode cX12_isSafe 20 = .ok (.iload_n 3, 1) := by decide +kernel
theorem dX12_isSafe_21 : decode cX12_isSafe 21 = .ok (.iaload, 1) := by decide +kernel
theorem dX12_isSafe_22 : decode cX12_isSafe 22 = .ok (.iconst 2, 1) := by decide +kernel
theorem dX12_isSafe_23 : decode cX12_isSafe 23 = .ok (.if_icmp .ne 9, 3) := by decide +kernel
theorem dX12_isSafe_26 : decode cX12_isSafe 26 = .ok (.iconst 1, 1) := by decide +kernel
theorem dX12_isSafe_27 : decode cX12_isSafe 27 = .ok (.iload_n 3, 1) := by decide +kernel
theorem dX12_isSafe_28 : decode cX12_isSafe 28 = .ok (.ishl, 1) := by decide +kernel
theorem dX12_isSafe_29 : decode cX12_isSafe 29 = .ok (.goto 4, 3) := by decide +kernel
theorem dX12_isSafe_32 : decode cX12_isSafe 32 = .ok (.iconst 0, 1) := by decide +kernel
theorem dX12_isSafe_33 : decode cX12_isSafe 33 = .ok (.ior, 1) := by decide +kernel
theorem dX12_isSafe_34 : decode cX12_isSafe 34 = .ok (.istore_n 2, 1) := by decide +kernel
theorem dX12_isSafe_35 : decode cX12_isSafe 35 = .ok (.iinc 3 1, 3) := by decide +kernel
theorem dX12_isSafe_38 : decode cX12_isSafe 38 = .ok (.goto (-29), 3) := by decide +kernel
theorem dX12_isSafe_41 : decode cX12_isSafe 41 = .ok (.iconst 0, 1) := by decide +kernel
theorem dX12_isSafe_42 : decode cX12_isSafe 42 = .ok (.istore_n 3, 1) := by decide +kernel
theorem dX12_isSafe_43 : decode cX12_isSafe 43 = .ok (.iload_n 3, 1) := by decide +kernel
theorem dX12_isSafe_44 : decode cX12_isSafe 44 = .ok (.bipush 64, 2) := by decide +kernel
theorem dX12_isSafe_46 : decode cX12_isSafe 46 = .ok (.if_icmp .ge 21, 3) := by decide +kernel
theorem dX12_isSafe_49 : decode cX12_isSafe 49 = .ok (.aload_n 1, 1) := by decide +kernel
theorem dX12_isSafe_50 : decode cX12_isSafe 50 = .ok (.iload_n 3, 1) := by decide +kernel
theorem dX12_isSafe_51 : decode cX12_isSafe 51 = .ok (.iload_n 3, 1) := by decide +kernel
theorem dX12_isSafe_52 : decode cX12_isSafe 52 = .ok (.ifCond .ne 7, 3) := by decide +kernel
theorem dX12_isSafe_55 : decode cX12_isSafe 55 = .ok (.iconst 1, 1) := by decide +kernel
theorem dX12_isSafe_56 : decode cX12_isSafe 56 = .ok (.goto 4, 3) := by decide +kernel
theorem dX12_isSafe_59 : decode cX12_isSafe 59 = .ok (.iconst 0, 1) := by decide +kernel
theorem dX12_isSafe_60 : decode cX12_isSafe 60 = .ok (.bastore, 1) := by decide +kernel
theorem dX12_isSafe_61 : decode cX12_isSafe 61 = .ok (.iinc 3 1, 3) := by decide +kernel
theorem dX12_isSafe_64 : decode cX12_isSafe 64 = .ok (.goto (-21), 3) := by decide +kernel
theorem dX12_isSafe_67 : decode cX12_isSafe 67 = .ok (.iconst 0, 1) := by decide +kernel
theorem dX12_isSafe_68 : decode cX12_isSafe 68 = .ok (.istore_n 3, 1) := by decide +kernel
theorem dX12_isSafe_69 : decode cX12_isSafe 69 = .ok (.iload_n 3, 1) := by decide +kernel
theorem dX12_isSafe_70 : decode cX12_isSafe 70 = .ok (.bipush 64, 2) := by decide +kernel
theorem dX12_isSafe_72 : decode cX12_isSafe 72 = .ok (.if_icmp .ge 69, 3) := by decide +kernel
theorem dX12_isSafe_75 : decode cX12_isSafe 75 = .ok (.iconst 0, 1) := by decide +kernel
theorem dX12_isSafe_76 : decode cX12_isSafe 76 = .ok (.istore 4, 2) := by decide +kernel
theorem dX12_isSafe_78 : decode cX12_isSafe 78 = .ok (.iload 4, 2) := by decide +kernel
theorem dX12_isSafe_80 : decode cX12_isSafe 80 = .ok (.bipush 6, 2) := by decide +kernel
theorem dX12_isSafe_82 : decode cX12_isSafe 82 = .ok (.if_icmp .ge 53, 3) := by decide +kernel
theorem dX12_isSafe_85 : decode cX12_isSafe 85 = .ok (.aload_n 1, 1) := by decide +kernel
theorem dX12_isSafe_86 : decode cX12_isSafe 86 = .ok (.iload_n 3, 1) := by decide +kernel
theorem dX12_isSafe_87 : decode cX12_isSafe 87 = .ok (.baload, 1) := by decide +kernel
theorem dX12_isSafe_88 : decode cX12_isSafe 88 = .ok (.ifCond .eq 47, 3) := by decide +kernel
theorem dX12_isSafe_91 : decode cX12_isSafe 91 = .ok (.iload_n 2, 1) := by decide +kernel
theorem dX12_isSafe_92 : decode cX12_isSafe 92 = .ok (.iload 4, 2) := by decide +kernel
theorem dX12_isSafe_94 : decode cX12_isSafe 94 = .ok (.ishr, 1) := by decide +kernel
theorem dX12_isSafe_95 : decode cX12_isSafe 95 = .ok (.iconst 1, 1) := by decide +kernel
theorem dX12_isSafe_96 : decode cX12_isSafe 96 = .ok (.iand, 1) := by decide +kernel
theorem dX12_isSafe_97 : decode cX12_isSafe 97 = .ok (.iconst 1, 1) := by decide +kernel
theorem dX12_isSafe_98 : decode cX12_isSafe 98 = .ok (.if_icmp .ne 31, 3) := by decide +kernel
theorem dX12_isSafe_101 : decode cX12_isSafe 101 = .ok (.iload_n 3, 1) := by decide +kernel
theorem dX12_isSafe_102 : decode cX12_isSafe 102 = .ok (.iload 4, 2) := by decide +kernel
theorem dX12_isSafe_104 : decode cX12_isSafe 104 = .ok (.ishr, 1) := by decide +kernel
theorem dX12_isSafe_105 : decode cX12_isSafe 105 = .ok (.iconst 1, 1) := by decide +kernel
theorem dX12_isSafe_106 : decode cX12_isSafe 106 = .ok (.iand, 1) := by decide +kernel
theorem dX12_isSafe_107 : decode cX12_isSafe 107 = .ok (.ifCond .ne 22, 3) := by decide +kernel
theorem dX12_isSafe_110 : decode cX12_isSafe 110 = .ok (.aload_n 0, 1) := by decide +kernel
theorem dX12_isSafe_111 : decode cX12_isSafe 111 = .ok (.iload_n 3, 1) := by decide +kernel
theorem dX12_isSafe_112 : decode cX12_isSafe 112 = .ok (.iload 4, 2) := by decide +kernel
theorem dX12_isSafe_114 : decode cX12_isSafe 114 = .ok (.invokevirtual 277, 3) := by decide +kernel
theorem dX12_isSafe_117 : decode cX12_isSafe 117 = .ok (.ifCond .eq 12, 3) := by decide +kernel
theorem dX12_isSafe_120 : decode cX12_isSafe 120 = .ok (.aload_n 1, 1) := by decide +kernel
theorem dX12_isSafe_121 : decode cX12_isSafe 121 = .ok (.iload_n 3, 1) := by decide +kernel
theorem dX12_isSafe_122 : decode cX12_isSafe 122 = .ok (.iconst 1, 1) := by decide +kernel
theorem dX12_isSafe_123 : decode cX12_isSafe 123 = .ok (.iload 4, 2) := by decide +kernel
theorem dX12_isSafe_125 : decode cX12_isSafe 125 = .ok (.ishl, 1) := by decide +kernel
theorem dX12_isSafe_126 : decode cX12_isSafe 126 = .ok (.ior, 1) := by decide +kernel
theorem dX12_isSafe_127 : decode cX12_isSafe 127 = .ok (.iconst 1, 1) := by decide +kernel
theorem dX12_isSafe_128 : decode cX12_isSafe 128 = .ok (.bastore, 1) := by decide +kernel
theorem dX12_isSafe_129 : decode cX12_isSafe 129 = .ok (.iinc 4 1, 3) := by decide +kernel
theorem dX12_isSafe_132 : decode cX12_isSafe 132 = .ok (.goto (-54), 3) := by decide +kernel
theorem dX12_isSafe_135 : decode cX12_isSafe 135 = .ok (.iinc 3 1, 3) := by decide +kernel
theorem dX12_isSafe_138 : decode cX12_isSafe 138 = .ok (.goto (-69), 3) := by decide +kernel
theorem dX12_isSafe_141 : decode cX12_isSafe 141 = .ok (.aload_n 1, 1) := by decide +kernel
theorem dX12_isSafe_142 : decode cX12_isSafe 142 = .ok (.iload_n 2, 1) := by decide +kernel
theorem dX12_isSafe_143 : decode cX12_isSafe 143 = .ok (.baload, 1) := by decide +kernel
theorem dX12_isSafe_144 : decode cX12_isSafe 144 = .ok (.ireturn, 1) := by decide +kernel
theorem dX12_isNext_0 : decode cX12_isNext 0 = .ok (.iconst 1, 1) := by decide +kernel
theorem dX12_isNext_1 : decode cX12_isNext 1 = .ok (.istore_n 3, 1) := by decide +kernel
theorem dX12_isNext_2 : decode cX12_isNext 2 = .ok (.iconst 0, 1) := by decide +kernel
theorem dX12_isNext_3 : decode cX12_isNext 3 = .ok (.istore 4, 2) := by decide +kernel
theorem dX12_isNext_5 : decode cX12_isNext 5 = .ok (.iload 4, 2) := by decide +kernel
theorem dX12_isNext_7 : decode cX12_isNext 7 = .ok (.iconst 3, 1) := by decide +kernel
theorem dX12_isNext_8 : decode cX12_isNext 8 = .ok (.if_icmp .ge 87, 3) := by decide +kernel
theorem dX12_isNext_11 : decode cX12_isNext 11 = .ok (.aload_n 0, 1) := by decide +kernel
theorem dX12_isNext_12 : decode cX12_isNext 12 = .ok (.getfield 71, 3) := by decide +kernel
theorem dX12_isNext_15 : decode cX12_isNext 15 = .ok (.iload 4, 2) := by decide +kernel
theorem dX12_isNext_17 : decode cX12_isNext 17 = .ok (.iaload, 1) := by decide +kernel
theorem dX12_isNext_18 : decode cX12_isNext 18 = .ok (.istore 5, 2) := by decide +kernel
theorem dX12_isNext_20 : decode cX12_isNext 20 = .ok (.iconst 0, 1) := by decide +kernel
theorem dX12_isNext_21 : decode cX12_isNext 21 = .ok (.istore 6, 2) := by decide +kernel
theorem dX12_isNext_23 : decode cX12_isNext 23 = .ok (.iload 6, 2) := by decide +kernel
theorem dX12_isNext_25 : decode cX12_isNext 25 = .ok (.bipush 6, 2) := by decide +kernel
theorem dX12_isNext_27 : decode cX12_isNext 27 = .ok (.if_icmp .ge 40, 3) := by decide +kernel
theorem dX12_isNext_30 : decode cX12_isNext 30 = .ok (.iload 5, 2) := by decide +kernel
theorem dX12_isNext_32 : decode cX12_isNext 32 = .ok (.iload_n 1, 1) := by decide +kernel
theorem dX12_isNext_33 : decode cX12_isNext 33 = .ok (.iload 6, 2) := by decide +kernel
theorem dX12_isNext_35 : decode cX12_isNext 35 = .ok (.ishr, 1) := by decide +kernel
theorem dX12_isNext_36 : decode cX12_isNext 36 = .ok (.iconst 1, 1) := by decide +kernel
theorem dX12_isNext_37 : decode cX12_isNext 37 = .ok (.iand, 1) := by decide +kernel
theorem dX12_isNext_38 : decode cX12_isNext 38 = .ok (.iconst 1, 1) := by decide +kernel
theorem dX12_isNext_39 : decode cX12_isNext 39 = .ok (.if_icmp .ne 18, 3) := by decide +kernel
theorem dX12_isNext_42 : decode cX12_isNext 42 = .ok (.aload_n 0, 1) := by decide +kernel
theorem dX12_isNext_43 : decode cX12_isNext 43 = .ok (.getfield 68, 3) := by decide +kernel
theorem dX12_isNext_46 : decode cX12_isNext 46 = .ok (.iconst 3, 1) := by decide +kernel
theorem dX12_isNext_47 : decode cX12_isNext 47 = .ok (.iload 6, 2) := by decide +kernel
theorem dX12_isNext_49 : decode cX12_isNext 49 = .ok (.imul, 1) := by decide +kernel
theorem dX12_isNext_50 : decode cX12_isNext 50 = .ok (.iload 4, 2) := by decide +kernel
theorem dX12_isNext_52 : decode cX12_isNext 52 = .ok (.iadd, 1) := by decide +kernel
theorem dX12_isNext_53 : decode cX12_isNext 53 = .ok (.iaload, 1) := by decide +kernel
theorem dX12_isNext_54 : decode cX12_isNext 54 = .ok (.goto 4, 3) := by decide +kernel
theorem dX12_isNext_57 : decode cX12_isNext 57 = .ok (.iconst 0, 1) := by decide +kernel
theorem dX12_isNext_58 : decode cX12_isNext 58 = .ok (.iadd, 1) := by decide +kernel
theorem dX12_isNext_59 : decode cX12_isNext 59 = .ok (.istore 5, 2) := by decide +kernel
theorem dX12_isNext_61 : decode cX12_isNext 61 = .ok (.iinc 6 1, 3) := by decide +kernel
theorem dX12_isNext_64 : decode cX12_isNext 64 = .ok (.goto (-41), 3) := by decide +kernel
theorem dX12_isNext_67 : decode cX12_isNext 67 = .ok (.iload_n 3, 1) := by decide +kernel
theorem dX12_isNext_68 : decode cX12_isNext 68 = .ok (.ifCond .eq 19, 3) := by decide +kernel
theorem dX12_isNext_71 : decode cX12_isNext 71 = .ok (.aload_n 0, 1) := by decide +kernel
theorem dX12_isNext_72 : decode cX12_isNext 72 = .ok (.iload_n 2, 1) := by decide +kernel
theorem dX12_isNext_73 : decode cX12_isNext 73 = .ok (.iload 4, 2) := by decide +kernel
theorem dX12_isNext_75 : decode cX12_isNext 75 = .ok (.invokevirtual 281, 3) := by decide +kernel
theorem dX12_isNext_78 : decode cX12_isNext 78 = .ok (.iload 5, 2) := by decide +kernel
theorem dX12_isNext_80 : decode cX12_isNext 80 = .ok (.if_icmp .gt 7, 3) := by decide +kernel
theorem dX12_isNext_83 : decode cX12_isNext 83 = .ok (.iconst 1, 1) := by decide +kernel
theorem dX12_isNext_84 : decode cX12_isNext 84 = .ok (.goto 4, 3) := by decide +kernel
theorem dX12_isNext_87 : decode cX12_isNext 87 = .ok (.iconst 0, 1) := by decide +kernel
theorem dX12_isNext_88 : decode cX12_isNext 88 = .ok (.istore_n 3, 1) := by decide +kernel
theorem dX12_isNext_89 : decode cX12_isNext 89 = .ok (.iinc 4 1, 3) := by decide +kernel
theorem dX12_isNext_92 : decode cX12_isNext 92 = .ok (.goto (-87), 3) := by decide +kernel
theorem dX12_isNext_95 : decode cX12_isNext 95 = .ok (.iload_n 3, 1) := by decide +kernel
theorem dX12_isNext_96 : decode cX12_isNext 96 = .ok (.ireturn, 1) := by decide +kernel
theorem dX12_grants_0 : decode cX12_grants 0 = .ok (.aload_n 0, 1) := by decide +kernel
theorem dX12_grants_1 : decode cX12_grants 1 = .ok (.getfield 71, 3) := by decide +kernel
theorem dX12_grants_4 : decode cX12_grants 4 = .ok (.iload_n 2, 1) := by decide +kernel
theorem dX12_grants_5 : decode cX12_grants 5 = .ok (.iaload, 1) := by decide +kernel
theorem dX12_grants_6 : decode cX12_grants 6 = .ok (.ifCond .ne 5, 3) := by decide +kernel
theorem dX12_grants_9 : decode cX12_grants 9 = .ok (.iconst 0, 1) := by decide +kernel
theorem dX12_grants_10 : decode cX12_grants 10 = .ok (.ireturn, 1) := by decide +kernel
theorem dX12_grants_11 : decode cX12_grants 11 = .ok (.aload_n 0, 1) := by decide +kernel
theorem dX12_grants_12 : decode cX12_grants 12 = .ok (.getfield 71, 3) := by decide +kernel
theorem dX12_grants_15 : decode cX12_grants 15 = .ok (.iload_n 2, 1) := by decide +kernel
theorem dX12_grants_16 : decode cX12_grants 16 = .ok (.dup2, 1) := by decide +kernel
theorem dX12_grants_17 : decode cX12_grants 17 = .ok (.iaload, 1) := by decide +kernel
theorem dX12_grants_18 : decode cX12_grants 18 = .ok (.iconst 1, 1) := by decide +kernel
theorem dX12_grants_19 : decode cX12_grants 19 = .ok (.isub, 1) := by decide +kernel
theorem dX12_grants_20 : decode cX12_grants 20 = .ok (.iastore, 1) := by decide +kernel
theorem dX12_grants_21 : decode cX12_grants 21 = .ok (.aload_n 0, 1) := by decide +kernel
theorem dX12_grants_22 : decode cX12_grants 22 = .ok (.getfield 68, 3) := by decide +kernel
theorem dX12_grants_25 : decode cX12_grants 25 = .ok (.iconst 3, 1) := by decide +kernel
theorem dX12_grants_26 : decode cX12_grants 26 = .ok (.iload_n 1, 1) := by decide +kernel
theorem dX12_grants_27 : decode cX12_grants 27 = .ok (.imul, 1) := by decide +kernel
theorem dX12_grants_28 : decode cX12_grants 28 = .ok (.iload_n 2, 1) := by decide +kernel
theorem dX12_grants_29 : decode cX12_grants 29 = .ok (.iadd, 1) := by decide +kernel
theorem dX12_grants_30 : decode cX12_grants 30 = .ok (.dup2, 1) := by decide +kernel
theorem dX12_grants_31 : decode cX12_grants 31 = .ok (.iaload, 1) := by decide +kernel
theorem dX12_grants_32 : decode cX12_grants 32 = .ok (.iconst 1, 1) := by decide +kernel
theorem dX12_grants_33 : decode cX12_grants 33 = .ok (.iadd, 1) := by decide +kernel
theorem dX12_grants_34 : decode cX12_grants 34 = .ok (.iastore, 1) := by decide +kernel
theorem dX12_grants_35 : decode cX12_grants 35 = .ok (.aload_n 0, 1) := by decide +kernel
theorem dX12_grants_36 : decode cX12_grants 36 = .ok (.invokevirtual 284, 3) := by decide +kernel
theorem dX12_grants_39 : decode cX12_grants 39 = .ok (.ifCond .eq 5, 3) := by decide +kernel
theorem dX12_grants_42 : decode cX12_grants 42 = .ok (.iconst 1, 1) := by decide +kernel
theorem dX12_grants_43 : decode cX12_grants 43 = .ok (.ireturn, 1) := by decide +kernel
theorem dX12_grants_44 : decode cX12_grants 44 = .ok (.aload_n 0, 1) := by decide +kernel
theorem dX12_grants_45 : decode cX12_grants 45 = .ok (.getfield 71, 3) := by decide +kernel
theorem dX12_grants_48 : decode cX12_grants 48 = .ok (.iload_n 2, 1) := by decide +kernel
theorem dX12_grants_49 : decode cX12_grants 49 = .ok (.dup2, 1) := by decide +kernel
theorem dX12_grants_50 : decode cX12_grants 50 = .ok (.iaload, 1) := by decide +kernel
theorem dX12_grants_51 : decode cX12_grants 51 = .ok (.iconst 1, 1) := by decide +kernel
theorem dX12_grants_52 : decode cX12_grants 52 = .ok (.iadd, 1) := by decide +kernel
theorem dX12_grants_53 : decode cX12_grants 53 = .ok (.iastore, 1) := by decide +kernel
theorem dX12_grants_54 : decode cX12_grants 54 = .ok (.aload_n 0, 1) := by decide +kernel
theorem dX12_grants_55 : decode cX12_grants 55 = .ok (.getfield 68, 3) := by decide +kernel
theorem dX12_grants_58 : decode cX12_grants 58 = .ok (.iconst 3, 1) := by decide +kernel
theorem dX12_grants_59 : decode cX12_grants 59 = .ok (.iload_n 1, 1) := by decide +kernel
theorem dX12_grants_60 : decode cX12_grants 60 = .ok (.imul, 1) := by decide +kernel
theorem dX12_grants_61 : decode cX12_grants 61 = .ok (.iload_n 2, 1) := by decide +kernel
theorem dX12_grants_62 : decode cX12_grants 62 = .ok (.iadd, 1) := by decide +kernel
theorem dX12_grants_63 : decode cX12_grants 63 = .ok (.dup2, 1) := by decide +kernel
theorem dX12_grants_64 : decode cX12_grants 64 = .ok (.iaload, 1) := by decide +kernel
theorem dX12_grants_65 : decode cX12_grants 65 = .ok (.iconst 1, 1) := by decide +kernel
theorem dX12_grants_66 : decode cX12_grants 66 = .ok (.isub, 1) := by decide +kernel
theorem dX12_grants_67 : decode cX12_grants 67 = .ok (.iastore, 1) := by decide +kernel
theorem dX12_grants_68 : decode cX12_grants 68 = .ok (.iconst 0, 1) := by decide +kernel
theorem dX12_grants_69 : decode cX12_grants 69 = .ok (.ireturn, 1) := by decide +kernel
theorem dX12_get_0 : decode cX12_get 0 = .ok (.iload_n 2, 1) := by decide +kernel
theorem dX12_get_1 : decode cX12_get 1 = .ok (.iconst 2, 1) := by decide +kernel
theorem dX12_get_2 : decode cX12_get 2 = .ok (.if_icmp .le 13, 3) := by decide +kernel
theorem dX12_get_5 : decode cX12_get 5 = .ok (.aload_n 0, 1) := by decide +kernel
theorem dX12_get_6 : decode cX12_get 6 = .ok (.getfield 38, 3) := by decide +kernel
theorem dX12_get_9 : decode cX12_get 9 = .ok (.iload_n 1, 1) := by decide +kernel
theorem dX12_get_10 : decode cX12_get 10 = .ok (.iconst 4, 1) := by decide +kernel
theorem dX12_get_11 : decode cX12_get 11 = .ok (.iastore, 1) := by decide +kernel
theorem dX12_get_12 : decode cX12_get 12 = .ok (.goto 74, 3) := by decide +kernel
theorem dX12_get_15 : decode cX12_get 15 = .ok (.aload_n 0, 1) := by decide +kernel
theorem dX12_get_16 : decode cX12_get 16 = .ok (.iload_n 1, 1) := by decide +kernel
theorem dX12_get_17 : decode cX12_get 17 = .ok (.iload_n 2, 1) := by decide +kernel
theorem dX12_get_18 : decode cX12_get 18 = .ok (.invokevirtual 281, 3) := by decide +kernel
theorem dX12_get_21 : decode cX12_get 21 = .ok (.iconst 1, 1) := by decide +kernel
theorem dX12_get_22 : decode cX12_get 22 = .ok (.if_icmp .ge 13, 3) := by decide +kernel
theorem dX12_get_25 : decode cX12_get 25 = .ok (.aload_n 0, 1) := by decide +kernel
theorem dX12_get_26 : decode cX12_get 26 = .ok (.getfield 38, 3) := by decide +kernel
theorem dX12_get_29 : decode cX12_get 29 = .ok (.iload_n 1, 1) := by decide +kernel
theorem dX12_get_30 : decode cX12_get 30 = .ok (.iconst 3, 1) := by decide +kernel
theorem dX12_get_31 : decode cX12_get 31 = .ok (.iastore, 1) := by decide +kernel
theorem dX12_get_32 : decode cX12_get 32 = .ok (.goto 54, 3) := by decide +kernel
theorem dX12_get_35 : decode cX12_get 35 = .ok (.aload_n 0, 1) := by decide +kernel
theorem dX12_get_36 : decode cX12_get 36 = .ok (.iload_n 1, 1) := by decide +kernel
theorem dX12_get_37 : decode cX12_get 37 = .ok (.iload_n 2, 1) := by decide +kernel
theorem dX12_get_38 : decode cX12_get 38 = .ok (.invokevirtual 288, 3) := by decide +kernel
theorem dX12_get_41 : decode cX12_get 41 = .ok (.ifCond .eq 11, 3) := by decide +kernel
theorem dX12_get_44 : decode cX12_get 44 = .ok (.aload_n 0, 1) := by decide +kernel
theorem dX12_get_45 : decode cX12_get 45 = .ok (.iload_n 1, 1) := by decide +kernel
theorem dX12_get_46 : decode cX12_get 46 = .ok (.invokevirtual 224, 3) := by decide +kernel
theorem dX12_get_49 : decode cX12_get 49 = .ok (.goto 37, 3) := by decide +kernel
theorem dX12_get_52 : decode cX12_get 52 = .ok (.aload_n 0, 1) := by decide +kernel
theorem dX12_get_53 : decode cX12_get 53 = .ok (.getfield 74, 3) := by decide +kernel
theorem dX12_get_56 : decode cX12_get 56 = .ok (.iload_n 1, 1) := by decide +kernel
theorem dX12_get_57 : decode cX12_get 57 = .ok (.iload_n 2, 1) := by decide +kernel
theorem dX12_get_58 : decode cX12_get 58 = .ok (.iastore, 1) := by decide +kernel
theorem dX12_get_59 : decode cX12_get 59 = .ok (.aload_n 0, 1) := by decide +kernel
theorem dX12_get_60 : decode cX12_get 60 = .ok (.getfield 128, 3) := by decide +kernel
theorem dX12_get_63 : decode cX12_get 63 = .ok (.aload_n 0, 1) := by decide +kernel
theorem dX12_get_64 : decode cX12_get 64 = .ok (.getfield 291, 3) := by decide +kernel
theorem dX12_get_67 : decode cX12_get 67 = .ok (.iload_n 1, 1) := by decide +kernel
theorem dX12_get_68 : decode cX12_get 68 = .ok (.iastore, 1) := by decide +kernel
theorem dX12_get_69 : decode cX12_get 69 = .ok (.aload_n 0, 1) := by decide +kernel
theorem dX12_get_70 : decode cX12_get 70 = .ok (.dup, 1) := by decide +kernel
theorem dX12_get_71 : decode cX12_get 71 = .ok (.getfield 291, 3) := by decide +kernel
theorem dX12_get_74 : decode cX12_get 74 = .ok (.iconst 1, 1) := by decide +kernel
theorem dX12_get_75 : decode cX12_get 75 = .ok (.iadd, 1) := by decide +kernel
theorem dX12_get_76 : decode cX12_get 76 = .ok (.putfield 291, 3) := by decide +kernel
theorem dX12_get_79 : decode cX12_get 79 = .ok (.aload_n 0, 1) := by decide +kernel
theorem dX12_get_80 : decode cX12_get 80 = .ok (.iload_n 1, 1) := by decide +kernel
theorem dX12_get_81 : decode cX12_get 81 = .ok (.bipush 6, 2) := by decide +kernel
theorem dX12_get_83 : decode cX12_get 83 = .ok (.invokevirtual 194, 3) := by decide +kernel
theorem dX12_get_86 : decode cX12_get 86 = .ok (.return_, 1) := by decide +kernel
theorem dX12_leaveGets_0 : decode cX12_leaveGets 0 = .ok (.iload_n 1, 1) := by decide +kernel
theorem dX12_leaveGets_1 : decode cX12_leaveGets 1 = .ok (.iconst 1, 1) := by decide +kernel
theorem dX12_leaveGets_2 : decode cX12_leaveGets 2 = .ok (.iadd, 1) := by decide +kernel
theorem dX12_leaveGets_3 : decode cX12_leaveGets 3 = .ok (.istore_n 2, 1) := by decide +kernel
theorem dX12_leaveGets_4 : decode cX12_leaveGets 4 = .ok (.iload_n 2, 1) := by decide +kernel
theorem dX12_leaveGets_5 : decode cX12_leaveGets 5 = .ok (.aload_n 0, 1) := by decide +kernel
theorem dX12_leaveGets_6 : decode cX12_leaveGets 6 = .ok (.getfield 291, 3) := by decide +kernel
theorem dX12_leaveGets_9 : decode cX12_leaveGets 9 = .ok (.if_icmp .ge 23, 3) := by decide +kernel
theorem dX12_leaveGets_12 : decode cX12_leaveGets 12 = .ok (.aload_n 0, 1) := by decide +kernel
theorem dX12_leaveGets_13 : decode cX12_leaveGets 13 = .ok (.getfield 128, 3) := by decide +kernel
theorem dX12_leaveGets_16 : decode cX12_leaveGets 16 = .ok (.iload_n 2, 1) := by decide +kernel
theorem dX12_leaveGets_17 : decode cX12_leaveGets 17 = .ok (.iconst 1, 1) := by decide +kernel
theorem dX12_leaveGets_18 : decode cX12_leaveGets 18 = .ok (.isub, 1) := by decide +kernel
theorem dX12_leaveGets_19 : decode cX12_leaveGets 19 = .ok (.aload_n 0, 1) := by decide +kernel
theorem dX12_leaveGets_20 : decode cX12_leaveGets 20 = .ok (.getfield 128, 3) := by decide +kernel
theorem dX12_leaveGets_23 : decode cX12_leaveGets 23 = .ok (.iload_n 2, 1) := by decide +kernel
theorem dX12_leaveGets_24 : decode cX12_leaveGets 24 = .ok (.iaload, 1) := by decide +kernel
theorem dX12_leaveGets_25 : decode cX12_leaveGets 25 = .ok (.iastore, 1) := by decide +kernel
theorem dX12_leaveGets_26 : decode cX12_leaveGets 26 = .ok (.iinc 2 1, 3) := by decide +kernel
theorem dX12_leaveGets_29 : decode cX12_leaveGets 29 = .ok (.goto (-25), 3) := by decide +kernel
theorem dX12_leaveGets_32 : decode cX12_leaveGets 32 = .ok (.aload_n 0, 1) := by decide +kernel
theorem dX12_leaveGets_33 : decode cX12_leaveGets 33 = .ok (.dup, 1) := by decide +kernel
theorem dX12_leaveGets_34 : decode cX12_leaveGets 34 = .ok (.getfield 291, 3) := by decide +kernel
theorem dX12_leaveGets_37 : decode cX12_leaveGets 37 = .ok (.iconst 1, 1) := by decide +kernel
theorem dX12_leaveGets_38 : decode cX12_leaveGets 38 = .ok (.isub, 1) := by decide +kernel
theorem dX12_leaveGets_39 : decode cX12_leaveGets 39 = .ok (.putfield 291, 3) := by decide +kernel
theorem dX12_leaveGets_42 : decode cX12_leaveGets 42 = .ok (.return_, 1) := by decide +kernel
theorem dX12_goThroughGets_0 : decode cX12_goThroughGets 0 = .ok (.iconst 0, 1) := by decide +kernel
theorem dX12_goThroughGets_1 : decode cX12_goThroughGets 1 = .ok (.istore_n 1, 1) := by decide +kernel
theorem dX12_goThroughGets_2 : decode cX12_goThroughGets 2 = .ok (.iload_n 1, 1) := by decide +kernel
theorem dX12_goThroughGets_3 : decode cX12_goThroughGets 3 = .ok (.aload_n 0, 1) := by decide +kernel
theorem dX12_goThroughGets_4 : decode cX12_goThroughGets 4 = .ok (.getfield 291, 3) := by decide +kernel
theorem dX12_goThroughGets_7 : decode cX12_goThroughGets 7 = .ok (.if_icmp .ge 48, 3) := by decide +kernel
theorem dX12_goThroughGets_10 : decode cX12_goThroughGets 10 = .ok (.aload_n 0, 1) := by decide +kernel
theorem dX12_goThroughGets_11 : decode cX12_goThroughGets 11 = .ok (.getfield 128, 3) := by decide +kernel
theorem dX12_goThroughGets_14 : decode cX12_goThroughGets 14 = .ok (.iload_n 1, 1) := by decide +kernel
theorem dX12_goThroughGets_15 : decode cX12_goThroughGets 15 = .ok (.iaload, 1) := by decide +kernel
theorem dX12_goThroughGets_16 : decode cX12_goThroughGets 16 = .ok (.istore_n 2, 1) := by decide +kernel
theorem dX12_goThroughGets_17 : decode cX12_goThroughGets 17 = .ok (.aload_n 0, 1) := by decide +kernel
theorem dX12_goThroughGets_18 : decode cX12_goThroughGets 18 = .ok (.iload_n 2, 1) := by decide +kernel
theorem dX12_goThroughGets_19 : decode cX12_goThroughGets 19 = .ok (.aload_n 0, 1) := by decide +kernel
theorem dX12_goThroughGets_20 : decode cX12_goThroughGets 20 = .ok (.getfield 74, 3) := by decide +kernel
theorem dX12_goThroughGets_23 : decode cX12_goThroughGets 23 = .ok (.iload_n 2, 1) := by decide +kernel
theorem dX12_goThroughGets_24 : decode cX12_goThroughGets 24 = .ok (.iaload, 1) := by decide +kernel
theorem dX12_goThroughGets_25 : decode cX12_goThroughGets 25 = .ok (.invokevirtual 288, 3) := by decide +kernel
theorem dX12_goThroughGets_28 : decode cX12_goThroughGets 28 = .ok (.ifCond .eq 21, 3) := by decide +kernel
theorem dX12_goThroughGets_31 : decode cX12_goThroughGets 31 = .ok (.aload_n 0, 1) := by decide +kernel
theorem dX12_goThroughGets_32 : decode cX12_goThroughGets 32 = .ok (.iload_n 1, 1) := by decide +kernel
theorem dX12_goThroughGets_33 : decode cX12_goThroughGets 33 = .ok (.invokevirtual 294, 3) := by decide +kernel
theorem dX12_goThroughGets_36 : decode cX12_goThroughGets 36 = .ok (.aload_n 0, 1) := by decide +kernel
theorem dX12_goThroughGets_37 : decode cX12_goThroughGets 37 = .ok (.iload_n 2, 1) := by decide +kernel
theorem dX12_goThroughGets_38 : decode cX12_goThroughGets 38 = .ok (.invokevirtual 224, 3) := by decide +kernel
theorem dX12_goThroughGets_41 : decode cX12_goThroughGets 41 = .ok (.aload_n 0, 1) := by decide +kernel
theorem dX12_goThroughGets_42 : decode cX12_goThroughGets 42 = .ok (.iload_n 2, 1) := by decide +kernel
theorem dX12_goThroughGets_43 : decode cX12_goThroughGets 43 = .ok (.invokevirtual 163, 3) := by decide +kernel
theorem dX12_goThroughGets_46 : decode cX12_goThroughGets 46 = .ok (.goto 6, 3) := by decide +kernel
theorem dX12_goThroughGets_49 : decode cX12_goThroughGets 49 = .ok (.iinc 1 1, 3) := by decide +kernel
theorem dX12_goThroughGets_52 : decode cX12_goThroughGets 52 = .ok (.goto (-50), 3) := by decide +kernel
theorem dX12_goThroughGets_55 : decode cX12_goThroughGets 55 = .ok (.return_, 1) := by decide +kernel
theorem dX12_give_0 : decode cX12_give 0 = .ok (.iload_n 2, 1) := by decide +kernel
theorem dX12_give_1 : decode cX12_give 1 = .ok (.iconst 2, 1) := by decide +kernel
theorem dX12_give_2 : decode cX12_give 2 = .ok (.if_icmp .gt 16, 3) := by decide +kernel
theorem dX12_give_5 : decode cX12_give 5 = .ok (.aload_n 0, 1) := by decide +kernel
theorem dX12_give_6 : decode cX12_give 6 = .ok (.getfield 68, 3) := by decide +kernel
theorem dX12_give_9 : decode cX12_give 9 = .ok (.iconst 3, 1) := by decide +kernel
theorem dX12_give_10 : decode cX12_give 10 = .ok (.iload_n 1, 1) := by decide +kernel
theorem dX12_give_11 : decode cX12_give 11 = .ok (.imul, 1) := by decide +kernel
theorem dX12_give_12 : decode cX12_give 12 = .ok (.iload_n 2, 1) := by decide +kernel
theorem dX12_give_13 : decode cX12_give 13 = .ok (.iadd, 1) := by decide +kernel
theorem dX12_give_14 : decode cX12_give 14 = .ok (.iaload, 1) := by decide +kernel
theorem dX12_give_15 : decode cX12_give 15 = .ok (.ifCond .ne 11, 3) := by decide +kernel
theorem dX12_give_18 : decode cX12_give 18 = .ok (.aload_n 0, 1) := by decide +kernel
theorem dX12_give_19 : decode cX12_give 19 = .ok (.getfield 38, 3) := by decide +kernel
theorem dX12_give_22 : decode cX12_give 22 = .ok (.iload_n 1, 1) := by decide +kernel
theorem dX12_give_23 : decode cX12_give 23 = .ok (.iconst 4, 1) := by decide +kernel
theorem dX12_give_24 : decode cX12_give 24 = .ok (.iastore, 1) := by decide +kernel
theorem dX12_give_25 : decode cX12_give 25 = .ok (.return_, 1) := by decide +kernel
theorem dX12_give_26 : decode cX12_give 26 = .ok (.iload_n 2, 1) := by decide +kernel
theorem dX12_give_27 : decode cX12_give 27 = .ok (.ifCond .le 19, 3) := by decide +kernel
theorem dX12_give_30 : decode cX12_give 30 = .ok (.aload_n 0, 1) := by decide +kernel
theorem dX12_give_31 : decode cX12_give 31 = .ok (.getfield 89, 3) := by decide +kernel
theorem dX12_give_34 : decode cX12_give 34 = .ok (.iload_n 1, 1) := by decide +kernel
theorem dX12_give_35 : decode cX12_give 35 = .ok (.iaload, 1) := by decide +kernel
theorem dX12_give_36 : decode cX12_give 36 = .ok (.ifCond .le 10, 3) := by decide +kernel
theorem dX12_give_39 : decode cX12_give 39 = .ok (.aload_n 0, 1) := by decide +kernel
theorem dX12_give_40 : decode cX12_give 40 = .ok (.iload_n 1, 1) := by decide +kernel
theorem dX12_give_41 : decode cX12_give 41 = .ok (.iconst 4, 1) := by decide +kernel
theorem dX12_give_42 : decode cX12_give 42 = .ok (.invokevirtual 194, 3) := by decide +kernel
theorem dX12_give_45 : decode cX12_give 45 = .ok (.return_, 1) := by decide +kernel
theorem dX12_give_46 : decode cX12_give 46 = .ok (.aload_n 0, 1) := by decide +kernel
theorem dX12_give_47 : decode cX12_give 47 = .ok (.getfield 68, 3) := by decide +kernel
theorem dX12_give_50 : decode cX12_give 50 = .ok (.iconst 3, 1) := by decide +kernel
theorem dX12_give_51 : decode cX12_give 51 = .ok (.iload_n 1, 1) := by decide +kernel
theorem dX12_give_52 : decode cX12_give 52 = .ok (.imul, 1) := by decide +kernel
theorem dX12_give_53 : decode cX12_give 53 = .ok (.iload_n 2, 1) := by decide +kernel
theorem dX12_give_54 : decode cX12_give 54 = .ok (.iadd, 1) := by decide +kernel
theorem dX12_give_55 : decode cX12_give 55 = .ok (.dup2, 1) := by decide +kernel
theorem dX12_give_56 : decode cX12_give 56 = .ok (.iaload, 1) := by decide +kernel
theorem dX12_give_57 : decode cX12_give 57 = .ok (.iconst 1, 1) := by decide +kernel
theorem dX12_give_58 : decode cX12_give 58 = .ok (.isub, 1) := by decide +kernel
theorem dX12_give_59 : decode cX12_give 59 = .ok (.iastore, 1) := by decide +kernel
theorem dX12_give_60 : decode cX12_give 60 = .ok (.aload_n 0, 1) := by decide +kernel
theorem dX12_give_61 : decode cX12_give 61 = .ok (.getfield 71, 3) := by decide +kernel
theorem dX12_give_64 : decode cX12_give 64 = .ok (.iload_n 2, 1) := by decide +kernel
theorem dX12_give_65 : decode cX12_give 65 = .ok (.dup2, 1) := by decide +kernel
theorem dX12_give_66 : decode cX12_give 66 = .ok (.iaload, 1) := by decide +kernel
theorem dX12_give_67 : decode cX12_give 67 = .ok (.iconst 1, 1) := by decide +kernel
theorem dX12_give_68 : decode cX12_give 68 = .ok (.iadd, 1) := by decide +kernel
theorem dX12_give_69 : decode cX12_give 69 = .ok (.iastore, 1) := by decide +kernel
theorem dX12_give_70 : decode cX12_give 70 = .ok (.aload_n 0, 1) := by decide +kernel
theorem dX12_give_71 : decode cX12_give 71 = .ok (.iload_n 1, 1) := by decide +kernel
theorem dX12_give_72 : decode cX12_give 72 = .ok (.invokevirtual 224, 3) := by decide +kernel
theorem dX12_give_75 : decode cX12_give 75 = .ok (.aload_n 0, 1) := by decide +kernel
theorem dX12_give_76 : decode cX12_give 76 = .ok (.invokevirtual 297, 3) := by decide +kernel
theorem dX12_give_79 : decode cX12_give 79 = .ok (.return_, 1) := by decide +kernel
theorem dX12_read_0 : decode cX12_read 0 = .ok (.aload_n 0, 1) := by decide +kernel
theorem dX12_read_1 : decode cX12_read 1 = .ok (.getfield 68, 3) := by decide +kernel
theorem dX12_read_4 : decode cX12_read 4 = .ok (.iconst 3, 1) := by decide +kernel
theorem dX12_read_5 : decode cX12_read 5 = .ok (.iload_n 1, 1) := by decide +kernel
theorem dX12_read_6 : decode cX12_read 6 = .ok (.imul, 1) := by decide +kernel
theorem dX12_read_7 : decode cX12_read 7 = .ok (.iaload, 1) := by decide +kernel
theorem dX12_read_8 : decode cX12_read 8 = .ok (.ifCond .eq 18, 3) := by decide +kernel
theorem dX12_read_11 : decode cX12_read 11 = .ok (.aload_n 0, 1) := by decide +kernel
theorem dX12_read_12 : decode cX12_read 12 = .ok (.getfield 83, 3) := by decide +kernel
theorem dX12_read_15 : decode cX12_read 15 = .ok (.iload_n 1, 1) := by decide +kernel
theorem dX12_read_16 : decode cX12_read 16 = .ok (.iaload, 1) := by decide +kernel
theorem dX12_read_17 : decode cX12_read 17 = .ok (.aload_n 0, 1) := by decide +kernel
theorem dX12_read_18 : decode cX12_read 18 = .ok (.getfield 80, 3) := by decide +kernel
theorem dX12_read_21 : decode cX12_read 21 = .ok (.iload_n 1, 1) := by decide +kernel
theorem dX12_read_22 : decode cX12_read 22 = .ok (.iaload, 1) := by decide +kernel
theorem dX12_read_23 : decode cX12_read 23 = .ok (.if_icmp .ne 11, 3) := by decide +kernel
theorem dX12_read_26 : decode cX12_read 26 = .ok (.aload_n 0, 1) := by decide +kernel
theorem dX12_read_27 : decode cX12_read 27 = .ok (.getfield 38, 3) := by decide +kernel
theorem dX12_read_30 : decode cX12_read 30 = .ok (.iload_n 1, 1) := by decide +kernel
theorem dX12_read_31 : decode cX12_read 31 = .ok (.iconst 4, 1) := by decide +kernel
theorem dX12_read_32 : decode cX12_read 32 = .ok (.iastore, 1) := by decide +kernel
theorem dX12_read_33 : decode cX12_read 33 = .ok (.return_, 1) := by decide +kernel
theorem dX12_read_34 : decode cX12_read 34 = .ok (.aload_n 0, 1) := by decide +kernel
theorem dX12_read_35 : decode cX12_read 35 = .ok (.getfield 125, 3) := by decide +kernel
theorem dX12_read_38 : decode cX12_read 38 = .ok (.aload_n 0, 1) := by decide +kernel
theorem dX12_read_39 : decode cX12_read 39 = .ok (.getfield 300, 3) := by decide +kernel
theorem dX12_read_42 : decode cX12_read 42 = .ok (.iload_n 1, 1) := by decide +kernel
theorem dX12_read_43 : decode cX12_read 43 = .ok (.iastore, 1) := by decide +kernel
theorem dX12_read_44 : decode cX12_read 44 = .ok (.aload_n 0, 1) := by decide +kernel
theorem dX12_read_45 : decode cX12_read 45 = .ok (.dup, 1) := by decide +kernel
theorem dX12_read_46 : decode cX12_read 46 = .ok (.getfield 300, 3) := by decide +kernel
theorem dX12_read_49 : decode cX12_read 49 = .ok (.iconst 1, 1) := by decide +kernel
theorem dX12_read_50 : decode cX12_read 50 = .ok (.iadd, 1) := by decide +kernel
theorem dX12_read_51 : decode cX12_read 51 = .ok (.putfield 300, 3) := by decide +kernel
theorem dX12_read_54 : decode cX12_read 54 = .ok (.aload_n 0, 1) := by decide +kernel
theorem dX12_read_55 : decode cX12_read 55 = .ok (.iload_n 1, 1) := by decide +kernel
theorem dX12_read_56 : decode cX12_read 56 = .ok (.iconst 2, 1) := by decide +kernel
theorem dX12_read_57 : decode cX12_read 57 = .ok (.invokevirtual 194, 3) := by decide +kernel
theorem dX12_read_60 : decode cX12_read 60 = .ok (.aload_n 0, 1) := by decide +kernel
theorem dX12_read_61 : decode cX12_read 61 = .ok (.iconst 2, 1) := by decide +kernel
theorem dX12_read_62 : decode cX12_read 62 = .ok (.invokevirtual 198, 3) := by decide +kernel
theorem dX12_read_65 : decode cX12_read 65 = .ok (.return_, 1) := by decide +kernel
theorem dX12_readingStep_0 : decode cX12_readingStep 0 = .ok (.aload_n 0, 1) := by decide +kernel
theorem dX12_readingStep_1 : decode cX12_readingStep 1 = .ok (.getfield 26, 3) := by decide +kernel
theorem dX12_readingStep_4 : decode cX12_readingStep 4 = .ok (.bipush 7, 2) := by decide +kernel
theorem dX12_readingStep_6 : decode cX12_readingStep 6 = .ok (.iaload, 1) := by decide +kernel
theorem dX12_readingStep_7 : decode cX12_readingStep 7 = .ok (.ifCond .ne 67, 3) := by decide +kernel
theorem dX12_readingStep_10 : decode cX12_readingStep 10 = .ok (.aload_n 0, 1) := by decide +kernel
theorem dX12_readingStep_11 : decode cX12_readingStep 11 = .ok (.aload_n 0, 1) := by decide +kernel
theorem dX12_readingStep_12 : decode cX12_readingStep 12 = .ok (.getfield 125, 3) := by decide +kernel
theorem dX12_readingStep_15 : decode cX12_readingStep 15 = .ok (.iconst 0, 1) := by decide +kernel
theorem dX12_readingStep_16 : decode cX12_readingStep 16 = .ok (.iaload, 1) := by decide +kernel
theorem dX12_readingStep_17 : decode cX12_readingStep 17 = .ok (.putfield 303, 3) := by decide +kernel
theorem dX12_readingStep_20 : decode cX12_readingStep 20 = .ok (.iconst 1, 1) := by decide +kernel
theorem dX12_readingStep_21 : decode cX12_readingStep 21 = .ok (.istore_n 1, 1) := by decide +kernel
theorem dX12_readingStep_22 : decode cX12_readingStep 22 = .ok (.iload_n 1, 1) := by decide +kernel
theorem dX12_readingStep_23 : decode cX12_readingStep 23 = .ok (.aload_n 0, 1) := by decide +kernel
theorem dX12_readingStep_24 : decode cX12_readingStep 24 = .ok (.getfield 300, 3) := by decide +kernel
theorem dX12_readingStep_27 : decode cX12_readingStep 27 = .ok (.if_icmp .ge 23, 3) := by decide +kernel
theorem dX12_readingStep_30 : decode cX12_readingStep 30 = .ok (.aload_n 0, 1) := by decide +kernel
theorem dX12_readingStep_31 : decode cX12_readingStep 31 = .ok (.getfield 125, 3) := by decide +kernel
theorem dX12_readingStep_34 : decode cX12_readingStep 34 = .ok (.iload_n 1, 1) := by decide +kernel
theorem dX12_readingStep_35 : decode cX12_readingStep 35 = .ok (.iconst 1, 1) := by decide +kernel
theorem dX12_readingStep_36 : decode cX12_readingStep 36 = .ok (.isub, 1) := by decide +kernel
theorem dX12_readingStep_37 : decode cX12_readingStep 37 = .ok (.aload_n 0, 1) := by decide +kernel
theorem dX12_readingStep_38 : decode cX12_readingStep 38 = .ok (.getfield 125, 3) := by decide +kernel
theorem dX12_readingStep_41 : decode cX12_readingStep 41 = .ok (.iload_n 1, 1) := by decide +kernel
theorem dX12_readingStep_42 : decode cX12_readingStep 42 = .ok (.iaload, 1) := by decide +kernel
theorem dX12_readingStep_43 : decode cX12_readingStep 43 = .ok (.iastore, 1) := by decide +kernel
theorem dX12_readingStep_44 : decode cX12_readingStep 44 = .ok (.iinc 1 1, 3) := by decide +kernel
theorem dX12_readingStep_47 : decode cX12_readingStep 47 = .ok (.goto (-25), 3) := by decide +kernel
theorem dX12_readingStep_50 : decode cX12_readingStep 50 = .ok (.aload_n 0, 1) := by decide +kernel
theorem dX12_readingStep_51 : decode cX12_readingStep 51 = .ok (.dup, 1) := by decide +kernel
theorem dX12_readingStep_52 : decode cX12_readingStep 52 = .ok (.getfield 300, 3) := by decide +kernel
theorem dX12_readingStep_55 : decode cX12_readingStep 55 = .ok (.iconst 1, 1) := by decide +kernel
theorem dX12_readingStep_56 : decode cX12_readingStep 56 = .ok (.isub, 1) := by decide +kernel
theorem dX12_readingStep_57 : decode cX12_readingStep 57 = .ok (.putfield 300, 3) := by decide +kernel
theorem dX12_readingStep_60 : decode cX12_readingStep 60 = .ok (.aload_n 0, 1) := by decide +kernel
theorem dX12_readingStep_61 : decode cX12_readingStep 61 = .ok (.iconst 1, 1) := by decide +kernel
theorem dX12_readingStep_62 : decode cX12_readingStep 62 = .ok (.putfield 306, 3) := by decide +kernel
theorem dX12_readingStep_65 : decode cX12_readingStep 65 = .ok (.aload_n 0, 1) := by decide +kernel
theorem dX12_readingStep_66 : decode cX12_readingStep 66 = .ok (.bipush 7, 2) := by decide +kernel
theorem dX12_readingStep_68 : decode cX12_readingStep 68 = .ok (.iconst 3, 1) := by decide +kernel
theorem dX12_readingStep_69 : decode cX12_readingStep 69 = .ok (.iconst 1, 1) := by decide +kernel
theorem dX12_readingStep_70 : decode cX12_readingStep 70 = .ok (.invokevirtual 267, 3) := by decide +kernel
theorem dX12_readingStep_73 : decode cX12_readingStep 73 = .ok (.return_, 1) := by decide +kernel
theorem dX12_readingStep_74 : decode cX12_readingStep 74 = .ok (.aload_n 0, 1) := by decide +kernel
theorem dX12_readingStep_75 : decode cX12_readingStep 75 = .ok (.getfield 303, 3) := by decide +kernel
theorem dX12_readingStep_78 : decode cX12_readingStep 78 = .ok (.istore_n 1, 1) := by decide +kernel
theorem dX12_readingStep_79 : decode cX12_readingStep 79 = .ok (.aload_n 0, 1) := by decide +kernel
theorem dX12_readingStep_80 : decode cX12_readingStep 80 = .ok (.getfield 47, 3) := by decide +kernel
theorem dX12_readingStep_83 : decode cX12_readingStep 83 = .ok (.iload_n 1, 1) := by decide +kernel
theorem dX12_readingStep_84 : decode cX12_readingStep 84 = .ok (.aload_n 0, 1) := by decide +kernel
theorem dX12_readingStep_85 : decode cX12_readingStep 85 = .ok (.getfield 77, 3) := by decide +kernel
theorem dX12_readingStep_88 : decode cX12_readingStep 88 = .ok (.bipush 40, 2) := by decide +kernel
theorem dX12_readingStep_90 : decode cX12_readingStep 90 = .ok (.iload_n 1, 1) := by decide +kernel
theorem dX12_readingStep_91 : decode cX12_readingStep 91 = .ok (.imul, 1) := by decide +kernel
theorem dX12_readingStep_92 : decode cX12_readingStep 92 = .ok (.aload_n 0, 1) := by decide +kernel
theorem dX12_readingStep_93 : decode cX12_readingStep 93 = .ok (.getfield 83, 3) := by decide +kernel
theorem dX12_readingStep_96 : decode cX12_readingStep 96 = .ok (.iload_n 1, 1) := by decide +kernel
theorem dX12_readingStep_97 : decode cX12_readingStep 97 = .ok (.iaload, 1) := by decide +kernel
theorem dX12_readingStep_98 : decode cX12_readingStep 98 = .ok (.iadd, 1) := by decide +kernel
theorem dX12_readingStep_99 : decode cX12_readingStep 99 = .ok (.iaload, 1) := by decide +kernel
theorem dX12_readingStep_100 : decode cX12_readingStep 100 = .ok (.iastore, 1) := by decide +kernel
theorem dX12_readingStep_101 : decode cX12_readingStep 101 = .ok (.aload_n 0, 1) := by decide +kernel
theorem dX12_readingStep_102 : decode cX12_readingStep 102 = .ok (.getfield 83, 3) := by decide +kernel
theorem dX12_readingStep_105 : decode cX12_readingStep 105 = .ok (.iload_n 1, 1) := by decide +kernel
theorem dX12_readingStep_106 : decode cX12_readingStep 106 = .ok (.dup2, 1) := by decide +kernel
theorem dX12_readingStep_107 : decode cX12_readingStep 107 = .ok (.iaload, 1) := by decide +kernel
theorem dX12_readingStep_108 : decode cX12_readingStep 108 = .ok (.iconst 1, 1) := by decide +kernel
theorem dX12_readingStep_109 : decode cX12_readingStep 109 = .ok (.iadd, 1) := by decide +kernel
theorem dX12_readingStep_110 : decode cX12_readingStep 110 = .ok (.iastore, 1) := by decide +kernel
theorem dX12_readingStep_111 : decode cX12_readingStep 111 = .ok (.aload_n 0, 1) := by decide +kernel
theorem dX12_readingStep_112 : decode cX12_readingStep 112 = .ok (.iload_n 1, 1) := by decide +kernel
theorem dX12_readingStep_113 : decode cX12_readingStep 113 = .ok (.invokevirtual 224, 3) := by decide +kernel
theorem dX12_readingStep_116 : decode cX12_readingStep 116 = .ok (.aload_n 0, 1) := by decide +kernel
theorem dX12_readingStep_117 : decode cX12_readingStep 117 = .ok (.iload_n 1, 1) := by decide +kernel
theorem dX12_readingStep_118 : decode cX12_readingStep 118 = .ok (.invokevirtual 163, 3) := by decide +kernel
theorem dX12_readingStep_121 : decode cX12_readingStep 121 = .ok (.aload_n 0, 1) := by decide +kernel
theorem dX12_readingStep_122 : decode cX12_readingStep 122 = .ok (.bipush 7, 2) := by decide +kernel
theorem dX12_readingStep_124 : decode cX12_readingStep 124 = .ok (.iconst 2, 1) := by decide +kernel
theorem dX12_readingStep_125 : decode cX12_readingStep 125 = .ok (.iconst 0, 1) := by decide +kernel
theorem dX12_readingStep_126 : decode cX12_readingStep 126 = .ok (.invokevirtual 267, 3) := by decide +kernel
theorem dX12_readingStep_129 : decode cX12_readingStep 129 = .ok (.return_, 1) := by decide +kernel
theorem dX12_print_0 : decode cX12_print 0 = .ok (.aload_n 0, 1) := by decide +kernel
theorem dX12_print_1 : decode cX12_print 1 = .ok (.getfield 68, 3) := by decide +kernel
theorem dX12_print_4 : decode cX12_print 4 = .ok (.iconst 3, 1) := by decide +kernel
theorem dX12_print_5 : decode cX12_print 5 = .ok (.iload_n 1, 1) := by decide +kernel
theorem dX12_print_6 : decode cX12_print 6 = .ok (.imul, 1) := by decide +kernel
theorem dX12_print_7 : decode cX12_print 7 = .ok (.iconst 1, 1) := by decide +kernel
theorem dX12_print_8 : decode cX12_print 8 = .ok (.iadd, 1) := by decide +kernel
theorem dX12_print_9 : decode cX12_print 9 = .ok (.iaload, 1) := by decide +kernel
theorem dX12_print_10 : decode cX12_print 10 = .ok (.ifCond .eq 16, 3) := by decide +kernel
theorem dX12_print_13 : decode cX12_print 13 = .ok (.aload_n 0, 1) := by decide +kernel
theorem dX12_print_14 : decode cX12_print 14 = .ok (.getfield 68, 3) := by decide +kernel
theorem dX12_print_17 : decode cX12_print 17 = .ok (.iconst 3, 1) := by decide +kernel
theorem dX12_print_18 : decode cX12_print 18 = .ok (.iload_n 1, 1) := by decide +kernel
theorem dX12_print_19 : decode cX12_print 19 = .ok (.imul, 1) := by decide +kernel
theorem dX12_print_20 : decode cX12_print 20 = .ok (.iconst 2, 1) := by decide +kernel
theorem dX12_print_21 : decode cX12_print 21 = .ok (.iadd, 1) := by decide +kernel
theorem dX12_print_22 : decode cX12_print 22 = .ok (.iaload, 1) := by decide +kernel
theorem dX12_print_23 : decode cX12_print 23 = .ok (.ifCond .ne 13, 3) := by decide +kernel
theorem dX12_print_26 : decode cX12_print 26 = .ok (.aload_n 0, 1) := by decide +kernel
theorem dX12_print_27 : decode cX12_print 27 = .ok (.getfield 38, 3) := by decide +kernel
theorem dX12_print_30 : decode cX12_print 30 = .ok (.iload_n 1, 1) := by decide +kernel
theorem dX12_print_31 : decode cX12_print 31 = .ok (.iconst 4, 1) := by decide +kernel
theorem dX12_print_32 : decode cX12_print 32 = .ok (.iastore, 1) := by decide +kernel
theorem dX12_print_33 : decode cX12_print 33 = .ok (.goto 75, 3) := by decide +kernel
theorem dX12_print_36 : decode cX12_print 36 = .ok (.aload_n 0, 1) := by decide +kernel
theorem dX12_print_37 : decode cX12_print 37 = .ok (.getfield 89, 3) := by decide +kernel
theorem dX12_print_40 : decode cX12_print 40 = .ok (.iload_n 1, 1) := by decide +kernel
theorem dX12_print_41 : decode cX12_print 41 = .ok (.iaload, 1) := by decide +kernel
theorem dX12_print_42 : decode cX12_print 42 = .ok (.iconst 4, 1) := by decide +kernel
theorem dX12_print_43 : decode cX12_print 43 = .ok (.aload_n 0, 1) := by decide +kernel
theorem dX12_print_44 : decode cX12_print 44 = .ok (.getfield 68, 3) := by decide +kernel
theorem dX12_print_47 : decode cX12_print 47 = .ok (.iconst 3, 1) := by decide +kernel
theorem dX12_print_48 : decode cX12_print 48 = .ok (.iload_n 1, 1) := by decide +kernel
theorem dX12_print_49 : decode cX12_print 49 = .ok (.imul, 1) := by decide +kernel
theorem dX12_print_50 : decode cX12_print 50 = .ok (.iconst 2, 1) := by decide +kernel
theorem dX12_print_51 : decode cX12_print 51 = .ok (.iadd, 1) := by decide +kernel
theorem dX12_print_52 : decode cX12_print 52 = .ok (.iaload, 1) := by decide +kernel
theorem dX12_print_53 : decode cX12_print 53 = .ok (.imul, 1) := by decide +kernel
theorem dX12_print_54 : decode cX12_print 54 = .ok (.if_icmp .lt 12, 3) := by decide +kernel
theorem dX12_print_57 : decode cX12_print 57 = .ok (.aload_n 0, 1) := by decide +kernel
theorem dX12_print_58 : decode cX12_print 58 = .ok (.iload_n 1, 1) := by decide +kernel
theorem dX12_print_59 : decode cX12_print 59 = .ok (.iconst 3, 1) := by decide +kernel
theorem dX12_print_60 : decode cX12_print 60 = .ok (.invokevirtual 194, 3) := by decide +kernel
theorem dX12_print_63 : decode cX12_print 63 = .ok (.goto 45, 3) := by decide +kernel
theorem dX12_print_66 : decode cX12_print 66 = .ok (.aload_n 0, 1) := by decide +kernel
theorem dX12_print_67 : decode cX12_print 67 = .ok (.getfield 86, 3) := by decide +kernel
theorem dX12_print_70 : decode cX12_print 70 = .ok (.bipush 24, 2) := by decide +kernel
theorem dX12_print_72 : decode cX12_print 72 = .ok (.iload_n 1, 1) := by decide +kernel
theorem dX12_print_73 : decode cX12_print 73 = .ok (.imul, 1) := by decide +kernel
theorem dX12_print_74 : decode cX12_print 74 = .ok (.aload_n 0, 1) := by decide +kernel
theorem dX12_print_75 : decode cX12_print 75 = .ok (.getfield 89, 3) := by decide +kernel
theorem dX12_print_78 : decode cX12_print 78 = .ok (.iload_n 1, 1) := by decide +kernel
theorem dX12_print_79 : decode cX12_print 79 = .ok (.iaload, 1) := by decide +kernel
theorem dX12_print_80 : decode cX12_print 80 = .ok (.iadd, 1) := by decide +kernel
theorem dX12_print_81 : decode cX12_print 81 = .ok (.aload_n 0, 1) := by decide +kernel
theorem dX12_print_82 : decode cX12_print 82 = .ok (.getfield 47, 3) := by decide +kernel
theorem dX12_print_85 : decode cX12_print 85 = .ok (.iload_n 1, 1) := by decide +kernel
theorem dX12_print_86 : decode cX12_print 86 = .ok (.iaload, 1) := by decide +kernel
theorem dX12_print_87 : decode cX12_print 87 = .ok (.iastore, 1) := by decide +kernel
theorem dX12_print_88 : decode cX12_print 88 = .ok (.aload_n 0, 1) := by decide +kernel
theorem dX12_print_89 : decode cX12_print 89 = .ok (.getfield 89, 3) := by decide +kernel
theorem dX12_print_92 : decode cX12_print 92 = .ok (.iload_n 1, 1) := by decide +kernel
theorem dX12_print_93 : decode cX12_print 93 = .ok (.dup2, 1) := by decide +kernel
theorem dX12_print_94 : decode cX12_print 94 = .ok (.iaload, 1) := by decide +kernel
theorem dX12_print_95 : decode cX12_print 95 = .ok (.iconst 1, 1) := by decide +kernel
theorem dX12_print_96 : decode cX12_print 96 = .ok (.iadd, 1) := by decide +kernel
theorem dX12_print_97 : decode cX12_print 97 = .ok (.iastore, 1) := by decide +kernel
theorem dX12_print_98 : decode cX12_print 98 = .ok (.aload_n 0, 1) := by decide +kernel
theorem dX12_print_99 : decode cX12_print 99 = .ok (.iconst 4, 1) := by decide +kernel
theorem dX12_print_100 : decode cX12_print 100 = .ok (.invokevirtual 198, 3) := by decide +kernel
theorem dX12_print_103 : decode cX12_print 103 = .ok (.aload_n 0, 1) := by decide +kernel
theorem dX12_print_104 : decode cX12_print 104 = .ok (.iload_n 1, 1) := by decide +kernel
theorem dX12_print_105 : decode cX12_print 105 = .ok (.invokevirtual 224, 3) := by decide +kernel
theorem dX12_print_108 : decode cX12_print 108 = .ok (.return_, 1) := by decide +kernel
theorem dX12_printingStep_0 : decode cX12_printingStep 0 = .ok (.aload_n 0, 1) := by decide +kernel
theorem dX12_printingStep_1 : decode cX12_printingStep 1 = .ok (.getfield 26, 3) := by decide +kernel
theorem dX12_printingStep_4 : decode cX12_printingStep 4 = .ok (.bipush 8, 2) := by decide +kernel
theorem dX12_printingStep_6 : decode cX12_printingStep 6 = .ok (.iaload, 1) := by decide +kernel
theorem dX12_printingStep_7 : decode cX12_printingStep 7 = .ok (.ifCond .ne 60, 3) := by decide +kernel
theorem dX12_printingStep_10 : decode cX12_printingStep 10 = .ok (.iconst 0, 1) := by decide +kernel
theorem dX12_printingStep_11 : decode cX12_printingStep 11 = .ok (.istore_n 1, 1) := by decide +kernel
theorem dX12_printingStep_12 : decode cX12_printingStep 12 = .ok (.iload_n 1, 1) := by decide +kernel
theorem dX12_printingStep_13 : decode cX12_printingStep 13 = .ok (.bipush 6, 2) := by decide +kernel
theorem dX12_printingStep_15 : decode cX12_printingStep 15 = .ok (.if_icmp .ge 38, 3) := by decide +kernel
theorem dX12_printingStep_18 : decode cX12_printingStep 18 = .ok (.aload_n 0, 1) := by decide +kernel
theorem dX12_printingStep_19 : decode cX12_printingStep 19 = .ok (.getfield 32, 3) := by decide +kernel
theorem dX12_printingStep_22 : decode cX12_printingStep 22 = .ok (.iload_n 1, 1) := by decide +kernel
theorem dX12_printingStep_23 : decode cX12_printingStep 23 = .ok (.iaload, 1) := by decide +kernel
theorem dX12_printingStep_24 : decode cX12_printingStep 24 = .ok (.iconst 2, 1) := by decide +kernel
theorem dX12_printingStep_25 : decode cX12_printingStep 25 = .ok (.if_icmp .ne 22, 3) := by decide +kernel
theorem dX12_printingStep_28 : decode cX12_printingStep 28 = .ok (.aload_n 0, 1) := by decide +kernel
theorem dX12_printingStep_29 : decode cX12_printingStep 29 = .ok (.getfield 68, 3) := by decide +kernel
theorem dX12_printingStep_32 : decode cX12_printingStep 32 = .ok (.iconst 3, 1) := by decide +kernel
theorem dX12_printingStep_33 : decode cX12_printingStep 33 = .ok (.iload_n 1, 1) := by decide +kernel
theorem dX12_printingStep_34 : decode cX12_printingStep 34 = .ok (.imul, 1) := by decide +kernel
theorem dX12_printingStep_35 : decode cX12_printingStep 35 = .ok (.iconst 1, 1) := by decide +kernel
theorem dX12_printingStep_36 : decode cX12_printingStep 36 = .ok (.iadd, 1) := by decide +kernel
theorem dX12_printingStep_37 : decode cX12_printingStep 37 = .ok (.iaload, 1) := by decide +kernel
theorem dX12_printingStep_38 : decode cX12_printingStep 38 = .ok (.iconst 1, 1) := by decide +kernel
theorem dX12_printingStep_39 : decode cX12_printingStep 39 = .ok (.if_icmp .ne 8, 3) := by decide +kernel
theorem dX12_printingStep_42 : decode cX12_printingStep 42 = .ok (.aload_n 0, 1) := by decide +kernel
theorem dX12_printingStep_43 : decode cX12_printingStep 43 = .ok (.iload_n 1, 1) := by decide +kernel
theorem dX12_printingStep_44 : decode cX12_printingStep 44 = .ok (.putfield 310, 3) := by decide +kernel
theorem dX12_printingStep_47 : decode cX12_printingStep 47 = .ok (.iinc 1 1, 3) := by decide +kernel
theorem dX12_printingStep_50 : decode cX12_printingStep 50 = .ok (.goto (-38), 3) := by decide +kernel
theorem dX12_printingStep_53 : decode cX12_printingStep 53 = .ok (.aload_n 0, 1) := by decide +kernel
theorem dX12_printingStep_54 : decode cX12_printingStep 54 = .ok (.iconst 1, 1) := by decide +kernel
theorem dX12_printingStep_55 : decode cX12_printingStep 55 = .ok (.putfield 313, 3) := by decide +kernel
theorem dX12_printingStep_58 : decode cX12_printingStep 58 = .ok (.aload_n 0, 1) := by decide +kernel
theorem dX12_printingStep_59 : decode cX12_printingStep 59 = .ok (.bipush 8, 2) := by decide +kernel
theorem dX12_printingStep_61 : decode cX12_printingStep 61 = .ok (.iconst 5, 1) := by decide +kernel
theorem dX12_printingStep_62 : decode cX12_printingStep 62 = .ok (.iconst 1, 1) := by decide +kernel
theorem dX12_printingStep_63 : decode cX12_printingStep 63 = .ok (.invokevirtual 267, 3) := by decide +kernel
theorem dX12_printingStep_66 : decode cX12_printingStep 66 = .ok (.return_, 1) := by decide +kernel
theorem dX12_printingStep_67 : decode cX12_printingStep 67 = .ok (.aload_n 0, 1) := by decide +kernel
theorem dX12_printingStep_68 : decode cX12_printingStep 68 = .ok (.getfield 310, 3) := by decide +kernel
theorem dX12_printingStep_71 : decode cX12_printingStep 71 = .ok (.istore_n 1, 1) := by decide +kernel
theorem dX12_printingStep_72 : decode cX12_printingStep 72 = .ok (.aload_n 0, 1) := by decide +kernel
theorem dX12_printingStep_73 : decode cX12_printingStep 73 = .ok (.getfield 92, 3) := by decide +kernel
theorem dX12_printingStep_76 : decode cX12_printingStep 76 = .ok (.sipush 5000, 3) := by decide +kernel
theorem dX12_printingStep_79 : decode cX12_printingStep 79 = .ok (.iload_n 1, 1) := by decide +kernel
theorem dX12_printingStep_80 : decode cX12_printingStep 80 = .ok (.imul, 1) := by decide +kernel
theorem dX12_printingStep_81 : decode cX12_printingStep 81 = .ok (.aload_n 0, 1) := by decide +kernel
theorem dX12_printingStep_82 : decode cX12_printingStep 82 = .ok (.getfield 95, 3) := by decide +kernel
theorem dX12_printingStep_85 : decode cX12_printingStep 85 = .ok (.iload_n 1, 1) := by decide +kernel
theorem dX12_printingStep_86 : decode cX12_printingStep 86 = .ok (.iaload, 1) := by decide +kernel
theorem dX12_printingStep_87 : decode cX12_printingStep 87 = .ok (.iadd, 1) := by decide +kernel
theorem dX12_printingStep_88 : decode cX12_printingStep 88 = .ok (.aload_n 0, 1) := by decide +kernel
theorem dX12_printingStep_89 : decode cX12_printingStep 89 = .ok (.getfield 86, 3) := by decide +kernel
theorem dX12_printingStep_92 : decode cX12_printingStep 92 = .ok (.bipush 24, 2) := by decide +kernel
theorem dX12_printingStep_94 : decode cX12_printingStep 94 = .ok (.iload_n 1, 1) := by decide +kernel
theorem dX12_printingStep_95 : decode cX12_printingStep 95 = .ok (.imul, 1) := by decide +kernel
theorem dX12_printingStep_96 : decode cX12_printingStep 96 = .ok (.iaload, 1) := by decide +kernel
theorem dX12_printingStep_97 : decode cX12_printingStep 97 = .ok (.iastore, 1) := by decide +kernel
theorem dX12_printingStep_98 : decode cX12_printingStep 98 = .ok (.aload_n 0, 1) := by decide +kernel
theorem dX12_printingStep_99 : decode cX12_printingStep 99 = .ok (.getfield 95, 3) := by decide +kernel
theorem dX12_printingStep_102 : decode cX12_printingStep 102 = .ok (.iload_n 1, 1) := by decide +kernel
theorem dX12_printingStep_103 : decode cX12_printingStep 103 = .ok (.dup2, 1) := by decide +kernel
theorem dX12_printingStep_104 : decode cX12_printingStep 104 = .ok (.iaload, 1) := by decide +kernel
theorem dX12_printingStep_105 : decode cX12_printingStep 105 = .ok (.iconst 1, 1) := by decide +kernel
theorem dX12_printingStep_106 : decode cX12_printingStep 106 = .ok (.iadd, 1) := by decide +kernel
theorem dX12_printingStep_107 : decode cX12_printingStep 107 = .ok (.iastore, 1) := by decide +kernel
theorem dX12_printingStep_108 : decode cX12_printingStep 108 = .ok (.iconst 1, 1) := by decide +kernel
theorem dX12_printingStep_109 : decode cX12_printingStep 109 = .ok (.istore_n 2, 1) := by decide +kernel
theorem dX12_printingStep_110 : decode cX12_printingStep 110 = .ok (.iload_n 2, 1) := by decide +kernel
theorem dX12_printingStep_111 : decode cX12_printingStep 111 = .ok (.aload_n 0, 1) := by decide +kernel
theorem dX12_printingStep_112 : decode cX12_printingStep 112 = .ok (.getfield 89, 3) := by decide +kernel
theorem dX12_printingStep_115 : decode cX12_printingStep 115 = .ok (.iload_n 1, 1) := by decide +kernel
theorem dX12_printingStep_116 : decode cX12_printingStep 116 = .ok (.iaload, 1) := by decide +kernel
theorem dX12_printingStep_117 : decode cX12_printingStep 117 = .ok (.if_icmp .ge 33, 3) := by decide +kernel
theorem dX12_printingStep_120 : decode cX12_printingStep 120 = .ok (.aload_n 0, 1) := by decide +kernel
theorem dX12_printingStep_121 : decode cX12_printingStep 121 = .ok (.getfield 86, 3) := by decide +kernel
theorem dX12_printingStep_124 : decode cX12_printingStep 124 = .ok (.bipush 24, 2) := by decide +kernel
theorem dX12_printingStep_126 : decode cX12_printingStep 126 = .ok (.iload_n 1, 1) := by decide +kernel
theorem dX12_printingStep_127 : decode cX12_printingStep 127 = .ok (.imul, 1) := by decide +kernel
theorem dX12_printingStep_128 : decode cX12_printingStep 128 = .ok (.iload_n 2, 1) := by decide +kernel
theorem dX12_printingStep_129 : decode cX12_printingStep 129 = .ok (.iadd, 1) := by decide +kernel
theorem dX12_printingStep_130 : decode cX12_printingStep 130 = .ok (.iconst 1, 1) := by decide +kernel
theorem dX12_printingStep_131 : decode cX12_printingStep 131 = .ok (.isub, 1) := by decide +kernel
theorem dX12_printingStep_132 : decode cX12_printingStep 132 = .ok (.aload_n 0, 1) := by decide +kernel
theorem dX12_printingStep_133 : decode cX12_printingStep 133 = .ok (.getfield 86, 3) := by decide +kernel
theorem dX12_printingStep_136 : decode cX12_printingStep 136 = .ok (.bipush 24, 2) := by decide +kernel
theorem dX12_printingStep_138 : decode cX12_printingStep 138 = .ok (.iload_n 1, 1) := by decide +kernel
theorem dX12_printingStep_139 : decode cX12_printingStep 139 = .ok (.imul, 1) := by decide +kernel
theorem dX12_printingStep_140 : decode cX12_printingStep 140 = .ok (.iload_n 2, 1) := by decide +kernel
theorem dX12_printingStep_141 : decode cX12_printingStep 141 = .ok (.iadd, 1) := by decide +kernel
theorem dX12_printingStep_142 : decode cX12_printingStep 142 = .ok (.iaload, 1) := by decide +kernel
theorem dX12_printingStep_143 : decode cX12_printingStep 143 = .ok (.iastore, 1) := by decide +kernel
theorem dX12_printingStep_144 : decode cX12_printingStep 144 = .ok (.iinc 2 1, 3) := by decide +kernel
theorem dX12_printingStep_147 : decode cX12_printingStep 147 = .ok (.goto (-37), 3) := by decide +kernel
theorem dX12_printingStep_150 : decode cX12_printingStep 150 = .ok (.aload_n 0, 1) := by decide +kernel
theorem dX12_printingStep_151 : decode cX12_printingStep 151 = .ok (.getfield 89, 3) := by decide +kernel
theorem dX12_printingStep_154 : decode cX12_printingStep 154 = .ok (.iload_n 1, 1) := by decide +kernel
theorem dX12_printingStep_155 : decode cX12_printingStep 155 = .ok (.dup2, 1) := by decide +kernel
theorem dX12_printingStep_156 : decode cX12_printingStep 156 = .ok (.iaload, 1) := by decide +kernel
theorem dX12_printingStep_157 : decode cX12_printingStep 157 = .ok (.iconst 1, 1) := by decide +kernel
theorem dX12_printingStep_158 : decode cX12_printingStep 158 = .ok (.isub, 1) := by decide +kernel
theorem dX12_printingStep_159 : decode cX12_printingStep 159 = .ok (.iastore, 1) := by decide +kernel
theorem dX12_printingStep_160 : decode cX12_printingStep 160 = .ok (.aload_n 0, 1) := by decide +kernel
theorem dX12_printingStep_161 : decode cX12_printingStep 161 = .ok (.getfield 20, 3) := by decide +kernel
theorem dX12_printingStep_164 : decode cX12_printingStep 164 = .ok (.iload_n 1, 1) := by decide +kernel
theorem dX12_printingStep_165 : decode cX12_printingStep 165 = .ok (.iaload, 1) := by decide +kernel
theorem dX12_printingStep_166 : decode cX12_printingStep 166 = .ok (.iconst 3, 1) := by decide +kernel
theorem dX12_printingStep_167 : decode cX12_printingStep 167 = .ok (.if_icmp .eq 22, 3) := by decide +kernel
theorem dX12_printingStep_170 : decode cX12_printingStep 170 = .ok (.aload_n 0, 1) := by decide +kernel
theorem dX12_printingStep_171 : decode cX12_printingStep 171 = .ok (.getfield 20, 3) := by decide +kernel
theorem dX12_printingStep_174 : decode cX12_printingStep 174 = .ok (.iload_n 1, 1) := by decide +kernel
theorem dX12_printingStep_175 : decode cX12_printingStep 175 = .ok (.iaload, 1) := by decide +kernel
theorem dX12_printingStep_176 : decode cX12_printingStep 176 = .ok (.iconst 4, 1) := by decide +kernel
theorem dX12_printingStep_177 : decode cX12_printingStep 177 = .ok (.if_icmp .ne 17, 3) := by decide +kernel
theorem dX12_printingStep_180 : decode cX12_printingStep 180 = .ok (.aload_n 0, 1) := by decide +kernel
theorem dX12_printingStep_181 : decode cX12_printingStep 181 = .ok (.getfield 89, 3) := by decide +kernel
theorem dX12_printingStep_184 : decode cX12_printingStep 184 = .ok (.iload_n 1, 1) := by decide +kernel
theorem dX12_printingStep_185 : decode cX12_printingStep 185 = .ok (.iaload, 1) := by decide +kernel
theorem dX12_printingStep_186 : decode cX12_printingStep 186 = .ok (.ifCond .ne 8, 3) := by decide +kernel
theorem dX12_printingStep_189 : decode cX12_printingStep 189 = .ok (.aload_n 0, 1) := by decide +kernel
theorem dX12_printingStep_190 : decode cX12_printingStep 190 = .ok (.iload_n 1, 1) := by decide +kernel
theorem dX12_printingStep_191 : decode cX12_printingStep 191 = .ok (.invokevirtual 163, 3) := by decide +kernel
theorem dX12_printingStep_194 : decode cX12_printingStep 194 = .ok (.aload_n 0, 1) := by decide +kernel
theorem dX12_printingStep_195 : decode cX12_printingStep 195 = .ok (.bipush 8, 2) := by decide +kernel
theorem dX12_printingStep_197 : decode cX12_printingStep 197 = .ok (.iconst 4, 1) := by decide +kernel
theorem dX12_printingStep_198 : decode cX12_printingStep 198 = .ok (.iconst 0, 1) := by decide +kernel
theorem dX12_printingStep_199 : decode cX12_printingStep 199 = .ok (.invokevirtual 267, 3) := by decide +kernel
theorem dX12_printingStep_202 : decode cX12_printingStep 202 = .ok (.return_, 1) := by decide +kernel
theorem dX12_say_0 : decode cX12_say 0 = .ok (.aload_n 0, 1) := by decide +kernel
theorem dX12_say_1 : decode cX12_say 1 = .ok (.getfield 316, 3) := by decide +kernel
theorem dX12_say_4 : decode cX12_say 4 = .ok (.sipush 600, 3) := by decide +kernel
theorem dX12_say_7 : decode cX12_say 7 = .ok (.if_icmp .ge 13, 3) := by decide +kernel
theorem dX12_say_10 : decode cX12_say 10 = .ok (.aload_n 0, 1) := by decide +kernel
theorem dX12_say_11 : decode cX12_say 11 = .ok (.getfield 140, 3) := by decide +kernel
theorem dX12_say_14 : decode cX12_say 14 = .ok (.aload_n 0, 1) := by decide +kernel
theorem dX12_say_15 : decode cX12_say 15 = .ok (.getfield 316, 3) := by decide +kernel
theorem dX12_say_18 : decode cX12_say 18 = .ok (.iload_n 1, 1) := by decide +kernel
theorem dX12_say_19 : decode cX12_say 19 = .ok (.iastore, 1) := by decide +kernel
theorem dX12_say_20 : decode cX12_say 20 = .ok (.aload_n 0, 1) := by decide +kernel
theorem dX12_say_21 : decode cX12_say 21 = .ok (.dup, 1) := by decide +kernel
theorem dX12_say_22 : decode cX12_say 22 = .ok (.getfield 316, 3) := by decide +kernel
theorem dX12_say_25 : decode cX12_say 25 = .ok (.iconst 1, 1) := by decide +kernel
theorem dX12_say_26 : decode cX12_say 26 = .ok (.iadd, 1) := by decide +kernel
theorem dX12_say_27 : decode cX12_say 27 = .ok (.putfield 316, 3) := by decide +kernel
theorem dX12_say_30 : decode cX12_say 30 = .ok (.return_, 1) := by decide +kernel
theorem dX12_consoleStep_0 : decode cX12_consoleStep 0 = .ok (.aload_n 0, 1) := by decide +kernel
theorem dX12_consoleStep_1 : decode cX12_consoleStep 1 = .ok (.invokevirtual 319, 3) := by decide +kernel
theorem dX12_consoleStep_4 : decode cX12_consoleStep 4 = .ok (.ifCond .ne 15, 3) := by decide +kernel
theorem dX12_consoleStep_7 : decode cX12_consoleStep 7 = .ok (.aload_n 0, 1) := by decide +kernel
theorem dX12_consoleStep_8 : decode cX12_consoleStep 8 = .ok (.bipush 63, 2) := by decide +kernel
theorem dX12_consoleStep_10 : decode cX12_consoleStep 10 = .ok (.invokevirtual 233, 3) := by decide +kernel
theorem dX12_consoleStep_13 : decode cX12_consoleStep 13 = .ok (.aload_n 0, 1) := by decide +kernel
theorem dX12_consoleStep_14 : decode cX12_consoleStep 14 = .ok (.bipush 10, 2) := by decide +kernel
theorem dX12_consoleStep_16 : decode cX12_consoleStep 16 = .ok (.invokevirtual 233, 3) := by decide +kernel
theorem dX12_consoleStep_19 : decode cX12_consoleStep 19 = .ok (.iconst 1, 1) := by decide +kernel
theorem dX12_consoleStep_20 : decode cX12_consoleStep 20 = .ok (.istore_n 1, 1) := by decide +kernel
theorem dX12_consoleStep_21 : decode cX12_consoleStep 21 = .ok (.iload_n 1, 1) := by decide +kernel
theorem dX12_consoleStep_22 : decode cX12_consoleStep 22 = .ok (.aload_n 0, 1) := by decide +kernel
theorem dX12_consoleStep_23 : decode cX12_consoleStep 23 = .ok (.getfield 322, 3) := by decide +kernel
theorem dX12_consoleStep_26 : decode cX12_consoleStep 26 = .ok (.if_icmp .ge 61, 3) := by decide +kernel
theorem dX12_consoleStep_29 : decode cX12_consoleStep 29 = .ok (.aload_n 0, 1) := by decide +kernel
theorem dX12_consoleStep_30 : decode cX12_consoleStep 30 = .ok (.getfield 137, 3) := by decide +kernel
theorem dX12_consoleStep_33 : decode cX12_consoleStep 33 = .ok (.iload_n 1, 1) := by decide +kernel
theorem dX12_consoleStep_34 : decode cX12_consoleStep 34 = .ok (.iconst 1, 1) := by decide +kernel
theorem dX12_consoleStep_35 : decode cX12_consoleStep 35 = .ok (.isub, 1) := by decide +kernel
theorem dX12_consoleStep_36 : decode cX12_consoleStep 36 = .ok (.aload_n 0, 1) := by decide +kernel
theorem dX12_consoleStep_37 : decode cX12_consoleStep 37 = .ok (.getfield 137, 3) := by decide +kernel
theorem dX12_consoleStep_40 : decode cX12_consoleStep 40 = .ok (.iload_n 1, 1) := by decide +kernel
theorem dX12_consoleStep_41 : decode cX12_consoleStep 41 = .ok (.iaload, 1) := by decide +kernel
theorem dX12_consoleStep_42 : decode cX12_consoleStep 42 = .ok (.iastore, 1) := by decide +kernel
theorem dX12_consoleStep_43 : decode cX12_consoleStep 43 = .ok (.iconst 0, 1) := by decide +kernel
theorem dX12_consoleStep_44 : decode cX12_consoleStep 44 = .ok (.istore_n 2, 1) := by decide +kernel
theorem dX12_consoleStep_45 : decode cX12_consoleStep 45 = .ok (.iload_n 2, 1) := by decide +kernel
theorem dX12_consoleStep_46 : decode cX12_consoleStep 46 = .ok (.bipush 20, 2) := by decide +kernel
theorem dX12_consoleStep_48 : decode cX12_consoleStep 48 = .ok (.if_icmp .ge 33, 3) := by decide +kernel
theorem dX12_consoleStep_51 : decode cX12_consoleStep 51 = .ok (.aload_n 0, 1) := by decide +kernel
theorem dX12_consoleStep_52 : decode cX12_consoleStep 52 = .ok (.getfield 134, 3) := by decide +kernel
theorem dX12_consoleStep_55 : decode cX12_consoleStep 55 = .ok (.bipush 20, 2) := by decide +kernel
theorem dX12_consoleStep_57 : decode cX12_consoleStep 57 = .ok (.iload_n 1, 1) := by decide +kernel
theorem dX12_consoleStep_58 : decode cX12_consoleStep 58 = .ok (.iconst 1, 1) := by decide +kernel
theorem dX12_consoleStep_59 : decode cX12_consoleStep 59 = .ok (.isub, 1) := by decide +kernel
theorem dX12_consoleStep_60 : decode cX12_consoleStep 60 = .ok (.imul, 1) := by decide +kernel
theorem dX12_consoleStep_61 : decode cX12_consoleStep 61 = .ok (.iload_n 2, 1) := by decide +kernel
theorem dX12_consoleStep_62 : decode cX12_consoleStep 62 = .ok (.iadd, 1) := by decide +kernel
theorem dX12_consoleStep_63 : decode cX12_consoleStep 63 = .ok (.aload_n 0, 1) := by decide +kernel
theorem dX12_consoleStep_64 : decode cX12_consoleStep 64 = .ok (.getfield 134, 3) := by decide +kernel
theorem dX12_consoleStep_67 : decode cX12_consoleStep 67 = .ok (.bipush 20, 2) := by decide +kernel
theorem dX12_consoleStep_69 : decode cX12_consoleStep 69 = .ok (.iload_n 1, 1) := by decide +kernel
theorem dX12_consoleStep_70 : decode cX12_consoleStep 70 = .ok (.imul, 1) := by decide +kernel
