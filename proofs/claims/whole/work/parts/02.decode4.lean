theorem dX12_consoleStep_71 : decode cX12_consoleStep 71 = .ok (.iload_n 2, 1) := by decide +kernel
theorem dX12_consoleStep_72 : decode cX12_consoleStep 72 = .ok (.iadd, 1) := by decide +kernel
theorem dX12_consoleStep_73 : decode cX12_consoleStep 73 = .ok (.iaload, 1) := by decide +kernel
theorem dX12_consoleStep_74 : decode cX12_consoleStep 74 = .ok (.iastore, 1) := by decide +kernel
theorem dX12_consoleStep_75 : decode cX12_consoleStep 75 = .ok (.iinc 2 1, 3) := by decide +kernel
theorem dX12_consoleStep_78 : decode cX12_consoleStep 78 = .ok (.goto (-33), 3) := by decide +kernel
theorem dX12_consoleStep_81 : decode cX12_consoleStep 81 = .ok (.iinc 1 1, 3) := by decide +kernel
theorem dX12_consoleStep_84 : decode cX12_consoleStep 84 = .ok (.goto (-63), 3) := by decide +kernel
theorem dX12_consoleStep_87 : decode cX12_consoleStep 87 = .ok (.aload_n 0, 1) := by decide +kernel
theorem dX12_consoleStep_88 : decode cX12_consoleStep 88 = .ok (.dup, 1) := by decide +kernel
theorem dX12_consoleStep_89 : decode cX12_consoleStep 89 = .ok (.getfield 322, 3) := by decide +kernel
theorem dX12_consoleStep_92 : decode cX12_consoleStep 92 = .ok (.iconst 1, 1) := by decide +kernel
theorem dX12_consoleStep_93 : decode cX12_consoleStep 93 = .ok (.isub, 1) := by decide +kernel
theorem dX12_consoleStep_94 : decode cX12_consoleStep 94 = .ok (.putfield 322, 3) := by decide +kernel
theorem dX12_consoleStep_97 : decode cX12_consoleStep 97 = .ok (.aload_n 0, 1) := by decide +kernel
theorem dX12_consoleStep_98 : decode cX12_consoleStep 98 = .ok (.bipush 9, 2) := by decide +kernel
theorem dX12_consoleStep_100 : decode cX12_consoleStep 100 = .ok (.bipush 6, 2) := by decide +kernel
theorem dX12_consoleStep_102 : decode cX12_consoleStep 102 = .ok (.iconst 0, 1) := by decide +kernel
theorem dX12_consoleStep_103 : decode cX12_consoleStep 103 = .ok (.invokevirtual 267, 3) := by decide +kernel
theorem dX12_consoleStep_106 : decode cX12_consoleStep 106 = .ok (.return_, 1) := by decide +kernel
theorem dX12_isDigit_0 : decode cX12_isDigit 0 = .ok (.iload_n 0, 1) := by decide +kernel
theorem dX12_isDigit_1 : decode cX12_isDigit 1 = .ok (.bipush 48, 2) := by decide +kernel
theorem dX12_isDigit_3 : decode cX12_isDigit 3 = .ok (.if_icmp .lt 13, 3) := by decide +kernel
theorem dX12_isDigit_6 : decode cX12_isDigit 6 = .ok (.iload_n 0, 1) := by decide +kernel
theorem dX12_isDigit_7 : decode cX12_isDigit 7 = .ok (.bipush 57, 2) := by decide +kernel
theorem dX12_isDigit_9 : decode cX12_isDigit 9 = .ok (.if_icmp .gt 7, 3) := by decide +kernel
theorem dX12_isDigit_12 : decode cX12_isDigit 12 = .ok (.iconst 1, 1) := by decide +kernel
theorem dX12_isDigit_13 : decode cX12_isDigit 13 = .ok (.goto 4, 3) := by decide +kernel
theorem dX12_isDigit_16 : decode cX12_isDigit 16 = .ok (.iconst 0, 1) := by decide +kernel
theorem dX12_isDigit_17 : decode cX12_isDigit 17 = .ok (.ireturn, 1) := by decide +kernel
theorem dX12_obeys_0 : decode cX12_obeys 0 = .ok (.aload_n 0, 1) := by decide +kernel
theorem dX12_obeys_1 : decode cX12_obeys 1 = .ok (.getfield 137, 3) := by decide +kernel
theorem dX12_obeys_4 : decode cX12_obeys 4 = .ok (.iconst 0, 1) := by decide +kernel
theorem dX12_obeys_5 : decode cX12_obeys 5 = .ok (.iaload, 1) := by decide +kernel
theorem dX12_obeys_6 : decode cX12_obeys 6 = .ok (.istore_n 1, 1) := by decide +kernel
theorem dX12_obeys_7 : decode cX12_obeys 7 = .ok (.iload_n 1, 1) := by decide +kernel
theorem dX12_obeys_8 : decode cX12_obeys 8 = .ok (.iconst 2, 1) := by decide +kernel
theorem dX12_obeys_9 : decode cX12_obeys 9 = .ok (.if_icmp .ge 7, 3) := by decide +kernel
theorem dX12_obeys_12 : decode cX12_obeys 12 = .ok (.iconst (-1), 1) := by decide +kernel
theorem dX12_obeys_13 : decode cX12_obeys 13 = .ok (.goto 12, 3) := by decide +kernel
theorem dX12_obeys_16 : decode cX12_obeys 16 = .ok (.aload_n 0, 1) := by decide +kernel
theorem dX12_obeys_17 : decode cX12_obeys 17 = .ok (.getfield 134, 3) := by decide +kernel
theorem dX12_obeys_20 : decode cX12_obeys 20 = .ok (.iconst 1, 1) := by decide +kernel
theorem dX12_obeys_21 : decode cX12_obeys 21 = .ok (.iaload, 1) := by decide +kernel
theorem dX12_obeys_22 : decode cX12_obeys 22 = .ok (.bipush 48, 2) := by decide +kernel
theorem dX12_obeys_24 : decode cX12_obeys 24 = .ok (.isub, 1) := by decide +kernel
theorem dX12_obeys_25 : decode cX12_obeys 25 = .ok (.istore_n 2, 1) := by decide +kernel
theorem dX12_obeys_26 : decode cX12_obeys 26 = .ok (.iload_n 2, 1) := by decide +kernel
theorem dX12_obeys_27 : decode cX12_obeys 27 = .ok (.ifCond .lt 9, 3) := by decide +kernel
theorem dX12_obeys_30 : decode cX12_obeys 30 = .ok (.iload_n 2, 1) := by decide +kernel
theorem dX12_obeys_31 : decode cX12_obeys 31 = .ok (.bipush 6, 2) := by decide +kernel
theorem dX12_obeys_33 : decode cX12_obeys 33 = .ok (.if_icmp .lt 5, 3) := by decide +kernel
theorem dX12_obeys_36 : decode cX12_obeys 36 = .ok (.iconst 0, 1) := by decide +kernel
theorem dX12_obeys_37 : decode cX12_obeys 37 = .ok (.ireturn, 1) := by decide +kernel
theorem dX12_obeys_38 : decode cX12_obeys 38 = .ok (.aload_n 0, 1) := by decide +kernel
theorem dX12_obeys_39 : decode cX12_obeys 39 = .ok (.getfield 134, 3) := by decide +kernel
theorem dX12_obeys_42 : decode cX12_obeys 42 = .ok (.iconst 0, 1) := by decide +kernel
theorem dX12_obeys_43 : decode cX12_obeys 43 = .ok (.iaload, 1) := by decide +kernel
theorem dX12_obeys_44 : decode cX12_obeys 44 = .ok (.bipush 65, 2) := by decide +kernel
theorem dX12_obeys_46 : decode cX12_obeys 46 = .ok (.if_icmp .ne 14, 3) := by decide +kernel
theorem dX12_obeys_49 : decode cX12_obeys 49 = .ok (.iload_n 1, 1) := by decide +kernel
theorem dX12_obeys_50 : decode cX12_obeys 50 = .ok (.iconst 2, 1) := by decide +kernel
theorem dX12_obeys_51 : decode cX12_obeys 51 = .ok (.if_icmp .ne 9, 3) := by decide +kernel
theorem dX12_obeys_54 : decode cX12_obeys 54 = .ok (.aload_n 0, 1) := by decide +kernel
theorem dX12_obeys_55 : decode cX12_obeys 55 = .ok (.iload_n 2, 1) := by decide +kernel
theorem dX12_obeys_56 : decode cX12_obeys 56 = .ok (.invokevirtual 325, 3) := by decide +kernel
theorem dX12_obeys_59 : decode cX12_obeys 59 = .ok (.ireturn, 1) := by decide +kernel
theorem dX12_obeys_60 : decode cX12_obeys 60 = .ok (.aload_n 0, 1) := by decide +kernel
theorem dX12_obeys_61 : decode cX12_obeys 61 = .ok (.getfield 134, 3) := by decide +kernel
theorem dX12_obeys_64 : decode cX12_obeys 64 = .ok (.iconst 0, 1) := by decide +kernel
theorem dX12_obeys_65 : decode cX12_obeys 65 = .ok (.iaload, 1) := by decide +kernel
theorem dX12_obeys_66 : decode cX12_obeys 66 = .ok (.bipush 67, 2) := by decide +kernel
theorem dX12_obeys_68 : decode cX12_obeys 68 = .ok (.if_icmp .ne 14, 3) := by decide +kernel
theorem dX12_obeys_71 : decode cX12_obeys 71 = .ok (.iload_n 1, 1) := by decide +kernel
theorem dX12_obeys_72 : decode cX12_obeys 72 = .ok (.iconst 2, 1) := by decide +kernel
theorem dX12_obeys_73 : decode cX12_obeys 73 = .ok (.if_icmp .ne 9, 3) := by decide +kernel
theorem dX12_obeys_76 : decode cX12_obeys 76 = .ok (.aload_n 0, 1) := by decide +kernel
theorem dX12_obeys_77 : decode cX12_obeys 77 = .ok (.iload_n 2, 1) := by decide +kernel
theorem dX12_obeys_78 : decode cX12_obeys 78 = .ok (.invokevirtual 328, 3) := by decide +kernel
theorem dX12_obeys_81 : decode cX12_obeys 81 = .ok (.ireturn, 1) := by decide +kernel
theorem dX12_obeys_82 : decode cX12_obeys 82 = .ok (.aload_n 0, 1) := by decide +kernel
theorem dX12_obeys_83 : decode cX12_obeys 83 = .ok (.getfield 134, 3) := by decide +kernel
theorem dX12_obeys_86 : decode cX12_obeys 86 = .ok (.iconst 0, 1) := by decide +kernel
theorem dX12_obeys_87 : decode cX12_obeys 87 = .ok (.iaload, 1) := by decide +kernel
theorem dX12_obeys_88 : decode cX12_obeys 88 = .ok (.bipush 82, 2) := by decide +kernel
theorem dX12_obeys_90 : decode cX12_obeys 90 = .ok (.if_icmp .ne 32, 3) := by decide +kernel
theorem dX12_obeys_93 : decode cX12_obeys 93 = .ok (.iload_n 1, 1) := by decide +kernel
theorem dX12_obeys_94 : decode cX12_obeys 94 = .ok (.iconst 3, 1) := by decide +kernel
theorem dX12_obeys_95 : decode cX12_obeys 95 = .ok (.if_icmp .le 27, 3) := by decide +kernel
theorem dX12_obeys_98 : decode cX12_obeys 98 = .ok (.aload_n 0, 1) := by decide +kernel
theorem dX12_obeys_99 : decode cX12_obeys 99 = .ok (.getfield 134, 3) := by decide +kernel
theorem dX12_obeys_102 : decode cX12_obeys 102 = .ok (.iconst 2, 1) := by decide +kernel
theorem dX12_obeys_103 : decode cX12_obeys 103 = .ok (.iaload, 1) := by decide +kernel
theorem dX12_obeys_104 : decode cX12_obeys 104 = .ok (.bipush 32, 2) := by decide +kernel
theorem dX12_obeys_106 : decode cX12_obeys 106 = .ok (.if_icmp .ne 16, 3) := by decide +kernel
theorem dX12_obeys_109 : decode cX12_obeys 109 = .ok (.aload_n 0, 1) := by decide +kernel
theorem dX12_obeys_110 : decode cX12_obeys 110 = .ok (.iload_n 2, 1) := by decide +kernel
theorem dX12_obeys_111 : decode cX12_obeys 111 = .ok (.iload_n 1, 1) := by decide +kernel
theorem dX12_obeys_112 : decode cX12_obeys 112 = .ok (.invokevirtual 331, 3) := by decide +kernel
theorem dX12_obeys_115 : decode cX12_obeys 115 = .ok (.ifCond .eq 7, 3) := by decide +kernel
theorem dX12_obeys_118 : decode cX12_obeys 118 = .ok (.iconst 1, 1) := by decide +kernel
theorem dX12_obeys_119 : decode cX12_obeys 119 = .ok (.goto 4, 3) := by decide +kernel
theorem dX12_obeys_122 : decode cX12_obeys 122 = .ok (.iconst 0, 1) := by decide +kernel
theorem dX12_obeys_123 : decode cX12_obeys 123 = .ok (.ireturn, 1) := by decide +kernel
theorem dX12_admitted_0 : decode cX12_admitted 0 = .ok (.iconst 0, 1) := by decide +kernel
theorem dX12_admitted_1 : decode cX12_admitted 1 = .ok (.istore_n 1, 1) := by decide +kernel
theorem dX12_admitted_2 : decode cX12_admitted 2 = .ok (.iconst 0, 1) := by decide +kernel
theorem dX12_admitted_3 : decode cX12_admitted 3 = .ok (.istore_n 2, 1) := by decide +kernel
theorem dX12_admitted_4 : decode cX12_admitted 4 = .ok (.iload_n 2, 1) := by decide +kernel
theorem dX12_admitted_5 : decode cX12_admitted 5 = .ok (.bipush 6, 2) := by decide +kernel
theorem dX12_admitted_7 : decode cX12_admitted 7 = .ok (.if_icmp .ge 27, 3) := by decide +kernel
theorem dX12_admitted_10 : decode cX12_admitted 10 = .ok (.iload_n 1, 1) := by decide +kernel
theorem dX12_admitted_11 : decode cX12_admitted 11 = .ok (.aload_n 0, 1) := by decide +kernel
theorem dX12_admitted_12 : decode cX12_admitted 12 = .ok (.getfield 32, 3) := by decide +kernel
theorem dX12_admitted_15 : decode cX12_admitted 15 = .ok (.iload_n 2, 1) := by decide +kernel
theorem dX12_admitted_16 : decode cX12_admitted 16 = .ok (.iaload, 1) := by decide +kernel
theorem dX12_admitted_17 : decode cX12_admitted 17 = .ok (.iconst 2, 1) := by decide +kernel
theorem dX12_admitted_18 : decode cX12_admitted 18 = .ok (.if_icmp .ne 7, 3) := by decide +kernel
theorem dX12_admitted_21 : decode cX12_admitted 21 = .ok (.iconst 1, 1) := by decide +kernel
theorem dX12_admitted_22 : decode cX12_admitted 22 = .ok (.goto 4, 3) := by decide +kernel
theorem dX12_admitted_25 : decode cX12_admitted 25 = .ok (.iconst 0, 1) := by decide +kernel
theorem dX12_admitted_26 : decode cX12_admitted 26 = .ok (.iadd, 1) := by decide +kernel
theorem dX12_admitted_27 : decode cX12_admitted 27 = .ok (.istore_n 1, 1) := by decide +kernel
theorem dX12_admitted_28 : decode cX12_admitted 28 = .ok (.iinc 2 1, 3) := by decide +kernel
theorem dX12_admitted_31 : decode cX12_admitted 31 = .ok (.goto (-27), 3) := by decide +kernel
theorem dX12_admitted_34 : decode cX12_admitted 34 = .ok (.iload_n 1, 1) := by decide +kernel
theorem dX12_admitted_35 : decode cX12_admitted 35 = .ok (.ireturn, 1) := by decide +kernel
theorem dX12_admits_0 : decode cX12_admits 0 = .ok (.aload_n 0, 1) := by decide +kernel
theorem dX12_admits_1 : decode cX12_admits 1 = .ok (.getfield 32, 3) := by decide +kernel
theorem dX12_admits_4 : decode cX12_admits 4 = .ok (.iload_n 1, 1) := by decide +kernel
theorem dX12_admits_5 : decode cX12_admits 5 = .ok (.iaload, 1) := by decide +kernel
theorem dX12_admits_6 : decode cX12_admits 6 = .ok (.iconst 1, 1) := by decide +kernel
theorem dX12_admits_7 : decode cX12_admits 7 = .ok (.if_icmp .ne 18, 3) := by decide +kernel
theorem dX12_admits_10 : decode cX12_admits 10 = .ok (.iconst 2, 1) := by decide +kernel
theorem dX12_admits_11 : decode cX12_admits 11 = .ok (.aload_n 0, 1) := by decide +kernel
theorem dX12_admits_12 : decode cX12_admits 12 = .ok (.invokevirtual 334, 3) := by decide +kernel
theorem dX12_admits_15 : decode cX12_admits 15 = .ok (.iconst 1, 1) := by decide +kernel
theorem dX12_admits_16 : decode cX12_admits 16 = .ok (.iadd, 1) := by decide +kernel
theorem dX12_admits_17 : decode cX12_admits 17 = .ok (.imul, 1) := by decide +kernel
theorem dX12_admits_18 : decode cX12_admits 18 = .ok (.aload_n 0, 1) := by decide +kernel
theorem dX12_admits_19 : decode cX12_admits 19 = .ok (.getfield 150, 3) := by decide +kernel
theorem dX12_admits_22 : decode cX12_admits 22 = .ok (.if_icmp .le 5, 3) := by decide +kernel
theorem dX12_admits_25 : decode cX12_admits 25 = .ok (.iconst 0, 1) := by decide +kernel
theorem dX12_admits_26 : decode cX12_admits 26 = .ok (.ireturn, 1) := by decide +kernel
theorem dX12_admits_27 : decode cX12_admits 27 = .ok (.aload_n 0, 1) := by decide +kernel
theorem dX12_admits_28 : decode cX12_admits 28 = .ok (.getfield 32, 3) := by decide +kernel
theorem dX12_admits_31 : decode cX12_admits 31 = .ok (.iload_n 1, 1) := by decide +kernel
theorem dX12_admits_32 : decode cX12_admits 32 = .ok (.iconst 2, 1) := by decide +kernel
theorem dX12_admits_33 : decode cX12_admits 33 = .ok (.iastore, 1) := by decide +kernel
theorem dX12_admits_34 : decode cX12_admits 34 = .ok (.aload_n 0, 1) := by decide +kernel
theorem dX12_admits_35 : decode cX12_admits 35 = .ok (.iload_n 1, 1) := by decide +kernel
theorem dX12_admits_36 : decode cX12_admits 36 = .ok (.invokevirtual 163, 3) := by decide +kernel
theorem dX12_admits_39 : decode cX12_admits 39 = .ok (.iconst 1, 1) := by decide +kernel
theorem dX12_admits_40 : decode cX12_admits 40 = .ok (.ireturn, 1) := by decide +kernel
theorem dX12_cancels_0 : decode cX12_cancels 0 = .ok (.aload_n 0, 1) := by decide +kernel
theorem dX12_cancels_1 : decode cX12_cancels 1 = .ok (.getfield 32, 3) := by decide +kernel
theorem dX12_cancels_4 : decode cX12_cancels 4 = .ok (.iload_n 1, 1) := by decide +kernel
theorem dX12_cancels_5 : decode cX12_cancels 5 = .ok (.iaload, 1) := by decide +kernel
theorem dX12_cancels_6 : decode cX12_cancels 6 = .ok (.iconst 2, 1) := by decide +kernel
theorem dX12_cancels_7 : decode cX12_cancels 7 = .ok (.if_icmp .eq 5, 3) := by decide +kernel
theorem dX12_cancels_10 : decode cX12_cancels 10 = .ok (.iconst 0, 1) := by decide +kernel
theorem dX12_cancels_11 : decode cX12_cancels 11 = .ok (.ireturn, 1) := by decide +kernel
theorem dX12_cancels_12 : decode cX12_cancels 12 = .ok (.aload_n 0, 1) := by decide +kernel
theorem dX12_cancels_13 : decode cX12_cancels 13 = .ok (.getfield 62, 3) := by decide +kernel
theorem dX12_cancels_16 : decode cX12_cancels 16 = .ok (.iload_n 1, 1) := by decide +kernel
theorem dX12_cancels_17 : decode cX12_cancels 17 = .ok (.iconst 1, 1) := by decide +kernel
theorem dX12_cancels_18 : decode cX12_cancels 18 = .ok (.bastore, 1) := by decide +kernel
theorem dX12_cancels_19 : decode cX12_cancels 19 = .ok (.aload_n 0, 1) := by decide +kernel
theorem dX12_cancels_20 : decode cX12_cancels 20 = .ok (.getfield 20, 3) := by decide +kernel
theorem dX12_cancels_23 : decode cX12_cancels 23 = .ok (.iload_n 1, 1) := by decide +kernel
theorem dX12_cancels_24 : decode cX12_cancels 24 = .ok (.iaload, 1) := by decide +kernel
theorem dX12_cancels_25 : decode cX12_cancels 25 = .ok (.bipush 6, 2) := by decide +kernel
theorem dX12_cancels_27 : decode cX12_cancels 27 = .ok (.if_icmp .ne 43, 3) := by decide +kernel
theorem dX12_cancels_30 : decode cX12_cancels 30 = .ok (.aload_n 0, 1) := by decide +kernel
theorem dX12_cancels_31 : decode cX12_cancels 31 = .ok (.getfield 291, 3) := by decide +kernel
theorem dX12_cancels_34 : decode cX12_cancels 34 = .ok (.iconst 1, 1) := by decide +kernel
theorem dX12_cancels_35 : decode cX12_cancels 35 = .ok (.isub, 1) := by decide +kernel
theorem dX12_cancels_36 : decode cX12_cancels 36 = .ok (.istore_n 2, 1) := by decide +kernel
theorem dX12_cancels_37 : decode cX12_cancels 37 = .ok (.iload_n 2, 1) := by decide +kernel
theorem dX12_cancels_38 : decode cX12_cancels 38 = .ok (.ifCond .lt 24, 3) := by decide +kernel
theorem dX12_cancels_41 : decode cX12_cancels 41 = .ok (.aload_n 0, 1) := by decide +kernel
theorem dX12_cancels_42 : decode cX12_cancels 42 = .ok (.getfield 128, 3) := by decide +kernel
theorem dX12_cancels_45 : decode cX12_cancels 45 = .ok (.iload_n 2, 1) := by decide +kernel
theorem dX12_cancels_46 : decode cX12_cancels 46 = .ok (.iaload, 1) := by decide +kernel
theorem dX12_cancels_47 : decode cX12_cancels 47 = .ok (.iload_n 1, 1) := by decide +kernel
theorem dX12_cancels_48 : decode cX12_cancels 48 = .ok (.if_icmp .ne 8, 3) := by decide +kernel
theorem dX12_cancels_51 : decode cX12_cancels 51 = .ok (.aload_n 0, 1) := by decide +kernel
theorem dX12_cancels_52 : decode cX12_cancels 52 = .ok (.iload_n 2, 1) := by decide +kernel
theorem dX12_cancels_53 : decode cX12_cancels 53 = .ok (.invokevirtual 294, 3) := by decide +kernel
theorem dX12_cancels_56 : decode cX12_cancels 56 = .ok (.iinc 2 (-1), 3) := by decide +kernel
theorem dX12_cancels_59 : decode cX12_cancels 59 = .ok (.goto (-22), 3) := by decide +kernel
theorem dX12_cancels_62 : decode cX12_cancels 62 = .ok (.aload_n 0, 1) := by decide +kernel
theorem dX12_cancels_63 : decode cX12_cancels 63 = .ok (.iload_n 1, 1) := by decide +kernel
theorem dX12_cancels_64 : decode cX12_cancels 64 = .ok (.invokevirtual 163, 3) := by decide +kernel
theorem dX12_cancels_67 : decode cX12_cancels 67 = .ok (.goto 18, 3) := by decide +kernel
theorem dX12_cancels_70 : decode cX12_cancels 70 = .ok (.aload_n 0, 1) := by decide +kernel
theorem dX12_cancels_71 : decode cX12_cancels 71 = .ok (.getfield 20, 3) := by decide +kernel
theorem dX12_cancels_74 : decode cX12_cancels 74 = .ok (.iload_n 1, 1) := by decide +kernel
theorem dX12_cancels_75 : decode cX12_cancels 75 = .ok (.iaload, 1) := by decide +kernel
theorem dX12_cancels_76 : decode cX12_cancels 76 = .ok (.iconst 5, 1) := by decide +kernel
theorem dX12_cancels_77 : decode cX12_cancels 77 = .ok (.if_icmp .ne 8, 3) := by decide +kernel
theorem dX12_cancels_80 : decode cX12_cancels 80 = .ok (.aload_n 0, 1) := by decide +kernel
theorem dX12_cancels_81 : decode cX12_cancels 81 = .ok (.iload_n 1, 1) := by decide +kernel
theorem dX12_cancels_82 : decode cX12_cancels 82 = .ok (.invokevirtual 163, 3) := by decide +kernel
theorem dX12_cancels_85 : decode cX12_cancels 85 = .ok (.iconst 1, 1) := by decide +kernel
theorem dX12_cancels_86 : decode cX12_cancels 86 = .ok (.ireturn, 1) := by decide +kernel
theorem dX12_replies_0 : decode cX12_replies 0 = .ok (.aload_n 0, 1) := by decide +kernel
theorem dX12_replies_1 : decode cX12_replies 1 = .ok (.getfield 134, 3) := by decide +kernel
theorem dX12_replies_4 : decode cX12_replies 4 = .ok (.iconst 3, 1) := by decide +kernel
theorem dX12_replies_5 : decode cX12_replies 5 = .ok (.iaload, 1) := by decide +kernel
theorem dX12_replies_6 : decode cX12_replies 6 = .ok (.bipush 45, 2) := by decide +kernel
theorem dX12_replies_8 : decode cX12_replies 8 = .ok (.if_icmp .ne 7, 3) := by decide +kernel
theorem dX12_replies_11 : decode cX12_replies 11 = .ok (.iconst 1, 1) := by decide +kernel
theorem dX12_replies_12 : decode cX12_replies 12 = .ok (.goto 4, 3) := by decide +kernel
theorem dX12_replies_15 : decode cX12_replies 15 = .ok (.iconst 0, 1) := by decide +kernel
theorem dX12_replies_16 : decode cX12_replies 16 = .ok (.istore_n 3, 1) := by decide +kernel
theorem dX12_replies_17 : decode cX12_replies 17 = .ok (.iload_n 3, 1) := by decide +kernel
theorem dX12_replies_18 : decode cX12_replies 18 = .ok (.ifCond .eq 7, 3) := by decide +kernel
theorem dX12_replies_21 : decode cX12_replies 21 = .ok (.iconst 4, 1) := by decide +kernel
theorem dX12_replies_22 : decode cX12_replies 22 = .ok (.goto 4, 3) := by decide +kernel
theorem dX12_replies_25 : decode cX12_replies 25 = .ok (.iconst 3, 1) := by decide +kernel
theorem dX12_replies_26 : decode cX12_replies 26 = .ok (.istore 4, 2) := by decide +kernel
theorem dX12_replies_28 : decode cX12_replies 28 = .ok (.iconst 0, 1) := by decide +kernel
theorem dX12_replies_29 : decode cX12_replies 29 = .ok (.istore 5, 2) := by decide +kernel
theorem dX12_replies_31 : decode cX12_replies 31 = .ok (.iload_n 2, 1) := by decide +kernel
theorem dX12_replies_32 : decode cX12_replies 32 = .ok (.iload 4, 2) := by decide +kernel
theorem dX12_replies_34 : decode cX12_replies 34 = .ok (.isub, 1) := by decide +kernel
theorem dX12_replies_35 : decode cX12_replies 35 = .ok (.iconst 1, 1) := by decide +kernel
theorem dX12_replies_36 : decode cX12_replies 36 = .ok (.if_icmp .lt 12, 3) := by decide +kernel
theorem dX12_replies_39 : decode cX12_replies 39 = .ok (.iload_n 2, 1) := by decide +kernel
theorem dX12_replies_40 : decode cX12_replies 40 = .ok (.iload 4, 2) := by decide +kernel
theorem dX12_replies_42 : decode cX12_replies 42 = .ok (.isub, 1) := by decide +kernel
theorem dX12_replies_43 : decode cX12_replies 43 = .ok (.bipush 9, 2) := by decide +kernel
theorem dX12_replies_45 : decode cX12_replies 45 = .ok (.if_icmp .le 5, 3) := by decide +kernel
theorem dX12_replies_48 : decode cX12_replies 48 = .ok (.iconst 0, 1) := by decide +kernel
theorem dX12_replies_49 : decode cX12_replies 49 = .ok (.ireturn, 1) := by decide +kernel
theorem dX12_replies_50 : decode cX12_replies 50 = .ok (.iload 4, 2) := by decide +kernel
theorem dX12_replies_52 : decode cX12_replies 52 = .ok (.istore 6, 2) := by decide +kernel
theorem dX12_replies_54 : decode cX12_replies 54 = .ok (.iload 6, 2) := by decide +kernel
theorem dX12_replies_56 : decode cX12_replies 56 = .ok (.iload_n 2, 1) := by decide +kernel
theorem dX12_replies_57 : decode cX12_replies 57 = .ok (.if_icmp .ge 42, 3) := by decide +kernel
theorem dX12_replies_60 : decode cX12_replies 60 = .ok (.aload_n 0, 1) := by decide +kernel
theorem dX12_replies_61 : decode cX12_replies 61 = .ok (.getfield 134, 3) := by decide +kernel
theorem dX12_replies_64 : decode cX12_replies 64 = .ok (.iload 6, 2) := by decide +kernel
theorem dX12_replies_66 : decode cX12_replies 66 = .ok (.iaload, 1) := by decide +kernel
theorem dX12_replies_67 : decode cX12_replies 67 = .ok (.invokestatic 337, 3) := by decide +kernel
theorem dX12_replies_70 : decode cX12_replies 70 = .ok (.ifCond .ne 5, 3) := by decide +kernel
theorem dX12_replies_73 : decode cX12_replies 73 = .ok (.iconst 0, 1) := by decide +kernel
theorem dX12_replies_74 : decode cX12_replies 74 = .ok (.ireturn, 1) := by decide +kernel
theorem dX12_replies_75 : decode cX12_replies 75 = .ok (.bipush 10, 2) := by decide +kernel
theorem dX12_replies_77 : decode cX12_replies 77 = .ok (.iload 5, 2) := by decide +kernel
theorem dX12_replies_79 : decode cX12_replies 79 = .ok (.imul, 1) := by decide +kernel
theorem dX12_replies_80 : decode cX12_replies 80 = .ok (.aload_n 0, 1) := by decide +kernel
theorem dX12_replies_81 : decode cX12_replies 81 = .ok (.getfield 134, 3) := by decide +kernel
theorem dX12_replies_84 : decode cX12_replies 84 = .ok (.iload 6, 2) := by decide +kernel
theorem dX12_replies_86 : decode cX12_replies 86 = .ok (.iaload, 1) := by decide +kernel
theorem dX12_replies_87 : decode cX12_replies 87 = .ok (.iadd, 1) := by decide +kernel
theorem dX12_replies_88 : decode cX12_replies 88 = .ok (.bipush 48, 2) := by decide +kernel
theorem dX12_replies_90 : decode cX12_replies 90 = .ok (.isub, 1) := by decide +kernel
theorem dX12_replies_91 : decode cX12_replies 91 = .ok (.istore 5, 2) := by decide +kernel
theorem dX12_replies_93 : decode cX12_replies 93 = .ok (.iinc 6 1, 3) := by decide +kernel
theorem dX12_replies_96 : decode cX12_replies 96 = .ok (.goto (-42), 3) := by decide +kernel
theorem dX12_replies_99 : decode cX12_replies 99 = .ok (.aload_n 0, 1) := by decide +kernel
theorem dX12_replies_100 : decode cX12_replies 100 = .ok (.getfield 32, 3) := by decide +kernel
theorem dX12_replies_103 : decode cX12_replies 103 = .ok (.iload_n 1, 1) := by decide +kernel
theorem dX12_replies_104 : decode cX12_replies 104 = .ok (.iaload, 1) := by decide +kernel
theorem dX12_replies_105 : decode cX12_replies 105 = .ok (.iconst 2, 1) := by decide +kernel
theorem dX12_replies_106 : decode cX12_replies 106 = .ok (.if_icmp .ne 13, 3) := by decide +kernel
theorem dX12_replies_109 : decode cX12_replies 109 = .ok (.aload_n 0, 1) := by decide +kernel
theorem dX12_replies_110 : decode cX12_replies 110 = .ok (.getfield 20, 3) := by decide +kernel
theorem dX12_replies_113 : decode cX12_replies 113 = .ok (.iload_n 1, 1) := by decide +kernel
theorem dX12_replies_114 : decode cX12_replies 114 = .ok (.iaload, 1) := by decide +kernel
theorem dX12_replies_115 : decode cX12_replies 115 = .ok (.iconst 5, 1) := by decide +kernel
theorem dX12_replies_116 : decode cX12_replies 116 = .ok (.if_icmp .eq 5, 3) := by decide +kernel
theorem dX12_replies_119 : decode cX12_replies 119 = .ok (.iconst 0, 1) := by decide +kernel
theorem dX12_replies_120 : decode cX12_replies 120 = .ok (.ireturn, 1) := by decide +kernel
theorem dX12_replies_121 : decode cX12_replies 121 = .ok (.aload_n 0, 1) := by decide +kernel
theorem dX12_replies_122 : decode cX12_replies 122 = .ok (.getfield 47, 3) := by decide +kernel
theorem dX12_replies_125 : decode cX12_replies 125 = .ok (.iload_n 1, 1) := by decide +kernel
theorem dX12_replies_126 : decode cX12_replies 126 = .ok (.iload_n 3, 1) := by decide +kernel
theorem dX12_replies_127 : decode cX12_replies 127 = .ok (.ifCond .eq 9, 3) := by decide +kernel
theorem dX12_replies_130 : decode cX12_replies 130 = .ok (.iload 5, 2) := by decide +kernel
theorem dX12_replies_132 : decode cX12_replies 132 = .ok (.ineg, 1) := by decide +kernel
theorem dX12_replies_133 : decode cX12_replies 133 = .ok (.goto 5, 3) := by decide +kernel
theorem dX12_replies_136 : decode cX12_replies 136 = .ok (.iload 5, 2) := by decide +kernel
theorem dX12_replies_138 : decode cX12_replies 138 = .ok (.iastore, 1) := by decide +kernel
theorem dX12_replies_139 : decode cX12_replies 139 = .ok (.aload_n 0, 1) := by decide +kernel
theorem dX12_replies_140 : decode cX12_replies 140 = .ok (.iload_n 1, 1) := by decide +kernel
theorem dX12_replies_141 : decode cX12_replies 141 = .ok (.invokevirtual 224, 3) := by decide +kernel
theorem dX12_replies_144 : decode cX12_replies 144 = .ok (.aload_n 0, 1) := by decide +kernel
theorem dX12_replies_145 : decode cX12_replies 145 = .ok (.iload_n 1, 1) := by decide +kernel
theorem dX12_replies_146 : decode cX12_replies 146 = .ok (.invokevirtual 163, 3) := by decide +kernel
theorem dX12_replies_149 : decode cX12_replies 149 = .ok (.iconst 1, 1) := by decide +kernel
theorem dX12_replies_150 : decode cX12_replies 150 = .ok (.ireturn, 1) := by decide +kernel
theorem dX12_endingStep_0 : decode cX12_endingStep 0 = .ok (.aload_n 0, 1) := by decide +kernel
theorem dX12_endingStep_1 : decode cX12_endingStep 1 = .ok (.getfield 89, 3) := by decide +kernel
theorem dX12_endingStep_4 : decode cX12_endingStep 4 = .ok (.iload_n 1, 1) := by decide +kernel
theorem dX12_endingStep_5 : decode cX12_endingStep 5 = .ok (.iaload, 1) := by decide +kernel
theorem dX12_endingStep_6 : decode cX12_endingStep 6 = .ok (.ifCond .le 10, 3) := by decide +kernel
theorem dX12_endingStep_9 : decode cX12_endingStep 9 = .ok (.aload_n 0, 1) := by decide +kernel
theorem dX12_endingStep_10 : decode cX12_endingStep 10 = .ok (.iload_n 1, 1) := by decide +kernel
theorem dX12_endingStep_11 : decode cX12_endingStep 11 = .ok (.iconst 4, 1) := by decide +kernel
theorem dX12_endingStep_12 : decode cX12_endingStep 12 = .ok (.invokevirtual 194, 3) := by decide +kernel
theorem dX12_endingStep_15 : decode cX12_endingStep 15 = .ok (.return_, 1) := by decide +kernel
theorem dX12_endingStep_16 : decode cX12_endingStep 16 = .ok (.iconst 0, 1) := by decide +kernel
theorem dX12_endingStep_17 : decode cX12_endingStep 17 = .ok (.istore_n 2, 1) := by decide +kernel
theorem dX12_endingStep_18 : decode cX12_endingStep 18 = .ok (.iload_n 2, 1) := by decide +kernel
theorem dX12_endingStep_19 : decode cX12_endingStep 19 = .ok (.aload_n 0, 1) := by decide +kernel
theorem dX12_endingStep_20 : decode cX12_endingStep 20 = .ok (.getfield 150, 3) := by decide +kernel
theorem dX12_endingStep_23 : decode cX12_endingStep 23 = .ok (.if_icmp .ge 35, 3) := by decide +kernel
theorem dX12_endingStep_26 : decode cX12_endingStep 26 = .ok (.aload_n 0, 1) := by decide +kernel
theorem dX12_endingStep_27 : decode cX12_endingStep 27 = .ok (.getfield 104, 3) := by decide +kernel
theorem dX12_endingStep_30 : decode cX12_endingStep 30 = .ok (.iload_n 2, 1) := by decide +kernel
theorem dX12_endingStep_31 : decode cX12_endingStep 31 = .ok (.aload_n 0, 1) := by decide +kernel
theorem dX12_endingStep_32 : decode cX12_endingStep 32 = .ok (.getfield 104, 3) := by decide +kernel
theorem dX12_endingStep_35 : decode cX12_endingStep 35 = .ok (.iload_n 2, 1) := by decide +kernel
theorem dX12_endingStep_36 : decode cX12_endingStep 36 = .ok (.iaload, 1) := by decide +kernel
theorem dX12_endingStep_37 : decode cX12_endingStep 37 = .ok (.iload_n 1, 1) := by decide +kernel
theorem dX12_endingStep_38 : decode cX12_endingStep 38 = .ok (.if_icmp .ne 7, 3) := by decide +kernel
theorem dX12_endingStep_41 : decode cX12_endingStep 41 = .ok (.iconst (-1), 1) := by decide +kernel
theorem dX12_endingStep_42 : decode cX12_endingStep 42 = .ok (.goto 9, 3) := by decide +kernel
theorem dX12_endingStep_45 : decode cX12_endingStep 45 = .ok (.aload_n 0, 1) := by decide +kernel
theorem dX12_endingStep_46 : decode cX12_endingStep 46 = .ok (.getfield 104, 3) := by decide +kernel
theorem dX12_endingStep_49 : decode cX12_endingStep 49 = .ok (.iload_n 2, 1) := by decide +kernel
theorem dX12_endingStep_50 : decode cX12_endingStep 50 = .ok (.iaload, 1) := by decide +kernel
theorem dX12_endingStep_51 : decode cX12_endingStep 51 = .ok (.iastore, 1) := by decide +kernel
theorem dX12_endingStep_52 : decode cX12_endingStep 52 = .ok (.iinc 2 1, 3) := by decide +kernel
theorem dX12_endingStep_55 : decode cX12_endingStep 55 = .ok (.goto (-37), 3) := by decide +kernel
theorem dX12_endingStep_58 : decode cX12_endingStep 58 = .ok (.iconst 0, 1) := by decide +kernel
theorem dX12_endingStep_59 : decode cX12_endingStep 59 = .ok (.istore_n 2, 1) := by decide +kernel
theorem dX12_endingStep_60 : decode cX12_endingStep 60 = .ok (.iload_n 2, 1) := by decide +kernel
theorem dX12_endingStep_61 : decode cX12_endingStep 61 = .ok (.iconst 3, 1) := by decide +kernel
theorem dX12_endingStep_62 : decode cX12_endingStep 62 = .ok (.if_icmp .ge 28, 3) := by decide +kernel
theorem dX12_endingStep_65 : decode cX12_endingStep 65 = .ok (.aload_n 0, 1) := by decide +kernel
theorem dX12_endingStep_66 : decode cX12_endingStep 66 = .ok (.getfield 71, 3) := by decide +kernel
theorem dX12_endingStep_69 : decode cX12_endingStep 69 = .ok (.iload_n 2, 1) := by decide +kernel
theorem dX12_endingStep_70 : decode cX12_endingStep 70 = .ok (.dup2, 1) := by decide +kernel
theorem dX12_endingStep_71 : decode cX12_endingStep 71 = .ok (.iaload, 1) := by decide +kernel
theorem dX12_endingStep_72 : decode cX12_endingStep 72 = .ok (.aload_n 0, 1) := by decide +kernel
theorem dX12_endingStep_73 : decode cX12_endingStep 73 = .ok (.getfield 68, 3) := by decide +kernel
theorem dX12_endingStep_76 : decode cX12_endingStep 76 = .ok (.iconst 3, 1) := by decide +kernel
theorem dX12_endingStep_77 : decode cX12_endingStep 77 = .ok (.iload_n 1, 1) := by decide +kernel
theorem dX12_endingStep_78 : decode cX12_endingStep 78 = .ok (.imul, 1) := by decide +kernel
theorem dX12_endingStep_79 : decode cX12_endingStep 79 = .ok (.iload_n 2, 1) := by decide +kernel
theorem dX12_endingStep_80 : decode cX12_endingStep 80 = .ok (.iadd, 1) := by decide +kernel
theorem dX12_endingStep_81 : decode cX12_endingStep 81 = .ok (.iaload, 1) := by decide +kernel
theorem dX12_endingStep_82 : decode cX12_endingStep 82 = .ok (.iadd, 1) := by decide +kernel
theorem dX12_endingStep_83 : decode cX12_endingStep 83 = .ok (.iastore, 1) := by decide +kernel
theorem dX12_endingStep_84 : decode cX12_endingStep 84 = .ok (.iinc 2 1, 3) := by decide +kernel
theorem dX12_endingStep_87 : decode cX12_endingStep 87 = .ok (.goto (-27), 3) := by decide +kernel
theorem dX12_endingStep_90 : decode cX12_endingStep 90 = .ok (.aload_n 0, 1) := by decide +kernel
theorem dX12_endingStep_91 : decode cX12_endingStep 91 = .ok (.getfield 32, 3) := by decide +kernel
theorem dX12_endingStep_94 : decode cX12_endingStep 94 = .ok (.iload_n 1, 1) := by decide +kernel
theorem dX12_endingStep_95 : decode cX12_endingStep 95 = .ok (.iconst 3, 1) := by decide +kernel
theorem dX12_endingStep_96 : decode cX12_endingStep 96 = .ok (.iastore, 1) := by decide +kernel
theorem dX12_endingStep_97 : decode cX12_endingStep 97 = .ok (.aload_n 0, 1) := by decide +kernel
theorem dX12_endingStep_98 : decode cX12_endingStep 98 = .ok (.getfield 35, 3) := by decide +kernel
theorem dX12_endingStep_101 : decode cX12_endingStep 101 = .ok (.iload_n 1, 1) := by decide +kernel
theorem dX12_endingStep_102 : decode cX12_endingStep 102 = .ok (.aload_n 0, 1) := by decide +kernel
theorem dX12_endingStep_103 : decode cX12_endingStep 103 = .ok (.getfield 38, 3) := by decide +kernel
theorem dX12_endingStep_106 : decode cX12_endingStep 106 = .ok (.iload_n 1, 1) := by decide +kernel
theorem dX12_endingStep_107 : decode cX12_endingStep 107 = .ok (.iaload, 1) := by decide +kernel
theorem dX12_endingStep_108 : decode cX12_endingStep 108 = .ok (.iastore, 1) := by decide +kernel
theorem dX12_endingStep_109 : decode cX12_endingStep 109 = .ok (.aload_n 0, 1) := by decide +kernel
theorem dX12_endingStep_110 : decode cX12_endingStep 110 = .ok (.getfield 38, 3) := by decide +kernel
theorem dX12_endingStep_113 : decode cX12_endingStep 113 = .ok (.iload_n 1, 1) := by decide +kernel
theorem dX12_endingStep_114 : decode cX12_endingStep 114 = .ok (.iconst 0, 1) := by decide +kernel
theorem dX12_endingStep_115 : decode cX12_endingStep 115 = .ok (.iastore, 1) := by decide +kernel
theorem dX12_endingStep_116 : decode cX12_endingStep 116 = .ok (.aload_n 0, 1) := by decide +kernel
theorem dX12_endingStep_117 : decode cX12_endingStep 117 = .ok (.getfield 16, 3) := by decide +kernel
theorem dX12_endingStep_120 : decode cX12_endingStep 120 = .ok (.iload_n 1, 1) := by decide +kernel
theorem dX12_endingStep_121 : decode cX12_endingStep 121 = .ok (.iconst 1, 1) := by decide +kernel
theorem dX12_endingStep_122 : decode cX12_endingStep 122 = .ok (.bastore, 1) := by decide +kernel
theorem dX12_endingStep_123 : decode cX12_endingStep 123 = .ok (.aload_n 0, 1) := by decide +kernel
theorem dX12_endingStep_124 : decode cX12_endingStep 124 = .ok (.bipush 48, 2) := by decide +kernel
theorem dX12_endingStep_126 : decode cX12_endingStep 126 = .ok (.iload_n 1, 1) := by decide +kernel
theorem dX12_endingStep_127 : decode cX12_endingStep 127 = .ok (.iadd, 1) := by decide +kernel
theorem dX12_endingStep_128 : decode cX12_endingStep 128 = .ok (.invokevirtual 233, 3) := by decide +kernel
theorem dX12_endingStep_131 : decode cX12_endingStep 131 = .ok (.aload_n 0, 1) := by decide +kernel
theorem dX12_endingStep_132 : decode cX12_endingStep 132 = .ok (.bipush 61, 2) := by decide +kernel
theorem dX12_endingStep_134 : decode cX12_endingStep 134 = .ok (.invokevirtual 233, 3) := by decide +kernel
theorem dX12_endingStep_137 : decode cX12_endingStep 137 = .ok (.aload_n 0, 1) := by decide +kernel
theorem dX12_endingStep_138 : decode cX12_endingStep 138 = .ok (.bipush 48, 2) := by decide +kernel
theorem dX12_endingStep_140 : decode cX12_endingStep 140 = .ok (.aload_n 0, 1) := by decide +kernel
theorem dX12_endingStep_141 : decode cX12_endingStep 141 = .ok (.getfield 35, 3) := by decide +kernel
theorem dX12_endingStep_144 : decode cX12_endingStep 144 = .ok (.iload_n 1, 1) := by decide +kernel
theorem dX12_endingStep_145 : decode cX12_endingStep 145 = .ok (.iaload, 1) := by decide +kernel
theorem dX12_endingStep_146 : decode cX12_endingStep 146 = .ok (.iadd, 1) := by decide +kernel
theorem dX12_endingStep_147 : decode cX12_endingStep 147 = .ok (.invokevirtual 233, 3) := by decide +kernel
theorem dX12_endingStep_150 : decode cX12_endingStep 150 = .ok (.aload_n 0, 1) := by decide +kernel
theorem dX12_endingStep_151 : decode cX12_endingStep 151 = .ok (.bipush 10, 2) := by decide +kernel
theorem dX12_endingStep_153 : decode cX12_endingStep 153 = .ok (.invokevirtual 233, 3) := by decide +kernel
theorem dX12_endingStep_156 : decode cX12_endingStep 156 = .ok (.aload_n 0, 1) := by decide +kernel
theorem dX12_endingStep_157 : decode cX12_endingStep 157 = .ok (.invokevirtual 297, 3) := by decide +kernel
theorem dX12_endingStep_160 : decode cX12_endingStep 160 = .ok (.return_, 1) := by decide +kernel
theorem dX12_feed_0 : decode cX12_feed 0 = .ok (.aload_n 0, 1) := by decide +kernel
theorem dX12_feed_1 : decode cX12_feed 1 = .ok (.getfield 340, 3) := by decide +kernel
theorem dX12_feed_4 : decode cX12_feed 4 = .ok (.iconst 4, 1) := by decide +kernel
theorem dX12_feed_5 : decode cX12_feed 5 = .ok (.iadd, 1) := by decide +kernel
theorem dX12_feed_6 : decode cX12_feed 6 = .ok (.sipush 200, 3) := by decide +kernel
theorem dX12_feed_9 : decode cX12_feed 9 = .ok (.if_icmp .le 5, 3) := by decide +kernel
theorem dX12_feed_12 : decode cX12_feed 12 = .ok (.iconst (-1), 1) := by decide +kernel
theorem dX12_feed_13 : decode cX12_feed 13 = .ok (.ireturn, 1) := by decide +kernel
theorem dX12_feed_14 : decode cX12_feed 14 = .ok (.aload_n 0, 1) := by decide +kernel
theorem dX12_feed_15 : decode cX12_feed 15 = .ok (.getfield 7, 3) := by decide +kernel
theorem dX12_feed_18 : decode cX12_feed 18 = .ok (.aload_n 0, 1) := by decide +kernel
theorem dX12_feed_19 : decode cX12_feed 19 = .ok (.getfield 340, 3) := by decide +kernel
theorem dX12_feed_22 : decode cX12_feed 22 = .ok (.iload_n 1, 1) := by decide +kernel
theorem dX12_feed_23 : decode cX12_feed 23 = .ok (.iastore, 1) := by decide +kernel
theorem dX12_feed_24 : decode cX12_feed 24 = .ok (.aload_n 0, 1) := by decide +kernel
theorem dX12_feed_25 : decode cX12_feed 25 = .ok (.getfield 7, 3) := by decide +kernel
theorem dX12_feed_28 : decode cX12_feed 28 = .ok (.aload_n 0, 1) := by decide +kernel
theorem dX12_feed_29 : decode cX12_feed 29 = .ok (.getfield 340, 3) := by decide +kernel
theorem dX12_feed_32 : decode cX12_feed 32 = .ok (.iconst 1, 1) := by decide +kernel
theorem dX12_feed_33 : decode cX12_feed 33 = .ok (.iadd, 1) := by decide +kernel
theorem dX12_feed_34 : decode cX12_feed 34 = .ok (.iload_n 2, 1) := by decide +kernel
theorem dX12_feed_35 : decode cX12_feed 35 = .ok (.iastore, 1) := by decide +kernel
theorem dX12_feed_36 : decode cX12_feed 36 = .ok (.aload_n 0, 1) := by decide +kernel
theorem dX12_feed_37 : decode cX12_feed 37 = .ok (.getfield 7, 3) := by decide +kernel
theorem dX12_feed_40 : decode cX12_feed 40 = .ok (.aload_n 0, 1) := by decide +kernel
theorem dX12_feed_41 : decode cX12_feed 41 = .ok (.getfield 340, 3) := by decide +kernel
theorem dX12_feed_44 : decode cX12_feed 44 = .ok (.iconst 2, 1) := by decide +kernel
theorem dX12_feed_45 : decode cX12_feed 45 = .ok (.iadd, 1) := by decide +kernel
theorem dX12_feed_46 : decode cX12_feed 46 = .ok (.iload_n 3, 1) := by decide +kernel
theorem dX12_feed_47 : decode cX12_feed 47 = .ok (.iastore, 1) := by decide +kernel
theorem dX12_feed_48 : decode cX12_feed 48 = .ok (.aload_n 0, 1) := by decide +kernel
theorem dX12_feed_49 : decode cX12_feed 49 = .ok (.getfield 7, 3) := by decide +kernel
theorem dX12_feed_52 : decode cX12_feed 52 = .ok (.aload_n 0, 1) := by decide +kernel
theorem dX12_feed_53 : decode cX12_feed 53 = .ok (.getfield 340, 3) := by decide +kernel
theorem dX12_feed_56 : decode cX12_feed 56 = .ok (.iconst 3, 1) := by decide +kernel
theorem dX12_feed_57 : decode cX12_feed 57 = .ok (.iadd, 1) := by decide +kernel
theorem dX12_feed_58 : decode cX12_feed 58 = .ok (.iload 4, 2) := by decide +kernel
theorem dX12_feed_60 : decode cX12_feed 60 = .ok (.iastore, 1) := by decide +kernel
theorem dX12_feed_61 : decode cX12_feed 61 = .ok (.aload_n 0, 1) := by decide +kernel
theorem dX12_feed_62 : decode cX12_feed 62 = .ok (.dup, 1) := by decide +kernel
theorem dX12_feed_63 : decode cX12_feed 63 = .ok (.getfield 340, 3) := by decide +kernel
theorem dX12_feed_66 : decode cX12_feed 66 = .ok (.iconst 4, 1) := by decide +kernel
theorem dX12_feed_67 : decode cX12_feed 67 = .ok (.iadd, 1) := by decide +kernel
theorem dX12_feed_68 : decode cX12_feed 68 = .ok (.putfield 340, 3) := by decide +kernel
theorem dX12_feed_71 : decode cX12_feed 71 = .ok (.aload_n 0, 1) := by decide +kernel
theorem dX12_feed_72 : decode cX12_feed 72 = .ok (.getfield 340, 3) := by decide +kernel
theorem dX12_feed_75 : decode cX12_feed 75 = .ok (.ireturn, 1) := by decide +kernel
theorem dX12_submit_0 : decode cX12_submit 0 = .ok (.aload_n 0, 1) := by decide +kernel
theorem dX12_submit_1 : decode cX12_submit 1 = .ok (.getfield 340, 3) := by decide +kernel
theorem dX12_submit_4 : decode cX12_submit 4 = .ok (.istore 6, 2) := by decide +kernel
theorem dX12_submit_6 : decode cX12_submit 6 = .ok (.aload_n 0, 1) := by decide +kernel
theorem dX12_submit_7 : decode cX12_submit 7 = .ok (.iconst 0, 1) := by decide +kernel
theorem dX12_submit_8 : decode cX12_submit 8 = .ok (.putfield 340, 3) := by decide +kernel
theorem dX12_submit_11 : decode cX12_submit 11 = .ok (.iload_n 3, 1) := by decide +kernel
theorem dX12_submit_12 : decode cX12_submit 12 = .ok (.iconst 1, 1) := by decide +kernel
theorem dX12_submit_13 : decode cX12_submit 13 = .ok (.if_icmp .lt 43, 3) := by decide +kernel
theorem dX12_submit_16 : decode cX12_submit 16 = .ok (.iload_n 3, 1) := by decide +kernel
theorem dX12_submit_17 : decode cX12_submit 17 = .ok (.bipush 8, 2) := by decide +kernel
theorem dX12_submit_19 : decode cX12_submit 19 = .ok (.if_icmp .gt 37, 3) := by decide +kernel
theorem dX12_submit_22 : decode cX12_submit 22 = .ok (.iload_n 1, 1) := by decide +kernel
theorem dX12_submit_23 : decode cX12_submit 23 = .ok (.ifCond .lt 33, 3) := by decide +kernel
theorem dX12_submit_26 : decode cX12_submit 26 = .ok (.iload_n 1, 1) := by decide +kernel
theorem dX12_submit_27 : decode cX12_submit 27 = .ok (.bipush 16, 2) := by decide +kernel
theorem dX12_submit_29 : decode cX12_submit 29 = .ok (.iload_n 3, 1) := by decide +kernel
theorem dX12_submit_30 : decode cX12_submit 30 = .ok (.imul, 1) := by decide +kernel
theorem dX12_submit_31 : decode cX12_submit 31 = .ok (.if_icmp .gt 25, 3) := by decide +kernel
theorem dX12_submit_34 : decode cX12_submit 34 = .ok (.iload_n 2, 1) := by decide +kernel
theorem dX12_submit_35 : decode cX12_submit 35 = .ok (.ifCond .lt 21, 3) := by decide +kernel
theorem dX12_submit_38 : decode cX12_submit 38 = .ok (.iload_n 2, 1) := by decide +kernel
theorem dX12_submit_39 : decode cX12_submit 39 = .ok (.bipush 40, 2) := by decide +kernel
theorem dX12_submit_41 : decode cX12_submit 41 = .ok (.if_icmp .gt 15, 3) := by decide +kernel
theorem dX12_submit_44 : decode cX12_submit 44 = .ok (.iload_n 1, 1) := by decide +kernel
theorem dX12_submit_45 : decode cX12_submit 45 = .ok (.iload_n 2, 1) := by decide +kernel
theorem dX12_submit_46 : decode cX12_submit 46 = .ok (.iadd, 1) := by decide +kernel
theorem dX12_submit_47 : decode cX12_submit 47 = .ok (.iload 6, 2) := by decide +kernel
theorem dX12_submit_49 : decode cX12_submit 49 = .ok (.if_icmp .gt 7, 3) := by decide +kernel
theorem dX12_submit_52 : decode cX12_submit 52 = .ok (.iconst 1, 1) := by decide +kernel
theorem dX12_submit_53 : decode cX12_submit 53 = .ok (.goto 4, 3) := by decide +kernel
theorem dX12_submit_56 : decode cX12_submit 56 = .ok (.iconst 0, 1) := by decide +kernel
theorem dX12_submit_57 : decode cX12_submit 57 = .ok (.istore 7, 2) := by decide +kernel
theorem dX12_submit_59 : decode cX12_submit 59 = .ok (.iload 7, 2) := by decide +kernel
theorem dX12_submit_61 : decode cX12_submit 61 = .ok (.ifCond .eq 37, 3) := by decide +kernel
theorem dX12_submit_64 : decode cX12_submit 64 = .ok (.iload 4, 2) := by decide +kernel
theorem dX12_submit_66 : decode cX12_submit 66 = .ok (.iconst 1, 1) := by decide +kernel
theorem dX12_submit_67 : decode cX12_submit 67 = .ok (.if_icmp .lt 31, 3) := by decide +kernel
theorem dX12_submit_70 : decode cX12_submit 70 = .ok (.iload 4, 2) := by decide +kernel
theorem dX12_submit_72 : decode cX12_submit 72 = .ok (.sipush 5000, 3) := by decide +kernel
theorem dX12_submit_75 : decode cX12_submit 75 = .ok (.if_icmp .gt 23, 3) := by decide +kernel
theorem dX12_submit_78 : decode cX12_submit 78 = .ok (.iload 5, 2) := by decide +kernel
theorem dX12_submit_80 : decode cX12_submit 80 = .ok (.ifCond .lt 18, 3) := by decide +kernel
theorem dX12_submit_83 : decode cX12_submit 83 = .ok (.iload 5, 2) := by decide +kernel
theorem dX12_submit_85 : decode cX12_submit 85 = .ok (.iconst 4, 1) := by decide +kernel
theorem dX12_submit_86 : decode cX12_submit 86 = .ok (.idiv, 1) := by decide +kernel
theorem dX12_submit_87 : decode cX12_submit 87 = .ok (.aload_n 0, 1) := by decide +kernel
theorem dX12_submit_88 : decode cX12_submit 88 = .ok (.getfield 154, 3) := by decide +kernel
theorem dX12_submit_91 : decode cX12_submit 91 = .ok (.if_icmp .gt 7, 3) := by decide +kernel
theorem dX12_submit_94 : decode cX12_submit 94 = .ok (.iconst 1, 1) := by decide +kernel
theorem dX12_submit_95 : decode cX12_submit 95 = .ok (.goto 4, 3) := by decide +kernel
theorem dX12_submit_98 : decode cX12_submit 98 = .ok (.iconst 0, 1) := by decide +kernel
theorem dX12_submit_99 : decode cX12_submit 99 = .ok (.istore 7, 2) := by decide +kernel
theorem dX12_submit_101 : decode cX12_submit 101 = .ok (.iconst 0, 1) := by decide +kernel
theorem dX12_submit_102 : decode cX12_submit 102 = .ok (.istore 8, 2) := by decide +kernel
theorem dX12_submit_104 : decode cX12_submit 104 = .ok (.iload 8, 2) := by decide +kernel
theorem dX12_submit_106 : decode cX12_submit 106 = .ok (.bipush 6, 2) := by decide +kernel
theorem dX12_submit_108 : decode cX12_submit 108 = .ok (.if_icmp .ge 30, 3) := by decide +kernel
theorem dX12_submit_111 : decode cX12_submit 111 = .ok (.aload_n 0, 1) := by decide +kernel
theorem dX12_submit_112 : decode cX12_submit 112 = .ok (.getfield 32, 3) := by decide +kernel
theorem dX12_submit_115 : decode cX12_submit 115 = .ok (.iload 8, 2) := by decide +kernel
theorem dX12_submit_117 : decode cX12_submit 117 = .ok (.iaload, 1) := by decide +kernel
theorem dX12_submit_118 : decode cX12_submit 118 = .ok (.ifCond .eq 20, 3) := by decide +kernel
theorem dX12_submit_121 : decode cX12_submit 121 = .ok (.aload_n 0, 1) := by decide +kernel
theorem dX12_submit_122 : decode cX12_submit 122 = .ok (.getfield 32, 3) := by decide +kernel
theorem dX12_submit_125 : decode cX12_submit 125 = .ok (.iload 8, 2) := by decide +kernel
theorem dX12_submit_127 : decode cX12_submit 127 = .ok (.iaload, 1) := by decide +kernel
theorem dX12_submit_128 : decode cX12_submit 128 = .ok (.iconst 3, 1) := by decide +kernel
theorem dX12_submit_129 : decode cX12_submit 129 = .ok (.if_icmp .eq 9, 3) := by decide +kernel
theorem dX12_submit_132 : decode cX12_submit 132 = .ok (.iinc 8 1, 3) := by decide +kernel
theorem dX12_submit_135 : decode cX12_submit 135 = .ok (.goto (-31), 3) := by decide +kernel
theorem dX12_submit_138 : decode cX12_submit 138 = .ok (.iload 7, 2) := by decide +kernel
theorem dX12_submit_140 : decode cX12_submit 140 = .ok (.ifCond .eq 10, 3) := by decide +kernel
theorem dX12_submit_143 : decode cX12_submit 143 = .ok (.iload 8, 2) := by decide +kernel
theorem dX12_submit_145 : decode cX12_submit 145 = .ok (.bipush 6, 2) := by decide +kernel
theorem dX12_submit_147 : decode cX12_submit 147 = .ok (.if_icmp .ne 5, 3) := by decide +kernel
theorem dX12_submit_150 : decode cX12_submit 150 = .ok (.iconst (-1), 1) := by decide +kernel
theorem dX12_submit_151 : decode cX12_submit 151 = .ok (.ireturn, 1) := by decide +kernel
theorem dX12_submit_152 : decode cX12_submit 152 = .ok (.aload_n 0, 1) := by decide +kernel
theorem dX12_submit_153 : decode cX12_submit 153 = .ok (.dup, 1) := by decide +kernel
theorem dX12_submit_154 : decode cX12_submit 154 = .ok (.getfield 343, 3) := by decide +kernel
theorem dX12_submit_157 : decode cX12_submit 157 = .ok (.iconst 1, 1) := by decide +kernel
theorem dX12_submit_158 : decode cX12_submit 158 = .ok (.iadd, 1) := by decide +kernel
theorem dX12_submit_159 : decode cX12_submit 159 = .ok (.putfield 343, 3) := by decide +kernel
theorem dX12_submit_162 : decode cX12_submit 162 = .ok (.aload_n 0, 1) := by decide +kernel
theorem dX12_submit_163 : decode cX12_submit 163 = .ok (.getfield 59, 3) := by decide +kernel
theorem dX12_submit_166 : decode cX12_submit 166 = .ok (.iload 8, 2) := by decide +kernel
theorem dX12_submit_168 : decode cX12_submit 168 = .ok (.aload_n 0, 1) := by decide +kernel
theorem dX12_submit_169 : decode cX12_submit 169 = .ok (.getfield 343, 3) := by decide +kernel
theorem dX12_submit_172 : decode cX12_submit 172 = .ok (.iastore, 1) := by decide +kernel
theorem dX12_submit_173 : decode cX12_submit 173 = .ok (.aload_n 0, 1) := by decide +kernel
theorem dX12_submit_174 : decode cX12_submit 174 = .ok (.getfield 32, 3) := by decide +kernel
theorem dX12_submit_177 : decode cX12_submit 177 = .ok (.iload 8, 2) := by decide +kernel
theorem dX12_submit_179 : decode cX12_submit 179 = .ok (.iconst 1, 1) := by decide +kernel
theorem dX12_submit_180 : decode cX12_submit 180 = .ok (.iastore, 1) := by decide +kernel
theorem dX12_submit_181 : decode cX12_submit 181 = .ok (.aload_n 0, 1) := by decide +kernel
theorem dX12_submit_182 : decode cX12_submit 182 = .ok (.getfield 35, 3) := by decide +kernel
theorem dX12_submit_185 : decode cX12_submit 185 = .ok (.iload 8, 2) := by decide +kernel
theorem dX12_submit_187 : decode cX12_submit 187 = .ok (.iconst 0, 1) := by decide +kernel
theorem dX12_submit_188 : decode cX12_submit 188 = .ok (.iastore, 1) := by decide +kernel
theorem dX12_submit_189 : decode cX12_submit 189 = .ok (.aload_n 0, 1) := by decide +kernel
theorem dX12_submit_190 : decode cX12_submit 190 = .ok (.getfield 41, 3) := by decide +kernel
theorem dX12_submit_193 : decode cX12_submit 193 = .ok (.iload 8, 2) := by decide +kernel
theorem dX12_submit_195 : decode cX12_submit 195 = .ok (.iconst 0, 1) := by decide +kernel
theorem dX12_submit_196 : decode cX12_submit 196 = .ok (.iastore, 1) := by decide +kernel
theorem dX12_submit_197 : decode cX12_submit 197 = .ok (.aload_n 0, 1) := by decide +kernel
theorem dX12_submit_198 : decode cX12_submit 198 = .ok (.getfield 44, 3) := by decide +kernel
theorem dX12_submit_201 : decode cX12_submit 201 = .ok (.iload 8, 2) := by decide +kernel
theorem dX12_submit_203 : decode cX12_submit 203 = .ok (.iconst 0, 1) := by decide +kernel
theorem dX12_submit_204 : decode cX12_submit 204 = .ok (.iastore, 1) := by decide +kernel
theorem dX12_submit_205 : decode cX12_submit 205 = .ok (.aload_n 0, 1) := by decide +kernel
theorem dX12_submit_206 : decode cX12_submit 206 = .ok (.getfield 47, 3) := by decide +kernel
theorem dX12_submit_209 : decode cX12_submit 209 = .ok (.iload 8, 2) := by decide +kernel
theorem dX12_submit_211 : decode cX12_submit 211 = .ok (.iconst 0, 1) := by decide +kernel
theorem dX12_submit_212 : decode cX12_submit 212 = .ok (.iastore, 1) := by decide +kernel
theorem dX12_submit_213 : decode cX12_submit 213 = .ok (.aload_n 0, 1) := by decide +kernel
theorem dX12_submit_214 : decode cX12_submit 214 = .ok (.getfield 50, 3) := by decide +kernel
theorem dX12_submit_217 : decode cX12_submit 217 = .ok (.iload 8, 2) := by decide +kernel
theorem dX12_submit_219 : decode cX12_submit 219 = .ok (.iconst 0, 1) := by decide +kernel
theorem dX12_submit_220 : decode cX12_submit 220 = .ok (.iastore, 1) := by decide +kernel
theorem dX12_submit_221 : decode cX12_submit 221 = .ok (.aload_n 0, 1) := by decide +kernel
theorem dX12_submit_222 : decode cX12_submit 222 = .ok (.getfield 53, 3) := by decide +kernel
theorem dX12_submit_225 : decode cX12_submit 225 = .ok (.iload 8, 2) := by decide +kernel
theorem dX12_submit_227 : decode cX12_submit 227 = .ok (.iload 4, 2) := by decide +kernel
theorem dX12_submit_229 : decode cX12_submit 229 = .ok (.iastore, 1) := by decide +kernel
theorem dX12_submit_230 : decode cX12_submit 230 = .ok (.aload_n 0, 1) := by decide +kernel
theorem dX12_submit_231 : decode cX12_submit 231 = .ok (.getfield 56, 3) := by decide +kernel
theorem dX12_submit_234 : decode cX12_submit 234 = .ok (.iload 8, 2) := by decide +kernel
theorem dX12_submit_236 : decode cX12_submit 236 = .ok (.iload_n 3, 1) := by decide +kernel
theorem dX12_submit_237 : decode cX12_submit 237 = .ok (.iastore, 1) := by decide +kernel
theorem dX12_submit_238 : decode cX12_submit 238 = .ok (.aload_n 0, 1) := by decide +kernel
theorem dX12_submit_239 : decode cX12_submit 239 = .ok (.getfield 62, 3) := by decide +kernel
theorem dX12_submit_242 : decode cX12_submit 242 = .ok (.iload 8, 2) := by decide +kernel
theorem dX12_submit_244 : decode cX12_submit 244 = .ok (.iconst 0, 1) := by decide +kernel
theorem dX12_submit_245 : decode cX12_submit 245 = .ok (.bastore, 1) := by decide +kernel
theorem dX12_submit_246 : decode cX12_submit 246 = .ok (.aload_n 0, 1) := by decide +kernel
theorem dX12_submit_247 : decode cX12_submit 247 = .ok (.getfield 65, 3) := by decide +kernel
theorem dX12_submit_250 : decode cX12_submit 250 = .ok (.iconst 3, 1) := by decide +kernel
theorem dX12_submit_251 : decode cX12_submit 251 = .ok (.iload 8, 2) := by decide +kernel
theorem dX12_submit_253 : decode cX12_submit 253 = .ok (.imul, 1) := by decide +kernel
theorem dX12_submit_254 : decode cX12_submit 254 = .ok (.iload 5, 2) := by decide +kernel
theorem dX12_submit_256 : decode cX12_submit 256 = .ok (.iconst 1, 1) := by decide +kernel
theorem dX12_submit_257 : decode cX12_submit 257 = .ok (.iand, 1) := by decide +kernel
theorem dX12_submit_258 : decode cX12_submit 258 = .ok (.iastore, 1) := by decide +kernel
theorem dX12_submit_259 : decode cX12_submit 259 = .ok (.aload_n 0, 1) := by decide +kernel
theorem dX12_submit_260 : decode cX12_submit 260 = .ok (.getfield 65, 3) := by decide +kernel
theorem dX12_submit_263 : decode cX12_submit 263 = .ok (.iconst 3, 1) := by decide +kernel
theorem dX12_submit_264 : decode cX12_submit 264 = .ok (.iload 8, 2) := by decide +kernel
theorem dX12_submit_266 : decode cX12_submit 266 = .ok (.imul, 1) := by decide +kernel
theorem dX12_submit_267 : decode cX12_submit 267 = .ok (.iconst 1, 1) := by decide +kernel
theorem dX12_submit_268 : decode cX12_submit 268 = .ok (.iadd, 1) := by decide +kernel
theorem dX12_submit_269 : decode cX12_submit 269 = .ok (.iload 5, 2) := by decide +kernel
theorem dX12_submit_271 : decode cX12_submit 271 = .ok (.iconst 1, 1) := by decide +kernel
theorem dX12_submit_272 : decode cX12_submit 272 = .ok (.ishr, 1) := by decide +kernel
theorem dX12_submit_273 : decode cX12_submit 273 = .ok (.iconst 1, 1) := by decide +kernel
theorem dX12_submit_274 : decode cX12_submit 274 = .ok (.iand, 1) := by decide +kernel
theorem dX12_submit_275 : decode cX12_submit 275 = .ok (.iastore, 1) := by decide +kernel
theorem dX12_submit_276 : decode cX12_submit 276 = .ok (.aload_n 0, 1) := by decide +kernel
theorem dX12_submit_277 : decode cX12_submit 277 = .ok (.getfield 65, 3) := by decide +kernel
theorem dX12_submit_280 : decode cX12_submit 280 = .ok (.iconst 3, 1) := by decide +kernel
theorem dX12_submit_281 : decode cX12_submit 281 = .ok (.iload 8, 2) := by decide +kernel
theorem dX12_submit_283 : decode cX12_submit 283 = .ok (.imul, 1) := by decide +kernel
theorem dX12_submit_284 : decode cX12_submit 284 = .ok (.iconst 2, 1) := by decide +kernel
theorem dX12_submit_285 : decode cX12_submit 285 = .ok (.iadd, 1) := by decide +kernel
theorem dX12_submit_286 : decode cX12_submit 286 = .ok (.iload 5, 2) := by decide +kernel
theorem dX12_submit_288 : decode cX12_submit 288 = .ok (.iconst 4, 1) := by decide +kernel
theorem dX12_submit_289 : decode cX12_submit 289 = .ok (.idiv, 1) := by decide +kernel
theorem dX12_submit_290 : decode cX12_submit 290 = .ok (.iastore, 1) := by decide +kernel
theorem dX12_submit_291 : decode cX12_submit 291 = .ok (.iconst 0, 1) := by decide +kernel
theorem dX12_submit_292 : decode cX12_submit 292 = .ok (.istore 9, 2) := by decide +kernel
theorem dX12_submit_294 : decode cX12_submit 294 = .ok (.iload 9, 2) := by decide +kernel
theorem dX12_submit_296 : decode cX12_submit 296 = .ok (.iconst 3, 1) := by decide +kernel
theorem dX12_submit_297 : decode cX12_submit 297 = .ok (.if_icmp .ge 22, 3) := by decide +kernel
theorem dX12_submit_300 : decode cX12_submit 300 = .ok (.aload_n 0, 1) := by decide +kernel
theorem dX12_submit_301 : decode cX12_submit 301 = .ok (.getfield 68, 3) := by decide +kernel
theorem dX12_submit_304 : decode cX12_submit 304 = .ok (.iconst 3, 1) := by decide +kernel
theorem dX12_submit_305 : decode cX12_submit 305 = .ok (.iload 8, 2) := by decide +kernel
theorem dX12_submit_307 : decode cX12_submit 307 = .ok (.imul, 1) := by decide +kernel
theorem dX12_submit_308 : decode cX12_submit 308 = .ok (.iload 9, 2) := by decide +kernel
theorem dX12_submit_310 : decode cX12_submit 310 = .ok (.iadd, 1) := by decide +kernel
theorem dX12_submit_311 : decode cX12_submit 311 = .ok (.iconst 0, 1) := by decide +kernel
theorem dX12_submit_312 : decode cX12_submit 312 = .ok (.iastore, 1) := by decide +kernel
theorem dX12_submit_313 : decode cX12_submit 313 = .ok (.iinc 9 1, 3) := by decide +kernel
theorem dX12_submit_316 : decode cX12_submit 316 = .ok (.goto (-22), 3) := by decide +kernel
theorem dX12_submit_319 : decode cX12_submit 319 = .ok (.aload_n 0, 1) := by decide +kernel
theorem dX12_submit_320 : decode cX12_submit 320 = .ok (.getfield 80, 3) := by decide +kernel
theorem dX12_submit_323 : decode cX12_submit 323 = .ok (.iload 8, 2) := by decide +kernel
theorem dX12_submit_325 : decode cX12_submit 325 = .ok (.iload_n 2, 1) := by decide +kernel
theorem dX12_submit_326 : decode cX12_submit 326 = .ok (.iastore, 1) := by decide +kernel
theorem dX12_submit_327 : decode cX12_submit 327 = .ok (.aload_n 0, 1) := by decide +kernel
theorem dX12_submit_328 : decode cX12_submit 328 = .ok (.getfield 83, 3) := by decide +kernel
theorem dX12_submit_331 : decode cX12_submit 331 = .ok (.iload 8, 2) := by decide +kernel
theorem dX12_submit_333 : decode cX12_submit 333 = .ok (.iconst 0, 1) := by decide +kernel
theorem dX12_submit_334 : decode cX12_submit 334 = .ok (.iastore, 1) := by decide +kernel
theorem dX12_submit_335 : decode cX12_submit 335 = .ok (.aload_n 0, 1) := by decide +kernel
theorem dX12_submit_336 : decode cX12_submit 336 = .ok (.getfield 95, 3) := by decide +kernel
theorem dX12_submit_339 : decode cX12_submit 339 = .ok (.iload 8, 2) := by decide +kernel
theorem dX12_submit_341 : decode cX12_submit 341 = .ok (.iconst 0, 1) := by decide +kernel
theorem dX12_submit_342 : decode cX12_submit 342 = .ok (.iastore, 1) := by decide +kernel
theorem dX12_submit_343 : decode cX12_submit 343 = .ok (.iconst 0, 1) := by decide +kernel
theorem dX12_submit_344 : decode cX12_submit 344 = .ok (.istore 9, 2) := by decide +kernel
theorem dX12_submit_346 : decode cX12_submit 346 = .ok (.iload 9, 2) := by decide +kernel
theorem dX12_submit_348 : decode cX12_submit 348 = .ok (.sipush 128, 3) := by decide +kernel
theorem dX12_submit_351 : decode cX12_submit 351 = .ok (.if_icmp .ge 40, 3) := by decide +kernel
theorem dX12_submit_354 : decode cX12_submit 354 = .ok (.aload_n 0, 1) := by decide +kernel
theorem dX12_submit_355 : decode cX12_submit 355 = .ok (.getfield 98, 3) := by decide +kernel
theorem dX12_submit_358 : decode cX12_submit 358 = .ok (.sipush 128, 3) := by decide +kernel
theorem dX12_submit_361 : decode cX12_submit 361 = .ok (.iload 8, 2) := by decide +kernel
theorem dX12_submit_363 : decode cX12_submit 363 = .ok (.imul, 1) := by decide +kernel
theorem dX12_submit_364 : decode cX12_submit 364 = .ok (.iload 9, 2) := by decide +kernel
theorem dX12_submit_366 : decode cX12_submit 366 = .ok (.iadd, 1) := by decide +kernel
theorem dX12_submit_367 : decode cX12_submit 367 = .ok (.iload 9, 2) := by decide +kernel
theorem dX12_submit_369 : decode cX12_submit 369 = .ok (.iload_n 1, 1) := by decide +kernel
theorem dX12_submit_370 : decode cX12_submit 370 = .ok (.if_icmp .ge 13, 3) := by decide +kernel
theorem dX12_submit_373 : decode cX12_submit 373 = .ok (.aload_n 0, 1) := by decide +kernel
theorem dX12_submit_374 : decode cX12_submit 374 = .ok (.getfield 7, 3) := by decide +kernel
theorem dX12_submit_377 : decode cX12_submit 377 = .ok (.iload 9, 2) := by decide +kernel
theorem dX12_submit_379 : decode cX12_submit 379 = .ok (.iaload, 1) := by decide +kernel
theorem dX12_submit_380 : decode cX12_submit 380 = .ok (.goto 4, 3) := by decide +kernel
theorem dX12_submit_383 : decode cX12_submit 383 = .ok (.iconst 0, 1) := by decide +kernel
theorem dX12_submit_384 : decode cX12_submit 384 = .ok (.iastore, 1) := by decide +kernel
theorem dX12_submit_385 : decode cX12_submit 385 = .ok (.iinc 9 1, 3) := by decide +kernel
theorem dX12_submit_388 : decode cX12_submit 388 = .ok (.goto (-42), 3) := by decide +kernel
theorem dX12_submit_391 : decode cX12_submit 391 = .ok (.iconst 0, 1) := by decide +kernel
theorem dX12_submit_392 : decode cX12_submit 392 = .ok (.istore 9, 2) := by decide +kernel
theorem dX12_submit_394 : decode cX12_submit 394 = .ok (.iload 9, 2) := by decide +kernel
theorem dX12_submit_396 : decode cX12_submit 396 = .ok (.iload_n 2, 1) := by decide +kernel
theorem dX12_submit_397 : decode cX12_submit 397 = .ok (.if_icmp .ge 31, 3) := by decide +kernel
theorem dX12_submit_400 : decode cX12_submit 400 = .ok (.aload_n 0, 1) := by decide +kernel
theorem dX12_submit_401 : decode cX12_submit 401 = .ok (.getfield 77, 3) := by decide +kernel
theorem dX12_submit_404 : decode cX12_submit 404 = .ok (.bipush 40, 2) := by decide +kernel
theorem dX12_submit_406 : decode cX12_submit 406 = .ok (.iload 8, 2) := by decide +kernel
theorem dX12_submit_408 : decode cX12_submit 408 = .ok (.imul, 1) := by decide +kernel
theorem dX12_submit_409 : decode cX12_submit 409 = .ok (.iload 9, 2) := by decide +kernel
theorem dX12_submit_411 : decode cX12_submit 411 = .ok (.iadd, 1) := by decide +kernel
theorem dX12_submit_412 : decode cX12_submit 412 = .ok (.aload_n 0, 1) := by decide +kernel
theorem dX12_submit_413 : decode cX12_submit 413 = .ok (.getfield 7, 3) := by decide +kernel
theorem dX12_submit_416 : decode cX12_submit 416 = .ok (.iload_n 1, 1) := by decide +kernel
theorem dX12_submit_417 : decode cX12_submit 417 = .ok (.iload 9, 2) := by decide +kernel
theorem dX12_submit_419 : decode cX12_submit 419 = .ok (.iadd, 1) := by decide +kernel
theorem dX12_submit_420 : decode cX12_submit 420 = .ok (.iaload, 1) := by decide +kernel
theorem dX12_submit_421 : decode cX12_submit 421 = .ok (.iastore, 1) := by decide +kernel
theorem dX12_submit_422 : decode cX12_submit 422 = .ok (.iinc 9 1, 3) := by decide +kernel
theorem dX12_submit_425 : decode cX12_submit 425 = .ok (.goto (-31), 3) := by decide +kernel
theorem dX12_submit_428 : decode cX12_submit 428 = .ok (.iload 8, 2) := by decide +kernel
theorem dX12_submit_430 : decode cX12_submit 430 = .ok (.ireturn, 1) := by decide +kernel
theorem dX12_tick_0 : decode cX12_tick 0 = .ok (.iload_n 1, 1) := by decide +kernel
theorem dX12_tick_1 : decode cX12_tick 1 = .ok (.ifCond .lt 10, 3) := by decide +kernel
theorem dX12_tick_4 : decode cX12_tick 4 = .ok (.iload_n 1, 1) := by decide +kernel
theorem dX12_tick_5 : decode cX12_tick 5 = .ok (.sipush 200, 3) := by decide +kernel
theorem dX12_tick_8 : decode cX12_tick 8 = .ok (.if_icmp .le 5, 3) := by decide +kernel
theorem dX12_tick_11 : decode cX12_tick 11 = .ok (.iconst (-1), 1) := by decide +kernel
theorem dX12_tick_12 : decode cX12_tick 12 = .ok (.ireturn, 1) := by decide +kernel
theorem dX12_tick_13 : decode cX12_tick 13 = .ok (.iconst 0, 1) := by decide +kernel
theorem dX12_tick_14 : decode cX12_tick 14 = .ok (.istore_n 2, 1) := by decide +kernel
theorem dX12_tick_15 : decode cX12_tick 15 = .ok (.iload_n 2, 1) := by decide +kernel
theorem dX12_tick_16 : decode cX12_tick 16 = .ok (.iload_n 1, 1) := by decide +kernel
theorem dX12_tick_17 : decode cX12_tick 17 = .ok (.if_icmp .ge 13, 3) := by decide +kernel
theorem dX12_tick_20 : decode cX12_tick 20 = .ok (.aload_n 0, 1) := by decide +kernel
theorem dX12_tick_21 : decode cX12_tick 21 = .ok (.invokevirtual 346, 3) := by decide +kernel
theorem dX12_tick_24 : decode cX12_tick 24 = .ok (.iinc 2 1, 3) := by decide +kernel
theorem dX12_tick_27 : decode cX12_tick 27 = .ok (.goto (-12), 3) := by decide +kernel
theorem dX12_tick_30 : decode cX12_tick 30 = .ok (.aload_n 0, 1) := by decide +kernel
theorem dX12_tick_31 : decode cX12_tick 31 = .ok (.getfield 167, 3) := by decide +kernel
theorem dX12_tick_34 : decode cX12_tick 34 = .ok (.ireturn, 1) := by decide +kernel
theorem dX12_done_0 : decode cX12_done 0 = .ok (.iload_n 1, 1) := by decide +kernel
theorem dX12_done_1 : decode cX12_done 1 = .ok (.ifCond .ne 16, 3) := by decide +kernel
theorem dX12_done_4 : decode cX12_done 4 = .ok (.aload_n 0, 1) := by decide +kernel
theorem dX12_done_5 : decode cX12_done 5 = .ok (.getfield 264, 3) := by decide +kernel
theorem dX12_done_8 : decode cX12_done 8 = .ok (.ifCond .le 9, 3) := by decide +kernel
theorem dX12_done_11 : decode cX12_done 11 = .ok (.aload_n 0, 1) := by decide +kernel
theorem dX12_done_12 : decode cX12_done 12 = .ok (.invokevirtual 349, 3) := by decide +kernel
theorem dX12_done_15 : decode cX12_done 15 = .ok (.iconst 1, 1) := by decide +kernel
theorem dX12_done_16 : decode cX12_done 16 = .ok (.ireturn, 1) := by decide +kernel
theorem dX12_done_17 : decode cX12_done 17 = .ok (.iload_n 1, 1) := by decide +kernel
theorem dX12_done_18 : decode cX12_done 18 = .ok (.iconst 1, 1) := by decide +kernel
theorem dX12_done_19 : decode cX12_done 19 = .ok (.if_icmp .ne 22, 3) := by decide +kernel
theorem dX12_done_22 : decode cX12_done 22 = .ok (.aload_n 0, 1) := by decide +kernel
theorem dX12_done_23 : decode cX12_done 23 = .ok (.getfield 306, 3) := by decide +kernel
theorem dX12_done_26 : decode cX12_done 26 = .ok (.ifCond .eq 15, 3) := by decide +kernel
theorem dX12_done_29 : decode cX12_done 29 = .ok (.aload_n 0, 1) := by decide +kernel
theorem dX12_done_30 : decode cX12_done 30 = .ok (.iconst 0, 1) := by decide +kernel
theorem dX12_done_31 : decode cX12_done 31 = .ok (.putfield 306, 3) := by decide +kernel
theorem dX12_done_34 : decode cX12_done 34 = .ok (.aload_n 0, 1) := by decide +kernel
theorem dX12_done_35 : decode cX12_done 35 = .ok (.iconst 3, 1) := by decide +kernel
theorem dX12_done_36 : decode cX12_done 36 = .ok (.invokevirtual 198, 3) := by decide +kernel
theorem dX12_done_39 : decode cX12_done 39 = .ok (.iconst 1, 1) := by decide +kernel
theorem dX12_done_40 : decode cX12_done 40 = .ok (.ireturn, 1) := by decide +kernel
theorem dX12_done_41 : decode cX12_done 41 = .ok (.iload_n 1, 1) := by decide +kernel
theorem dX12_done_42 : decode cX12_done 42 = .ok (.iconst 2, 1) := by decide +kernel
theorem dX12_done_43 : decode cX12_done 43 = .ok (.if_icmp .ne 22, 3) := by decide +kernel
theorem dX12_done_46 : decode cX12_done 46 = .ok (.aload_n 0, 1) := by decide +kernel
theorem dX12_done_47 : decode cX12_done 47 = .ok (.getfield 313, 3) := by decide +kernel
theorem dX12_done_50 : decode cX12_done 50 = .ok (.ifCond .eq 15, 3) := by decide +kernel
theorem dX12_done_53 : decode cX12_done 53 = .ok (.aload_n 0, 1) := by decide +kernel
theorem dX12_done_54 : decode cX12_done 54 = .ok (.iconst 0, 1) := by decide +kernel
theorem dX12_done_55 : decode cX12_done 55 = .ok (.putfield 313, 3) := by decide +kernel
theorem dX12_done_58 : decode cX12_done 58 = .ok (.aload_n 0, 1) := by decide +kernel
theorem dX12_done_59 : decode cX12_done 59 = .ok (.iconst 5, 1) := by decide +kernel
theorem dX12_done_60 : decode cX12_done 60 = .ok (.invokevirtual 198, 3) := by decide +kernel
theorem dX12_done_63 : decode cX12_done 63 = .ok (.iconst 1, 1) := by decide +kernel
theorem dX12_done_64 : decode cX12_done 64 = .ok (.ireturn, 1) := by decide +kernel
theorem dX12_done_65 : decode cX12_done 65 = .ok (.iconst 0, 1) := by decide +kernel
theorem dX12_done_66 : decode cX12_done 66 = .ok (.ireturn, 1) := by decide +kernel
theorem dX12_type_0 : decode cX12_type 0 = .ok (.iload_n 1, 1) := by decide +kernel
theorem dX12_type_1 : decode cX12_type 1 = .ok (.bipush 10, 2) := by decide +kernel
theorem dX12_type_3 : decode cX12_type 3 = .ok (.if_icmp .ne 86, 3) := by decide +kernel
theorem dX12_type_6 : decode cX12_type 6 = .ok (.aload_n 0, 1) := by decide +kernel
theorem dX12_type_7 : decode cX12_type 7 = .ok (.getfield 322, 3) := by decide +kernel
theorem dX12_type_10 : decode cX12_type 10 = .ok (.bipush 8, 2) := by decide +kernel
theorem dX12_type_12 : decode cX12_type 12 = .ok (.if_icmp .ne 5, 3) := by decide +kernel
theorem dX12_type_15 : decode cX12_type 15 = .ok (.iconst 0, 1) := by decide +kernel
theorem dX12_type_16 : decode cX12_type 16 = .ok (.ireturn, 1) := by decide +kernel
theorem dX12_type_17 : decode cX12_type 17 = .ok (.iconst 0, 1) := by decide +kernel
theorem dX12_type_18 : decode cX12_type 18 = .ok (.istore_n 2, 1) := by decide +kernel
theorem dX12_type_19 : decode cX12_type 19 = .ok (.iload_n 2, 1) := by decide +kernel
theorem dX12_type_20 : decode cX12_type 20 = .ok (.aload_n 0, 1) := by decide +kernel
theorem dX12_type_21 : decode cX12_type 21 = .ok (.getfield 352, 3) := by decide +kernel
theorem dX12_type_24 : decode cX12_type 24 = .ok (.if_icmp .ge 29, 3) := by decide +kernel
theorem dX12_type_27 : decode cX12_type 27 = .ok (.aload_n 0, 1) := by decide +kernel
theorem dX12_type_28 : decode cX12_type 28 = .ok (.getfield 134, 3) := by decide +kernel
theorem dX12_type_31 : decode cX12_type 31 = .ok (.bipush 20, 2) := by decide +kernel
theorem dX12_type_33 : decode cX12_type 33 = .ok (.aload_n 0, 1) := by decide +kernel
theorem dX12_type_34 : decode cX12_type 34 = .ok (.getfield 322, 3) := by decide +kernel
theorem dX12_type_37 : decode cX12_type 37 = .ok (.imul, 1) := by decide +kernel
theorem dX12_type_38 : decode cX12_type 38 = .ok (.iload_n 2, 1) := by decide +kernel
theorem dX12_type_39 : decode cX12_type 39 = .ok (.iadd, 1) := by decide +kernel
theorem dX12_type_40 : decode cX12_type 40 = .ok (.aload_n 0, 1) := by decide +kernel
theorem dX12_type_41 : decode cX12_type 41 = .ok (.getfield 131, 3) := by decide +kernel
theorem dX12_type_44 : decode cX12_type 44 = .ok (.iload_n 2, 1) := by decide +kernel
theorem dX12_type_45 : decode cX12_type 45 = .ok (.iaload, 1) := by decide +kernel
theorem dX12_type_46 : decode cX12_type 46 = .ok (.iastore, 1) := by decide +kernel
theorem dX12_type_47 : decode cX12_type 47 = .ok (.iinc 2 1, 3) := by decide +kernel
theorem dX12_type_50 : decode cX12_type 50 = .ok (.goto (-31), 3) := by decide +kernel
theorem dX12_type_53 : decode cX12_type 53 = .ok (.aload_n 0, 1) := by decide +kernel
theorem dX12_type_54 : decode cX12_type 54 = .ok (.getfield 137, 3) := by decide +kernel
theorem dX12_type_57 : decode cX12_type 57 = .ok (.aload_n 0, 1) := by decide +kernel
theorem dX12_type_58 : decode cX12_type 58 = .ok (.getfield 322, 3) := by decide +kernel
theorem dX12_type_61 : decode cX12_type 61 = .ok (.aload_n 0, 1) := by decide +kernel
theorem dX12_type_62 : decode cX12_type 62 = .ok (.getfield 352, 3) := by decide +kernel
theorem dX12_type_65 : decode cX12_type 65 = .ok (.iastore, 1) := by decide +kernel
theorem dX12_type_66 : decode cX12_type 66 = .ok (.aload_n 0, 1) := by decide +kernel
theorem dX12_type_67 : decode cX12_type 67 = .ok (.dup, 1) := by decide +kernel
theorem dX12_type_68 : decode cX12_type 68 = .ok (.getfield 322, 3) := by decide +kernel
theorem dX12_type_71 : decode cX12_type 71 = .ok (.iconst 1, 1) := by decide +kernel
theorem dX12_type_72 : decode cX12_type 72 = .ok (.iadd, 1) := by decide +kernel
theorem dX12_type_73 : decode cX12_type 73 = .ok (.putfield 322, 3) := by decide +kernel
theorem dX12_type_76 : decode cX12_type 76 = .ok (.aload_n 0, 1) := by decide +kernel
theorem dX12_type_77 : decode cX12_type 77 = .ok (.iconst 0, 1) := by decide +kernel
theorem dX12_type_78 : decode cX12_type 78 = .ok (.putfield 352, 3) := by decide +kernel
theorem dX12_type_81 : decode cX12_type 81 = .ok (.aload_n 0, 1) := by decide +kernel
theorem dX12_type_82 : decode cX12_type 82 = .ok (.bipush 6, 2) := by decide +kernel
theorem dX12_type_84 : decode cX12_type 84 = .ok (.invokevirtual 198, 3) := by decide +kernel
theorem dX12_type_87 : decode cX12_type 87 = .ok (.iconst 1, 1) := by decide +kernel
theorem dX12_type_88 : decode cX12_type 88 = .ok (.ireturn, 1) := by decide +kernel
theorem dX12_type_89 : decode cX12_type 89 = .ok (.iload_n 1, 1) := by decide +kernel
theorem dX12_type_90 : decode cX12_type 90 = .ok (.bipush 32, 2) := by decide +kernel
theorem dX12_type_92 : decode cX12_type 92 = .ok (.if_icmp .lt 18, 3) := by decide +kernel
theorem dX12_type_95 : decode cX12_type 95 = .ok (.iload_n 1, 1) := by decide +kernel
theorem dX12_type_96 : decode cX12_type 96 = .ok (.bipush 126, 2) := by decide +kernel
theorem dX12_type_98 : decode cX12_type 98 = .ok (.if_icmp .gt 12, 3) := by decide +kernel
theorem dX12_type_101 : decode cX12_type 101 = .ok (.aload_n 0, 1) := by decide +kernel
theorem dX12_type_102 : decode cX12_type 102 = .ok (.getfield 352, 3) := by decide +kernel
theorem dX12_type_105 : decode cX12_type 105 = .ok (.bipush 20, 2) := by decide +kernel
theorem dX12_type_107 : decode cX12_type 107 = .ok (.if_icmp .ne 5, 3) := by decide +kernel
theorem dX12_type_110 : decode cX12_type 110 = .ok (.iconst 0, 1) := by decide +kernel
theorem dX12_type_111 : decode cX12_type 111 = .ok (.ireturn, 1) := by decide +kernel
theorem dX12_type_112 : decode cX12_type 112 = .ok (.aload_n 0, 1) := by decide +kernel
theorem dX12_type_113 : decode cX12_type 113 = .ok (.getfield 131, 3) := by decide +kernel
theorem dX12_type_116 : decode cX12_type 116 = .ok (.aload_n 0, 1) := by decide +kernel
theorem dX12_type_117 : decode cX12_type 117 = .ok (.getfield 352, 3) := by decide +kernel
theorem dX12_type_120 : decode cX12_type 120 = .ok (.iload_n 1, 1) := by decide +kernel
theorem dX12_type_121 : decode cX12_type 121 = .ok (.iastore, 1) := by decide +kernel
theorem dX12_type_122 : decode cX12_type 122 = .ok (.aload_n 0, 1) := by decide +kernel
theorem dX12_type_123 : decode cX12_type 123 = .ok (.dup, 1) := by decide +kernel
theorem dX12_type_124 : decode cX12_type 124 = .ok (.getfield 352, 3) := by decide +kernel
theorem dX12_type_127 : decode cX12_type 127 = .ok (.iconst 1, 1) := by decide +kernel
theorem dX12_type_128 : decode cX12_type 128 = .ok (.iadd, 1) := by decide +kernel
theorem dX12_type_129 : decode cX12_type 129 = .ok (.putfield 352, 3) := by decide +kernel
theorem dX12_type_132 : decode cX12_type 132 = .ok (.iconst 1, 1) := by decide +kernel
theorem dX12_type_133 : decode cX12_type 133 = .ok (.ireturn, 1) := by decide +kernel
theorem dX12_process_0 : decode cX12_process 0 = .ok (.iload_n 1, 1) := by decide +kernel
theorem dX12_process_1 : decode cX12_process 1 = .ok (.ifCond .lt 18, 3) := by decide +kernel
theorem dX12_process_4 : decode cX12_process 4 = .ok (.iload_n 1, 1) := by decide +kernel
theorem dX12_process_5 : decode cX12_process 5 = .ok (.bipush 10, 2) := by decide +kernel
theorem dX12_process_7 : decode cX12_process 7 = .ok (.if_icmp .ge 12, 3) := by decide +kernel
theorem dX12_process_10 : decode cX12_process 10 = .ok (.iload_n 2, 1) := by decide +kernel
theorem dX12_process_11 : decode cX12_process 11 = .ok (.ifCond .lt 8, 3) := by decide +kernel
theorem dX12_process_14 : decode cX12_process 14 = .ok (.iload_n 2, 1) := by decide +kernel
theorem dX12_process_15 : decode cX12_process 15 = .ok (.iconst 1, 1) := by decide +kernel
theorem dX12_process_16 : decode cX12_process 16 = .ok (.if_icmp .le 5, 3) := by decide +kernel
theorem dX12_process_19 : decode cX12_process 19 = .ok (.iconst (-1), 1) := by decide +kernel
theorem dX12_process_20 : decode cX12_process 20 = .ok (.ireturn, 1) := by decide +kernel
theorem dX12_process_21 : decode cX12_process 21 = .ok (.iload_n 2, 1) := by decide +kernel
theorem dX12_process_22 : decode cX12_process 22 = .ok (.ifCond .ne 39, 3) := by decide +kernel
theorem dX12_process_25 : decode cX12_process 25 = .ok (.iconst (-1), 1) := by decide +kernel
theorem dX12_process_26 : decode cX12_process 26 = .ok (.istore_n 3, 1) := by decide +kernel
theorem dX12_process_27 : decode cX12_process 27 = .ok (.iconst 0, 1) := by decide +kernel
theorem dX12_process_28 : decode cX12_process 28 = .ok (.istore 4, 2) := by decide +kernel
theorem dX12_process_30 : decode cX12_process 30 = .ok (.iload 4, 2) := by decide +kernel
theorem dX12_process_32 : decode cX12_process 32 = .ok (.aload_n 0, 1) := by decide +kernel
theorem dX12_process_33 : decode cX12_process 33 = .ok (.getfield 160, 3) := by decide +kernel
theorem dX12_process_36 : decode cX12_process 36 = .ok (.if_icmp .ge 23, 3) := by decide +kernel
theorem dX12_process_39 : decode cX12_process 39 = .ok (.aload_n 0, 1) := by decide +kernel
theorem dX12_process_40 : decode cX12_process 40 = .ok (.getfield 13, 3) := by decide +kernel
theorem dX12_process_43 : decode cX12_process 43 = .ok (.iload 4, 2) := by decide +kernel
theorem dX12_process_45 : decode cX12_process 45 = .ok (.iaload, 1) := by decide +kernel
theorem dX12_process_46 : decode cX12_process 46 = .ok (.iload_n 1, 1) := by decide +kernel
theorem dX12_process_47 : decode cX12_process 47 = .ok (.if_icmp .ne 6, 3) := by decide +kernel
theorem dX12_process_50 : decode cX12_process 50 = .ok (.iload 4, 2) := by decide +kernel
theorem dX12_process_52 : decode cX12_process 52 = .ok (.istore_n 3, 1) := by decide +kernel
theorem dX12_process_53 : decode cX12_process 53 = .ok (.iinc 4 1, 3) := by decide +kernel
theorem dX12_process_56 : decode cX12_process 56 = .ok (.goto (-26), 3) := by decide +kernel
theorem dX12_process_59 : decode cX12_process 59 = .ok (.iload_n 3, 1) := by decide +kernel
theorem dX12_process_60 : decode cX12_process 60 = .ok (.ireturn, 1) := by decide +kernel
theorem dX12_process_61 : decode cX12_process 61 = .ok (.iload_n 1, 1) := by decide +kernel
theorem dX12_process_62 : decode cX12_process 62 = .ok (.bipush 6, 2) := by decide +kernel
theorem dX12_process_64 : decode cX12_process 64 = .ok (.if_icmp .ge 10, 3) := by decide +kernel
theorem dX12_process_67 : decode cX12_process 67 = .ok (.aload_n 0, 1) := by decide +kernel
theorem dX12_process_68 : decode cX12_process 68 = .ok (.getfield 20, 3) := by decide +kernel
theorem dX12_process_71 : decode cX12_process 71 = .ok (.iload_n 1, 1) := by decide +kernel
theorem dX12_process_72 : decode cX12_process 72 = .ok (.iaload, 1) := by decide +kernel
theorem dX12_process_73 : decode cX12_process 73 = .ok (.ireturn, 1) := by decide +kernel
theorem dX12_process_74 : decode cX12_process 74 = .ok (.aload_n 0, 1) := by decide +kernel
theorem dX12_process_75 : decode cX12_process 75 = .ok (.getfield 23, 3) := by decide +kernel
theorem dX12_process_78 : decode cX12_process 78 = .ok (.iload_n 1, 1) := by decide +kernel
theorem dX12_process_79 : decode cX12_process 79 = .ok (.iaload, 1) := by decide +kernel
theorem dX12_process_80 : decode cX12_process 80 = .ok (.istore_n 3, 1) := by decide +kernel
theorem dX12_process_81 : decode cX12_process 81 = .ok (.iload_n 3, 1) := by decide +kernel
theorem dX12_process_82 : decode cX12_process 82 = .ok (.iconst (-1), 1) := by decide +kernel
theorem dX12_process_83 : decode cX12_process 83 = .ok (.if_icmp .ne 7, 3) := by decide +kernel
theorem dX12_process_86 : decode cX12_process 86 = .ok (.iconst 0, 1) := by decide +kernel
theorem dX12_process_87 : decode cX12_process 87 = .ok (.goto 25, 3) := by decide +kernel
theorem dX12_process_90 : decode cX12_process 90 = .ok (.iload_n 3, 1) := by decide +kernel
theorem dX12_process_91 : decode cX12_process 91 = .ok (.iconst 1, 1) := by decide +kernel
theorem dX12_process_92 : decode cX12_process 92 = .ok (.if_icmp .eq 13, 3) := by decide +kernel
theorem dX12_process_95 : decode cX12_process 95 = .ok (.iload_n 3, 1) := by decide +kernel
theorem dX12_process_96 : decode cX12_process 96 = .ok (.iconst 3, 1) := by decide +kernel
theorem dX12_process_97 : decode cX12_process 97 = .ok (.if_icmp .eq 8, 3) := by decide +kernel
theorem dX12_process_100 : decode cX12_process 100 = .ok (.iload_n 3, 1) := by decide +kernel
theorem dX12_process_101 : decode cX12_process 101 = .ok (.iconst 5, 1) := by decide +kernel
theorem dX12_process_102 : decode cX12_process 102 = .ok (.if_icmp .ne 8, 3) := by decide +kernel
theorem dX12_process_105 : decode cX12_process 105 = .ok (.bipush 8, 2) := by decide +kernel
theorem dX12_process_107 : decode cX12_process 107 = .ok (.goto 5, 3) := by decide +kernel
theorem dX12_process_110 : decode cX12_process 110 = .ok (.bipush 7, 2) := by decide +kernel
theorem dX12_process_112 : decode cX12_process 112 = .ok (.ireturn, 1) := by decide +kernel
theorem dX12_job_0 : decode cX12_job 0 = .ok (.iload_n 1, 1) := by decide +kernel
theorem dX12_job_1 : decode cX12_job 1 = .ok (.ifCond .lt 9, 3) := by decide +kernel
theorem dX12_job_4 : decode cX12_job 4 = .ok (.iload_n 1, 1) := by decide +kernel
theorem dX12_job_5 : decode cX12_job 5 = .ok (.bipush 6, 2) := by decide +kernel
theorem dX12_job_7 : decode cX12_job 7 = .ok (.if_icmp .lt 5, 3) := by decide +kernel
theorem dX12_job_10 : decode cX12_job 10 = .ok (.iconst (-1), 1) := by decide +kernel
theorem dX12_job_11 : decode cX12_job 11 = .ok (.ireturn, 1) := by decide +kernel
theorem dX12_job_12 : decode cX12_job 12 = .ok (.iload_n 2, 1) := by decide +kernel
theorem dX12_job_13 : decode cX12_job 13 = .ok (.tableswitch 159 0 12 #[67, 74, 81, 88, 95, 102, 109, 109, 109, 123, 130, 137, 144], 67) := by decide +kernel
theorem dX12_job_80 : decode cX12_job 80 = .ok (.aload_n 0, 1) := by decide +kernel
theorem dX12_job_81 : decode cX12_job 81 = .ok (.getfield 32, 3) := by decide +kernel
theorem dX12_job_84 : decode cX12_job 84 = .ok (.iload_n 1, 1) := by decide +kernel
theorem dX12_job_85 : decode cX12_job 85 = .ok (.iaload, 1) := by decide +kernel
theorem dX12_job_86 : decode cX12_job 86 = .ok (.ireturn, 1) := by decide +kernel
theorem dX12_job_87 : decode cX12_job 87 = .ok (.aload_n 0, 1) := by decide +kernel
theorem dX12_job_88 : decode cX12_job 88 = .ok (.getfield 35, 3) := by decide +kernel
theorem dX12_job_91 : decode cX12_job 91 = .ok (.iload_n 1, 1) := by decide +kernel
theorem dX12_job_92 : decode cX12_job 92 = .ok (.iaload, 1) := by decide +kernel
theorem dX12_job_93 : decode cX12_job 93 = .ok (.ireturn, 1) := by decide +kernel
theorem dX12_job_94 : decode cX12_job 94 = .ok (.aload_n 0, 1) := by decide +kernel
theorem dX12_job_95 : decode cX12_job 95 = .ok (.getfield 41, 3) := by decide +kernel
theorem dX12_job_98 : decode cX12_job 98 = .ok (.iload_n 1, 1) := by decide +kernel
theorem dX12_job_99 : decode cX12_job 99 = .ok (.iaload, 1) := by decide +kernel
theorem dX12_job_100 : decode cX12_job 100 = .ok (.ireturn, 1) := by decide +kernel
theorem dX12_job_101 : decode cX12_job 101 = .ok (.aload_n 0, 1) := by decide +kernel
theorem dX12_job_102 : decode cX12_job 102 = .ok (.getfield 44, 3) := by decide +kernel
theorem dX12_job_105 : decode cX12_job 105 = .ok (.iload_n 1, 1) := by decide +kernel
theorem dX12_job_106 : decode cX12_job 106 = .ok (.iaload, 1) := by decide +kernel
theorem dX12_job_107 : decode cX12_job 107 = .ok (.ireturn, 1) := by decide +kernel
theorem dX12_job_108 : decode cX12_job 108 = .ok (.aload_n 0, 1) := by decide +kernel
theorem dX12_job_109 : decode cX12_job 109 = .ok (.getfield 47, 3) := by decide +kernel
theorem dX12_job_112 : decode cX12_job 112 = .ok (.iload_n 1, 1) := by decide +kernel
theorem dX12_job_113 : decode cX12_job 113 = .ok (.iaload, 1) := by decide +kernel
theorem dX12_job_114 : decode cX12_job 114 = .ok (.ireturn, 1) := by decide +kernel
theorem dX12_job_115 : decode cX12_job 115 = .ok (.aload_n 0, 1) := by decide +kernel
theorem dX12_job_116 : decode cX12_job 116 = .ok (.getfield 50, 3) := by decide +kernel
theorem dX12_job_119 : decode cX12_job 119 = .ok (.iload_n 1, 1) := by decide +kernel
theorem dX12_job_120 : decode cX12_job 120 = .ok (.iaload, 1) := by decide +kernel
theorem dX12_job_121 : decode cX12_job 121 = .ok (.ireturn, 1) := by decide +kernel
theorem dX12_job_122 : decode cX12_job 122 = .ok (.aload_n 0, 1) := by decide +kernel
theorem dX12_job_123 : decode cX12_job 123 = .ok (.getfield 68, 3) := by decide +kernel
theorem dX12_job_126 : decode cX12_job 126 = .ok (.iconst 3, 1) := by decide +kernel
theorem dX12_job_127 : decode cX12_job 127 = .ok (.iload_n 1, 1) := by decide +kernel
theorem dX12_job_128 : decode cX12_job 128 = .ok (.imul, 1) := by decide +kernel
theorem dX12_job_129 : decode cX12_job 129 = .ok (.iload_n 2, 1) := by decide +kernel
theorem dX12_job_130 : decode cX12_job 130 = .ok (.iadd, 1) := by decide +kernel
theorem dX12_job_131 : decode cX12_job 131 = .ok (.bipush 6, 2) := by decide +kernel
theorem dX12_job_133 : decode cX12_job 133 = .ok (.isub, 1) := by decide +kernel
theorem dX12_job_134 : decode cX12_job 134 = .ok (.iaload, 1) := by decide +kernel
theorem dX12_job_135 : decode cX12_job 135 = .ok (.ireturn, 1) := by decide +kernel
theorem dX12_job_136 : decode cX12_job 136 = .ok (.aload_n 0, 1) := by decide +kernel
theorem dX12_job_137 : decode cX12_job 137 = .ok (.getfield 83, 3) := by decide +kernel
theorem dX12_job_140 : decode cX12_job 140 = .ok (.iload_n 1, 1) := by decide +kernel
theorem dX12_job_141 : decode cX12_job 141 = .ok (.iaload, 1) := by decide +kernel
theorem dX12_job_142 : decode cX12_job 142 = .ok (.ireturn, 1) := by decide +kernel
theorem dX12_job_143 : decode cX12_job 143 = .ok (.aload_n 0, 1) := by decide +kernel
theorem dX12_job_144 : decode cX12_job 144 = .ok (.getfield 95, 3) := by decide +kernel
theorem dX12_job_147 : decode cX12_job 147 = .ok (.iload_n 1, 1) := by decide +kernel
theorem dX12_job_148 : decode cX12_job 148 = .ok (.iaload, 1) := by decide +kernel
theorem dX12_job_149 : decode cX12_job 149 = .ok (.ireturn, 1) := by decide +kernel
theorem dX12_job_150 : decode cX12_job 150 = .ok (.aload_n 0, 1) := by decide +kernel
theorem dX12_job_151 : decode cX12_job 151 = .ok (.getfield 89, 3) := by decide +kernel
theorem dX12_job_154 : decode cX12_job 154 = .ok (.iload_n 1, 1) := by decide +kernel
theorem dX12_job_155 : decode cX12_job 155 = .ok (.iaload, 1) := by decide +kernel
theorem dX12_job_156 : decode cX12_job 156 = .ok (.ireturn, 1) := by decide +kernel
theorem dX12_job_157 : decode cX12_job 157 = .ok (.aload_n 0, 1) := by decide +kernel
theorem dX12_job_158 : decode cX12_job 158 = .ok (.getfield 62, 3) := by decide +kernel
theorem dX12_job_161 : decode cX12_job 161 = .ok (.iload_n 1, 1) := by decide +kernel
theorem dX12_job_162 : decode cX12_job 162 = .ok (.baload, 1) := by decide +kernel
theorem dX12_job_163 : decode cX12_job 163 = .ok (.ifCond .eq 7, 3) := by decide +kernel
theorem dX12_job_166 : decode cX12_job 166 = .ok (.iconst 1, 1) := by decide +kernel
theorem dX12_job_167 : decode cX12_job 167 = .ok (.goto 4, 3) := by decide +kernel
theorem dX12_job_170 : decode cX12_job 170 = .ok (.iconst 0, 1) := by decide +kernel
theorem dX12_job_171 : decode cX12_job 171 = .ok (.ireturn, 1) := by decide +kernel
theorem dX12_job_172 : decode cX12_job 172 = .ok (.iconst (-1), 1) := by decide +kernel
theorem dX12_job_173 : decode cX12_job 173 = .ok (.ireturn, 1) := by decide +kernel
theorem dX12_paper_0 : decode cX12_paper 0 = .ok (.iload_n 1, 1) := by decide +kernel
theorem dX12_paper_1 : decode cX12_paper 1 = .ok (.ifCond .lt 23, 3) := by decide +kernel
theorem dX12_paper_4 : decode cX12_paper 4 = .ok (.iload_n 1, 1) := by decide +kernel
theorem dX12_paper_5 : decode cX12_paper 5 = .ok (.bipush 6, 2) := by decide +kernel
theorem dX12_paper_7 : decode cX12_paper 7 = .ok (.if_icmp .ge 17, 3) := by decide +kernel
theorem dX12_paper_10 : decode cX12_paper 10 = .ok (.iload_n 2, 1) := by decide +kernel
theorem dX12_paper_11 : decode cX12_paper 11 = .ok (.ifCond .lt 13, 3) := by decide +kernel
theorem dX12_paper_14 : decode cX12_paper 14 = .ok (.iload_n 2, 1) := by decide +kernel
theorem dX12_paper_15 : decode cX12_paper 15 = .ok (.aload_n 0, 1) := by decide +kernel
theorem dX12_paper_16 : decode cX12_paper 16 = .ok (.getfield 95, 3) := by decide +kernel
theorem dX12_paper_19 : decode cX12_paper 19 = .ok (.iload_n 1, 1) := by decide +kernel
theorem dX12_paper_20 : decode cX12_paper 20 = .ok (.iaload, 1) := by decide +kernel
theorem dX12_paper_21 : decode cX12_paper 21 = .ok (.if_icmp .lt 7, 3) := by decide +kernel
theorem dX12_paper_24 : decode cX12_paper 24 = .ok (.iconst 0, 1) := by decide +kernel
theorem dX12_paper_25 : decode cX12_paper 25 = .ok (.goto 15, 3) := by decide +kernel
theorem dX12_paper_28 : decode cX12_paper 28 = .ok (.aload_n 0, 1) := by decide +kernel
theorem dX12_paper_29 : decode cX12_paper 29 = .ok (.getfield 92, 3) := by decide +kernel
theorem dX12_paper_32 : decode cX12_paper 32 = .ok (.sipush 5000, 3) := by decide +kernel
theorem dX12_paper_35 : decode cX12_paper 35 = .ok (.iload_n 1, 1) := by decide +kernel
theorem dX12_paper_36 : decode cX12_paper 36 = .ok (.imul, 1) := by decide +kernel
theorem dX12_paper_37 : decode cX12_paper 37 = .ok (.iload_n 2, 1) := by decide +kernel
theorem dX12_paper_38 : decode cX12_paper 38 = .ok (.iadd, 1) := by decide +kernel
theorem dX12_paper_39 : decode cX12_paper 39 = .ok (.iaload, 1) := by decide +kernel
theorem dX12_paper_40 : decode cX12_paper 40 = .ok (.ireturn, 1) := by decide +kernel
theorem dX12_word_0 : decode cX12_word 0 = .ok (.iload_n 1, 1) := by decide +kernel
theorem dX12_word_1 : decode cX12_word 1 = .ok (.ifCond .lt 46, 3) := by decide +kernel
theorem dX12_word_4 : decode cX12_word 4 = .ok (.iload_n 1, 1) := by decide +kernel
theorem dX12_word_5 : decode cX12_word 5 = .ok (.bipush 6, 2) := by decide +kernel
theorem dX12_word_7 : decode cX12_word 7 = .ok (.if_icmp .ge 40, 3) := by decide +kernel
theorem dX12_word_10 : decode cX12_word 10 = .ok (.aload_n 0, 1) := by decide +kernel
theorem dX12_word_11 : decode cX12_word 11 = .ok (.getfield 32, 3) := by decide +kernel
theorem dX12_word_14 : decode cX12_word 14 = .ok (.iload_n 1, 1) := by decide +kernel
theorem dX12_word_15 : decode cX12_word 15 = .ok (.iaload, 1) := by decide +kernel
theorem dX12_word_16 : decode cX12_word 16 = .ok (.iconst 1, 1) := by decide +kernel
theorem dX12_word_17 : decode cX12_word 17 = .ok (.if_icmp .eq 13, 3) := by decide +kernel
theorem dX12_word_20 : decode cX12_word 20 = .ok (.aload_n 0, 1) := by decide +kernel
theorem dX12_word_21 : decode cX12_word 21 = .ok (.getfield 32, 3) := by decide +kernel
theorem dX12_word_24 : decode cX12_word 24 = .ok (.iload_n 1, 1) := by decide +kernel
theorem dX12_word_25 : decode cX12_word 25 = .ok (.iaload, 1) := by decide +kernel
theorem dX12_word_26 : decode cX12_word 26 = .ok (.iconst 2, 1) := by decide +kernel
theorem dX12_word_27 : decode cX12_word 27 = .ok (.if_icmp .ne 20, 3) := by decide +kernel
theorem dX12_word_30 : decode cX12_word 30 = .ok (.iload_n 2, 1) := by decide +kernel
theorem dX12_word_31 : decode cX12_word 31 = .ok (.ifCond .lt 16, 3) := by decide +kernel
theorem dX12_word_34 : decode cX12_word 34 = .ok (.iload_n 2, 1) := by decide +kernel
theorem dX12_word_35 : decode cX12_word 35 = .ok (.bipush 16, 2) := by decide +kernel
theorem dX12_word_37 : decode cX12_word 37 = .ok (.aload_n 0, 1) := by decide +kernel
theorem dX12_word_38 : decode cX12_word 38 = .ok (.getfield 56, 3) := by decide +kernel
theorem dX12_word_41 : decode cX12_word 41 = .ok (.iload_n 1, 1) := by decide +kernel
theorem dX12_word_42 : decode cX12_word 42 = .ok (.iaload, 1) := by decide +kernel
theorem dX12_word_43 : decode cX12_word 43 = .ok (.imul, 1) := by decide +kernel
theorem dX12_word_44 : decode cX12_word 44 = .ok (.if_icmp .lt 5, 3) := by decide +kernel
theorem dX12_word_47 : decode cX12_word 47 = .ok (.iconst 0, 1) := by decide +kernel
theorem dX12_word_48 : decode cX12_word 48 = .ok (.ireturn, 1) := by decide +kernel
theorem dX12_word_49 : decode cX12_word 49 = .ok (.aload_n 0, 1) := by decide +kernel
theorem dX12_word_50 : decode cX12_word 50 = .ok (.iload_n 1, 1) := by decide +kernel
theorem dX12_word_51 : decode cX12_word 51 = .ok (.iload_n 2, 1) := by decide +kernel
theorem dX12_word_52 : decode cX12_word 52 = .ok (.bipush 16, 2) := by decide +kernel
theorem dX12_word_54 : decode cX12_word 54 = .ok (.idiv, 1) := by decide +kernel
theorem dX12_word_55 : decode cX12_word 55 = .ok (.invokevirtual 207, 3) := by decide +kernel
theorem dX12_word_58 : decode cX12_word 58 = .ok (.istore_n 3, 1) := by decide +kernel
theorem dX12_word_59 : decode cX12_word 59 = .ok (.iload_n 3, 1) := by decide +kernel
theorem dX12_word_60 : decode cX12_word 60 = .ok (.iconst (-1), 1) := by decide +kernel
theorem dX12_word_61 : decode cX12_word 61 = .ok (.if_icmp .ne 27, 3) := by decide +kernel
theorem dX12_word_64 : decode cX12_word 64 = .ok (.aload_n 0, 1) := by decide +kernel
theorem dX12_word_65 : decode cX12_word 65 = .ok (.iload_n 1, 1) := by decide +kernel
theorem dX12_word_66 : decode cX12_word 66 = .ok (.invokevirtual 273, 3) := by decide +kernel
theorem dX12_word_69 : decode cX12_word 69 = .ok (.ifCond .eq 19, 3) := by decide +kernel
theorem dX12_word_72 : decode cX12_word 72 = .ok (.aload_n 0, 1) := by decide +kernel
theorem dX12_word_73 : decode cX12_word 73 = .ok (.getfield 258, 3) := by decide +kernel
theorem dX12_word_76 : decode cX12_word 76 = .ok (.iload_n 2, 1) := by decide +kernel
theorem dX12_word_77 : decode cX12_word 77 = .ok (.bipush 16, 2) := by decide +kernel
theorem dX12_word_79 : decode cX12_word 79 = .ok (.idiv, 1) := by decide +kernel
theorem dX12_word_80 : decode cX12_word 80 = .ok (.if_icmp .ne 8, 3) := by decide +kernel
theorem dX12_word_83 : decode cX12_word 83 = .ok (.aload_n 0, 1) := by decide +kernel
theorem dX12_word_84 : decode cX12_word 84 = .ok (.getfield 252, 3) := by decide +kernel
theorem dX12_word_87 : decode cX12_word 87 = .ok (.istore_n 3, 1) := by decide +kernel
theorem dX12_word_88 : decode cX12_word 88 = .ok (.iload_n 3, 1) := by decide +kernel
theorem dX12_word_89 : decode cX12_word 89 = .ok (.iconst (-1), 1) := by decide +kernel
theorem dX12_word_90 : decode cX12_word 90 = .ok (.if_icmp .ne 18, 3) := by decide +kernel
theorem dX12_word_93 : decode cX12_word 93 = .ok (.aload_n 0, 1) := by decide +kernel
theorem dX12_word_94 : decode cX12_word 94 = .ok (.getfield 98, 3) := by decide +kernel
theorem dX12_word_97 : decode cX12_word 97 = .ok (.sipush 128, 3) := by decide +kernel
theorem dX12_word_100 : decode cX12_word 100 = .ok (.iload_n 1, 1) := by decide +kernel
theorem dX12_word_101 : decode cX12_word 101 = .ok (.imul, 1) := by decide +kernel
theorem dX12_word_102 : decode cX12_word 102 = .ok (.iload_n 2, 1) := by decide +kernel
theorem dX12_word_103 : decode cX12_word 103 = .ok (.iadd, 1) := by decide +kernel
theorem dX12_word_104 : decode cX12_word 104 = .ok (.iaload, 1) := by decide +kernel
theorem dX12_word_105 : decode cX12_word 105 = .ok (.goto 17, 3) := by decide +kernel
theorem dX12_word_108 : decode cX12_word 108 = .ok (.aload_n 0, 1) := by decide +kernel
theorem dX12_word_109 : decode cX12_word 109 = .ok (.getfield 101, 3) := by decide +kernel
theorem dX12_word_112 : decode cX12_word 112 = .ok (.bipush 16, 2) := by decide +kernel
theorem dX12_word_114 : decode cX12_word 114 = .ok (.iload_n 3, 1) := by decide +kernel
theorem dX12_word_115 : decode cX12_word 115 = .ok (.imul, 1) := by decide +kernel
theorem dX12_word_116 : decode cX12_word 116 = .ok (.iload_n 2, 1) := by decide +kernel
theorem dX12_word_117 : decode cX12_word 117 = .ok (.bipush 16, 2) := by decide +kernel
theorem dX12_word_119 : decode cX12_word 119 = .ok (.irem, 1) := by decide +kernel
theorem dX12_word_120 : decode cX12_word 120 = .ok (.iadd, 1) := by decide +kernel
theorem dX12_word_121 : decode cX12_word 121 = .ok (.iaload, 1) := by decide +kernel
theorem dX12_word_122 : decode cX12_word 122 = .ok (.ireturn, 1) := by decide +kernel
theorem dX12_frame_0 : decode cX12_frame 0 = .ok (.iload_n 1, 1) := by decide +kernel
theorem dX12_frame_1 : decode cX12_frame 1 = .ok (.ifCond .lt 20, 3) := by decide +kernel
theorem dX12_frame_4 : decode cX12_frame 4 = .ok (.iload_n 1, 1) := by decide +kernel
theorem dX12_frame_5 : decode cX12_frame 5 = .ok (.aload_n 0, 1) := by decide +kernel
theorem dX12_frame_6 : decode cX12_frame 6 = .ok (.getfield 150, 3) := by decide +kernel
theorem dX12_frame_9 : decode cX12_frame 9 = .ok (.if_icmp .ge 12, 3) := by decide +kernel
theorem dX12_frame_12 : decode cX12_frame 12 = .ok (.iload_n 2, 1) := by decide +kernel
theorem dX12_frame_13 : decode cX12_frame 13 = .ok (.ifCond .lt 8, 3) := by decide +kernel
theorem dX12_frame_16 : decode cX12_frame 16 = .ok (.iload_n 2, 1) := by decide +kernel
theorem dX12_frame_17 : decode cX12_frame 17 = .ok (.iconst 4, 1) := by decide +kernel
theorem dX12_frame_18 : decode cX12_frame 18 = .ok (.if_icmp .le 5, 3) := by decide +kernel
theorem dX12_frame_21 : decode cX12_frame 21 = .ok (.iconst (-1), 1) := by decide +kernel
theorem dX12_frame_22 : decode cX12_frame 22 = .ok (.ireturn, 1) := by decide +kernel
theorem dX12_frame_23 : decode cX12_frame 23 = .ok (.iload_n 2, 1) := by decide +kernel
theorem dX12_frame_24 : decode cX12_frame 24 = .ok (.ifCond .ne 10, 3) := by decide +kernel
theorem dX12_frame_27 : decode cX12_frame 27 = .ok (.aload_n 0, 1) := by decide +kernel
theorem dX12_frame_28 : decode cX12_frame 28 = .ok (.getfield 104, 3) := by decide +kernel
theorem dX12_frame_31 : decode cX12_frame 31 = .ok (.iload_n 1, 1) := by decide +kernel
theorem dX12_frame_32 : decode cX12_frame 32 = .ok (.iaload, 1) := by decide +kernel
theorem dX12_frame_33 : decode cX12_frame 33 = .ok (.ireturn, 1) := by decide +kernel
theorem dX12_frame_34 : decode cX12_frame 34 = .ok (.aload_n 0, 1) := by decide +kernel
theorem dX12_frame_35 : decode cX12_frame 35 = .ok (.getfield 104, 3) := by decide +kernel
theorem dX12_frame_38 : decode cX12_frame 38 = .ok (.iload_n 1, 1) := by decide +kernel
theorem dX12_frame_39 : decode cX12_frame 39 = .ok (.iaload, 1) := by decide +kernel
theorem dX12_frame_40 : decode cX12_frame 40 = .ok (.ifCond .ge 5, 3) := by decide +kernel
theorem dX12_frame_43 : decode cX12_frame 43 = .ok (.iconst (-1), 1) := by decide +kernel
theorem dX12_frame_44 : decode cX12_frame 44 = .ok (.ireturn, 1) := by decide +kernel
theorem dX12_frame_45 : decode cX12_frame 45 = .ok (.iload_n 2, 1) := by decide +kernel
theorem dX12_frame_46 : decode cX12_frame 46 = .ok (.iconst 1, 1) := by decide +kernel
theorem dX12_frame_47 : decode cX12_frame 47 = .ok (.if_icmp .ne 12, 3) := by decide +kernel
theorem dX12_frame_50 : decode cX12_frame 50 = .ok (.aload_n 0, 1) := by decide +kernel
theorem dX12_frame_51 : decode cX12_frame 51 = .ok (.getfield 107, 3) := by decide +kernel
theorem dX12_frame_54 : decode cX12_frame 54 = .ok (.iload_n 1, 1) := by decide +kernel
theorem dX12_frame_55 : decode cX12_frame 55 = .ok (.iaload, 1) := by decide +kernel
theorem dX12_frame_56 : decode cX12_frame 56 = .ok (.goto 53, 3) := by decide +kernel
theorem dX12_frame_59 : decode cX12_frame 59 = .ok (.iload_n 2, 1) := by decide +kernel
theorem dX12_frame_60 : decode cX12_frame 60 = .ok (.iconst 2, 1) := by decide +kernel
theorem dX12_frame_61 : decode cX12_frame 61 = .ok (.if_icmp .ne 20, 3) := by decide +kernel
theorem dX12_frame_64 : decode cX12_frame 64 = .ok (.aload_n 0, 1) := by decide +kernel
theorem dX12_frame_65 : decode cX12_frame 65 = .ok (.getfield 113, 3) := by decide +kernel
theorem dX12_frame_68 : decode cX12_frame 68 = .ok (.iload_n 1, 1) := by decide +kernel
theorem dX12_frame_69 : decode cX12_frame 69 = .ok (.baload, 1) := by decide +kernel
theorem dX12_frame_70 : decode cX12_frame 70 = .ok (.ifCond .eq 7, 3) := by decide +kernel
theorem dX12_frame_73 : decode cX12_frame 73 = .ok (.iconst 1, 1) := by decide +kernel
theorem dX12_frame_74 : decode cX12_frame 74 = .ok (.goto 35, 3) := by decide +kernel
theorem dX12_frame_77 : decode cX12_frame 77 = .ok (.iconst 0, 1) := by decide +kernel
theorem dX12_frame_78 : decode cX12_frame 78 = .ok (.goto 31, 3) := by decide +kernel
theorem dX12_frame_81 : decode cX12_frame 81 = .ok (.iload_n 2, 1) := by decide +kernel
theorem dX12_frame_82 : decode cX12_frame 82 = .ok (.iconst 3, 1) := by decide +kernel
theorem dX12_frame_83 : decode cX12_frame 83 = .ok (.if_icmp .ne 20, 3) := by decide +kernel
theorem dX12_frame_86 : decode cX12_frame 86 = .ok (.aload_n 0, 1) := by decide +kernel
theorem dX12_frame_87 : decode cX12_frame 87 = .ok (.getfield 116, 3) := by decide +kernel
theorem dX12_frame_90 : decode cX12_frame 90 = .ok (.iload_n 1, 1) := by decide +kernel
theorem dX12_frame_91 : decode cX12_frame 91 = .ok (.baload, 1) := by decide +kernel
theorem dX12_frame_92 : decode cX12_frame 92 = .ok (.ifCond .eq 7, 3) := by decide +kernel
theorem dX12_frame_95 : decode cX12_frame 95 = .ok (.iconst 1, 1) := by decide +kernel
theorem dX12_frame_96 : decode cX12_frame 96 = .ok (.goto 13, 3) := by decide +kernel
theorem dX12_frame_99 : decode cX12_frame 99 = .ok (.iconst 0, 1) := by decide +kernel
theorem dX12_frame_100 : decode cX12_frame 100 = .ok (.goto 9, 3) := by decide +kernel
theorem dX12_frame_103 : decode cX12_frame 103 = .ok (.aload_n 0, 1) := by decide +kernel
theorem dX12_frame_104 : decode cX12_frame 104 = .ok (.getfield 110, 3) := by decide +kernel
theorem dX12_frame_107 : decode cX12_frame 107 = .ok (.iload_n 1, 1) := by decide +kernel
theorem dX12_frame_108 : decode cX12_frame 108 = .ok (.iaload, 1) := by decide +kernel
theorem dX12_frame_109 : decode cX12_frame 109 = .ok (.ireturn, 1) := by decide +kernel
theorem dX12_about_0 : decode cX12_about 0 = .ok (.iload_n 1, 1) := by decide +kernel
theorem dX12_about_1 : decode cX12_about 1 = .ok (.tableswitch 124 0 10 #[59, 64, 69, 82, 95, 95, 95, 104, 109, 114, 119], 59) := by decide +kernel
theorem dX12_about_60 : decode cX12_about 60 = .ok (.aload_n 0, 1) := by decide +kernel
theorem dX12_about_61 : decode cX12_about 61 = .ok (.getfield 167, 3) := by decide +kernel
theorem dX12_about_64 : decode cX12_about 64 = .ok (.ireturn, 1) := by decide +kernel
theorem dX12_about_65 : decode cX12_about 65 = .ok (.aload_n 0, 1) := by decide +kernel
theorem dX12_about_66 : decode cX12_about 66 = .ok (.getfield 264, 3) := by decide +kernel
theorem dX12_about_69 : decode cX12_about 69 = .ok (.ireturn, 1) := by decide +kernel
theorem dX12_about_70 : decode cX12_about 70 = .ok (.aload_n 0, 1) := by decide +kernel
theorem dX12_about_71 : decode cX12_about 71 = .ok (.getfield 306, 3) := by decide +kernel
theorem dX12_about_74 : decode cX12_about 74 = .ok (.ifCond .eq 7, 3) := by decide +kernel
theorem dX12_about_77 : decode cX12_about 77 = .ok (.iconst 1, 1) := by decide +kernel
theorem dX12_about_78 : decode cX12_about 78 = .ok (.goto 4, 3) := by decide +kernel
theorem dX12_about_81 : decode cX12_about 81 = .ok (.iconst 0, 1) := by decide +kernel
theorem dX12_about_82 : decode cX12_about 82 = .ok (.ireturn, 1) := by decide +kernel
theorem dX12_about_83 : decode cX12_about 83 = .ok (.aload_n 0, 1) := by decide +kernel
theorem dX12_about_84 : decode cX12_about 84 = .ok (.getfield 313, 3) := by decide +kernel
theorem dX12_about_87 : decode cX12_about 87 = .ok (.ifCond .eq 7, 3) := by decide +kernel
theorem dX12_about_90 : decode cX12_about 90 = .ok (.iconst 1, 1) := by decide +kernel
theorem dX12_about_91 : decode cX12_about 91 = .ok (.goto 4, 3) := by decide +kernel
theorem dX12_about_94 : decode cX12_about 94 = .ok (.iconst 0, 1) := by decide +kernel
theorem dX12_about_95 : decode cX12_about 95 = .ok (.ireturn, 1) := by decide +kernel
theorem dX12_about_96 : decode cX12_about 96 = .ok (.aload_n 0, 1) := by decide +kernel
theorem dX12_about_97 : decode cX12_about 97 = .ok (.getfield 71, 3) := by decide +kernel
theorem dX12_about_100 : decode cX12_about 100 = .ok (.iload_n 1, 1) := by decide +kernel
theorem dX12_about_101 : decode cX12_about 101 = .ok (.iconst 4, 1) := by decide +kernel
theorem dX12_about_102 : decode cX12_about 102 = .ok (.isub, 1) := by decide +kernel
theorem dX12_about_103 : decode cX12_about 103 = .ok (.iaload, 1) := by decide +kernel
theorem dX12_about_104 : decode cX12_about 104 = .ok (.ireturn, 1) := by decide +kernel
theorem dX12_about_105 : decode cX12_about 105 = .ok (.aload_n 0, 1) := by decide +kernel
theorem dX12_about_106 : decode cX12_about 106 = .ok (.getfield 316, 3) := by decide +kernel
theorem dX12_about_109 : decode cX12_about 109 = .ok (.ireturn, 1) := by decide +kernel
theorem dX12_about_110 : decode cX12_about 110 = .ok (.aload_n 0, 1) := by decide +kernel
theorem dX12_about_111 : decode cX12_about 111 = .ok (.invokevirtual 334, 3) := by decide +kernel
theorem dX12_about_114 : decode cX12_about 114 = .ok (.ireturn, 1) := by decide +kernel
theorem dX12_about_115 : decode cX12_about 115 = .ok (.aload_n 0, 1) := by decide +kernel
theorem dX12_about_116 : decode cX12_about 116 = .ok (.getfield 270, 3) := by decide +kernel
theorem dX12_about_119 : decode cX12_about 119 = .ok (.ireturn, 1) := by decide +kernel
theorem dX12_about_120 : decode cX12_about 120 = .ok (.aload_n 0, 1) := by decide +kernel
theorem dX12_about_121 : decode cX12_about 121 = .ok (.getfield 322, 3) := by decide +kernel
theorem dX12_about_124 : decode cX12_about 124 = .ok (.ireturn, 1) := by decide +kernel
theorem dX12_about_125 : decode cX12_about 125 = .ok (.iconst (-1), 1) := by decide +kernel
theorem dX12_about_126 : decode cX12_about 126 = .ok (.ireturn, 1) := by decide +kernel
theorem dX12_octet_0 : decode cX12_octet 0 = .ok (.iload_n 1, 1) := by decide +kernel
theorem dX12_octet_1 : decode cX12_octet 1 = .ok (.ifCond .lt 18, 3) := by decide +kernel
theorem dX12_octet_4 : decode cX12_octet 4 = .ok (.iload_n 1, 1) := by decide +kernel
theorem dX12_octet_5 : decode cX12_octet 5 = .ok (.sipush 600, 3) := by decide +kernel
theorem dX12_octet_8 : decode cX12_octet 8 = .ok (.if_icmp .ge 11, 3) := by decide +kernel
theorem dX12_octet_11 : decode cX12_octet 11 = .ok (.iload_n 1, 1) := by decide +kernel
theorem dX12_octet_12 : decode cX12_octet 12 = .ok (.aload_n 0, 1) := by decide +kernel
theorem dX12_octet_13 : decode cX12_octet 13 = .ok (.getfield 316, 3) := by decide +kernel
theorem dX12_octet_16 : decode cX12_octet 16 = .ok (.if_icmp .lt 7, 3) := by decide +kernel
theorem dX12_octet_19 : decode cX12_octet 19 = .ok (.iconst (-1), 1) := by decide +kernel
theorem dX12_octet_20 : decode cX12_octet 20 = .ok (.goto 9, 3) := by decide +kernel
theorem dX12_octet_23 : decode cX12_octet 23 = .ok (.aload_n 0, 1) := by decide +kernel
theorem dX12_octet_24 : decode cX12_octet 24 = .ok (.getfield 140, 3) := by decide +kernel
theorem dX12_octet_27 : decode cX12_octet 27 = .ok (.iload_n 1, 1) := by decide +kernel
theorem dX12_octet_28 : decode cX12_octet 28 = .ok (.iaload, 1) := by decide +kernel
theorem dX12_octet_29 : decode cX12_octet 29 = .ok (.ireturn, 1) := by decide +kernel
theorem dJ9_floorMod_7cf53_0 : decode cJ9_floorMod_7cf53 0 = .ok (.iload_n 0, 1) := by decide +kernel
theorem dJ9_floorMod_7cf53_1 : decode cJ9_floorMod_7cf53 1 = .ok (.iload_n 1, 1) := by decide +kernel
theorem dJ9_floorMod_7cf53_2 : decode cJ9_floorMod_7cf53 2 = .ok (.irem, 1) := by decide +kernel
theorem dJ9_floorMod_7cf53_3 : decode cJ9_floorMod_7cf53 3 = .ok (.istore_n 2, 1) := by decide +kernel
theorem dJ9_floorMod_7cf53_4 : decode cJ9_floorMod_7cf53 4 = .ok (.iload_n 0, 1) := by decide +kernel
theorem dJ9_floorMod_7cf53_5 : decode cJ9_floorMod_7cf53 5 = .ok (.iload_n 1, 1) := by decide +kernel
theorem dJ9_floorMod_7cf53_6 : decode cJ9_floorMod_7cf53 6 = .ok (.ixor, 1) := by decide +kernel
theorem dJ9_floorMod_7cf53_7 : decode cJ9_floorMod_7cf53 7 = .ok (.ifCond .ge 11, 3) := by decide +kernel
theorem dJ9_floorMod_7cf53_10 : decode cJ9_floorMod_7cf53 10 = .ok (.iload_n 2, 1) := by decide +kernel
theorem dJ9_floorMod_7cf53_11 : decode cJ9_floorMod_7cf53 11 = .ok (.ifCond .eq 7, 3) := by decide +kernel
theorem dJ9_floorMod_7cf53_14 : decode cJ9_floorMod_7cf53 14 = .ok (.iload_n 2, 1) := by decide +kernel
theorem dJ9_floorMod_7cf53_15 : decode cJ9_floorMod_7cf53 15 = .ok (.iload_n 1, 1) := by decide +kernel
theorem dJ9_floorMod_7cf53_16 : decode cJ9_floorMod_7cf53 16 = .ok (.iadd, 1) := by decide +kernel
theorem dJ9_floorMod_7cf53_17 : decode cJ9_floorMod_7cf53 17 = .ok (.ireturn, 1) := by decide +kernel
theorem dJ9_floorMod_7cf53_18 : decode cJ9_floorMod_7cf53 18 = .ok (.iload_n 2, 1) := by decide +kernel
theorem dJ9_floorMod_7cf53_19 : decode cJ9_floorMod_7cf53 19 = .ok (.ireturn, 1) := by decide +kernel
theorem dJ9_max_7cf53_0 : decode cJ9_max_7cf53 0 = .ok (.iload_n 0, 1) := by decide +kernel
theorem dJ9_max_7cf53_1 : decode cJ9_max_7cf53 1 = .ok (.iload_n 1, 1) := by decide +kernel
theorem dJ9_max_7cf53_2 : decode cJ9_max_7cf53 2 = .ok (.if_icmp .lt 7, 3) := by decide +kernel
theorem dJ9_max_7cf53_5 : decode cJ9_max_7cf53 5 = .ok (.iload_n 0, 1) := by decide +kernel
theorem dJ9_max_7cf53_6 : decode cJ9_max_7cf53 6 = .ok (.goto 4, 3) := by decide +kernel
theorem dJ9_max_7cf53_9 : decode cJ9_max_7cf53 9 = .ok (.iload_n 1, 1) := by decide +kernel
theorem dJ9_max_7cf53_10 : decode cJ9_max_7cf53 10 = .ok (.ireturn, 1) := by decide +kernel
theorem dJ9_min_7cf53_0 : decode cJ9_min_7cf53 0 = .ok (.iload_n 0, 1) := by decide +kernel
theorem dJ9_min_7cf53_1 : decode cJ9_min_7cf53 1 = .ok (.iload_n 1, 1) := by decide +kernel
theorem dJ9_min_7cf53_2 : decode cJ9_min_7cf53 2 = .ok (.if_icmp .gt 7, 3) := by decide +kernel
theorem dJ9_min_7cf53_5 : decode cJ9_min_7cf53 5 = .ok (.iload_n 0, 1) := by decide +kernel
theorem dJ9_min_7cf53_6 : decode cJ9_min_7cf53 6 = .ok (.goto 4, 3) := by decide +kernel
theorem dJ9_min_7cf53_9 : decode cJ9_min_7cf53 9 = .ok (.iload_n 1, 1) := by decide +kernel
theorem dJ9_min_7cf53_10 : decode cJ9_min_7cf53 10 = .ok (.ireturn, 1) := by decide +kernel
theorem dJxa1e45_init_da8c8_0 : decode cJxa1e45_init_da8c8 0 = .ok (.aload_n 0, 1) := by decide +kernel
theorem dJxa1e45_init_da8c8_1 : decode cJxa1e45_init_da8c8 1 = .ok (.invokespecial 1, 3) := by decide +kernel
theorem dJxa1e45_init_da8c8_4 : decode cJxa1e45_init_da8c8 4 = .ok (.return_, 1) := by decide +kernel
theorem dJxc12de_init_da8c8_0 : decode cJxc12de_init_da8c8 0 = .ok (.aload_n 0, 1) := by decide +kernel
theorem dJxc12de_init_da8c8_1 : decode cJxc12de_init_da8c8 1 = .ok (.invokespecial 1, 3) := by decide +kernel
theorem dJxc12de_init_da8c8_4 : decode cJxc12de_init_da8c8 4 = .ok (.aload_n 0, 1) := by decide +kernel
theorem dJxc12de_init_da8c8_5 : decode cJxc12de_init_da8c8 5 = .ok (.iconst 0, 1) := by decide +kernel
theorem dJxc12de_init_da8c8_6 : decode cJxc12de_init_da8c8 6 = .ok (.putfield 7, 3) := by decide +kernel
theorem dJxc12de_init_da8c8_9 : decode cJxc12de_init_da8c8 9 = .ok (.return_, 1) := by decide +kernel
theorem dJx4a65c_init_da8c8_0 : decode cJx4a65c_init_da8c8 0 = .ok (.aload_n 0, 1) := by decide +kernel
theorem dJx4a65c_init_da8c8_1 : decode cJx4a65c_init_da8c8 1 = .ok (.invokespecial 1, 3) := by decide +kernel
theorem dJx4a65c_init_da8c8_4 : decode cJx4a65c_init_da8c8 4 = .ok (.aload_n 0, 1) := by decide +kernel
theorem dJx4a65c_init_da8c8_5 : decode cJx4a65c_init_da8c8 5 = .ok (.getstatic 39, 3) := by decide +kernel
theorem dJx4a65c_init_da8c8_8 : decode cJx4a65c_init_da8c8 8 = .ok (.putfield 9, 3) := by decide +kernel
theorem dJx4a65c_init_da8c8_11 : decode cJx4a65c_init_da8c8 11 = .ok (.return_, 1) := by decide +kernel
theorem dJx4a65c_grow_92f84_0 : decode cJx4a65c_grow_92f84 0 = .ok (.aload_n 0, 1) := by decide +kernel
theorem dJx4a65c_grow_92f84_1 : decode cJx4a65c_grow_92f84 1 = .ok (.getfield 9, 3) := by decide +kernel
theorem dJx4a65c_grow_92f84_4 : decode cJx4a65c_grow_92f84 4 = .ok (.arraylength, 1) := by decide +kernel
theorem dJx4a65c_grow_92f84_5 : decode cJx4a65c_grow_92f84 5 = .ok (.istore_n 2, 1) := by decide +kernel
theorem dJx4a65c_grow_92f84_6 : decode cJx4a65c_grow_92f84 6 = .ok (.iload_n 2, 1) := by decide +kernel
theorem dJx4a65c_grow_92f84_7 : decode cJx4a65c_grow_92f84 7 = .ok (.ifCond .gt 13, 3) := by decide +kernel
theorem dJx4a65c_grow_92f84_10 : decode cJx4a65c_grow_92f84 10 = .ok (.aload_n 0, 1) := by decide +kernel
theorem dJx4a65c_grow_92f84_11 : decode cJx4a65c_grow_92f84 11 = .ok (.getfield 9, 3) := by decide +kernel
theorem dJx4a65c_grow_92f84_14 : decode cJx4a65c_grow_92f84 14 = .ok (.getstatic 39, 3) := by decide +kernel
theorem dJx4a65c_grow_92f84_17 : decode cJx4a65c_grow_92f84 17 = .ok (.if_acmp .eq 28, 3) := by decide +kernel
theorem dJx4a65c_grow_92f84_20 : decode cJx4a65c_grow_92f84 20 = .ok (.iload_n 2, 1) := by decide +kernel
theorem dJx4a65c_grow_92f84_21 : decode cJx4a65c_grow_92f84 21 = .ok (.iload_n 1, 1) := by decide +kernel
theorem dJx4a65c_grow_92f84_22 : decode cJx4a65c_grow_92f84 22 = .ok (.iload_n 2, 1) := by decide +kernel
theorem dJx4a65c_grow_92f84_23 : decode cJx4a65c_grow_92f84 23 = .ok (.isub, 1) := by decide +kernel
theorem dJx4a65c_grow_92f84_24 : decode cJx4a65c_grow_92f84 24 = .ok (.iload_n 2, 1) := by decide +kernel
theorem dJx4a65c_grow_92f84_25 : decode cJx4a65c_grow_92f84 25 = .ok (.iconst 1, 1) := by decide +kernel
theorem dJx4a65c_grow_92f84_26 : decode cJx4a65c_grow_92f84 26 = .ok (.ishr, 1) := by decide +kernel
theorem dJx4a65c_grow_92f84_27 : decode cJx4a65c_grow_92f84 27 = .ok (.invokestatic 73, 3) := by decide +kernel
theorem dJx4a65c_grow_92f84_30 : decode cJx4a65c_grow_92f84 30 = .ok (.istore_n 3, 1) := by decide +kernel
theorem dJx4a65c_grow_92f84_31 : decode cJx4a65c_grow_92f84 31 = .ok (.aload_n 0, 1) := by decide +kernel
theorem dJx4a65c_grow_92f84_32 : decode cJx4a65c_grow_92f84 32 = .ok (.aload_n 0, 1) := by decide +kernel
theorem dJx4a65c_grow_92f84_33 : decode cJx4a65c_grow_92f84 33 = .ok (.getfield 9, 3) := by decide +kernel
theorem dJx4a65c_grow_92f84_36 : decode cJx4a65c_grow_92f84 36 = .ok (.iload_n 3, 1) := by decide +kernel
theorem dJx4a65c_grow_92f84_37 : decode cJx4a65c_grow_92f84 37 = .ok (.invokestatic 66, 3) := by decide +kernel
theorem dJx4a65c_grow_92f84_40 : decode cJx4a65c_grow_92f84 40 = .ok (.dup_x1, 1) := by decide +kernel
theorem dJx4a65c_grow_92f84_41 : decode cJx4a65c_grow_92f84 41 = .ok (.putfield 9, 3) := by decide +kernel
theorem dJx4a65c_grow_92f84_44 : decode cJx4a65c_grow_92f84 44 = .ok (.areturn, 1) := by decide +kernel
theorem dJx4a65c_grow_92f84_45 : decode cJx4a65c_grow_92f84 45 = .ok (.aload_n 0, 1) := by decide +kernel
theorem dJx4a65c_grow_92f84_46 : decode cJx4a65c_grow_92f84 46 = .ok (.bipush 10, 2) := by decide +kernel
theorem dJx4a65c_grow_92f84_48 : decode cJx4a65c_grow_92f84 48 = .ok (.iload_n 1, 1) := by decide +kernel
theorem dJx4a65c_grow_92f84_49 : decode cJx4a65c_grow_92f84 49 = .ok (.invokestatic 79, 3) := by decide +kernel
theorem dJx4a65c_grow_92f84_52 : decode cJx4a65c_grow_92f84 52 = .ok (.anewarray 7, 3) := by decide +kernel
theorem dJx4a65c_grow_92f84_55 : decode cJx4a65c_grow_92f84 55 = .ok (.dup_x1, 1) := by decide +kernel
theorem dJx4a65c_grow_92f84_56 : decode cJx4a65c_grow_92f84 56 = .ok (.putfield 9, 3) := by decide +kernel
theorem dJx4a65c_grow_92f84_59 : decode cJx4a65c_grow_92f84 59 = .ok (.areturn, 1) := by decide +kernel
theorem dJx4a65c_grow_d5877_0 : decode cJx4a65c_grow_d5877 0 = .ok (.aload_n 0, 1) := by decide +kernel
theorem dJx4a65c_grow_d5877_1 : decode cJx4a65c_grow_d5877 1 = .ok (.aload_n 0, 1) := by decide +kernel
theorem dJx4a65c_grow_d5877_2 : decode cJx4a65c_grow_d5877 2 = .ok (.getfield 48, 3) := by decide +kernel
theorem dJx4a65c_grow_d5877_5 : decode cJx4a65c_grow_d5877 5 = .ok (.iconst 1, 1) := by decide +kernel
theorem dJx4a65c_grow_d5877_6 : decode cJx4a65c_grow_d5877 6 = .ok (.iadd, 1) := by decide +kernel
theorem dJx4a65c_grow_d5877_7 : decode cJx4a65c_grow_d5877 7 = .ok (.invokevirtual 69, 3) := by decide +kernel
theorem dJx4a65c_grow_d5877_10 : decode cJx4a65c_grow_d5877 10 = .ok (.areturn, 1) := by decide +kernel
theorem dJx4a65c_size_8abf5_0 : decode cJx4a65c_size_8abf5 0 = .ok (.aload_n 0, 1) := by decide +kernel
theorem dJx4a65c_size_8abf5_1 : decode cJx4a65c_size_8abf5 1 = .ok (.getfield 48, 3) := by decide +kernel
theorem dJx4a65c_size_8abf5_4 : decode cJx4a65c_size_8abf5 4 = .ok (.ireturn, 1) := by decide +kernel
theorem dJx4a65c_isEmpty_aae02_0 : decode cJx4a65c_isEmpty_aae02 0 = .ok (.aload_n 0, 1) := by decide +kernel
theorem dJx4a65c_isEmpty_aae02_1 : decode cJx4a65c_isEmpty_aae02 1 = .ok (.getfield 48, 3) := by decide +kernel
theorem dJx4a65c_isEmpty_aae02_4 : decode cJx4a65c_isEmpty_aae02 4 = .ok (.ifCond .ne 7, 3) := by decide +kernel
theorem dJx4a65c_isEmpty_aae02_7 : decode cJx4a65c_isEmpty_aae02 7 = .ok (.iconst 1, 1) := by decide +kernel
theorem dJx4a65c_isEmpty_aae02_8 : decode cJx4a65c_isEmpty_aae02 8 = .ok (.goto 4, 3) := by decide +kernel
theorem dJx4a65c_isEmpty_aae02_11 : decode cJx4a65c_isEmpty_aae02 11 = .ok (.iconst 0, 1) := by decide +kernel
theorem dJx4a65c_isEmpty_aae02_12 : decode cJx4a65c_isEmpty_aae02 12 = .ok (.ireturn, 1) := by decide +kernel
theorem dJx4a65c_elementData_915e3_0 : decode cJx4a65c_elementData_915e3 0 = .ok (.aload_n 0, 1) := by decide +kernel
theorem dJx4a65c_elementData_915e3_1 : decode cJx4a65c_elementData_915e3 1 = .ok (.getfield 9, 3) := by decide +kernel
theorem dJx4a65c_elementData_915e3_4 : decode cJx4a65c_elementData_915e3 4 = .ok (.iload_n 1, 1) := by decide +kernel
theorem dJx4a65c_elementData_915e3_5 : decode cJx4a65c_elementData_915e3 5 = .ok (.aaload, 1) := by decide +kernel
theorem dJx4a65c_elementData_915e3_6 : decode cJx4a65c_elementData_915e3 6 = .ok (.areturn, 1) := by decide +kernel
theorem dJx4a65c_get_915e3_0 : decode cJx4a65c_get_915e3 0 = .ok (.iload_n 1, 1) := by decide +kernel
theorem dJx4a65c_get_915e3_1 : decode cJx4a65c_get_915e3 1 = .ok (.aload_n 0, 1) := by decide +kernel
theorem dJx4a65c_get_915e3_2 : decode cJx4a65c_get_915e3 2 = .ok (.getfield 48, 3) := by decide +kernel
theorem dJx4a65c_get_915e3_5 : decode cJx4a65c_get_915e3 5 = .ok (.invokestatic 118, 3) := by decide +kernel
theorem dJx4a65c_get_915e3_8 : decode cJx4a65c_get_915e3 8 = .ok (.pop, 1) := by decide +kernel
theorem dJx4a65c_get_915e3_9 : decode cJx4a65c_get_915e3 9 = .ok (.aload_n 0, 1) := by decide +kernel
theorem dJx4a65c_get_915e3_10 : decode cJx4a65c_get_915e3 10 = .ok (.iload_n 1, 1) := by decide +kernel
theorem dJx4a65c_get_915e3_11 : decode cJx4a65c_get_915e3 11 = .ok (.invokevirtual 123, 3) := by decide +kernel
theorem dJx4a65c_get_915e3_14 : decode cJx4a65c_get_915e3 14 = .ok (.areturn, 1) := by decide +kernel
theorem dJx4a65c_add_72be8_0 : decode cJx4a65c_add_72be8 0 = .ok (.iload_n 3, 1) := by decide +kernel
theorem dJx4a65c_add_72be8_1 : decode cJx4a65c_add_72be8 1 = .ok (.aload_n 2, 1) := by decide +kernel
theorem dJx4a65c_add_72be8_2 : decode cJx4a65c_add_72be8 2 = .ok (.arraylength, 1) := by decide +kernel
theorem dJx4a65c_add_72be8_3 : decode cJx4a65c_add_72be8 3 = .ok (.if_icmp .ne 8, 3) := by decide +kernel
theorem dJx4a65c_add_72be8_6 : decode cJx4a65c_add_72be8 6 = .ok (.aload_n 0, 1) := by decide +kernel
theorem dJx4a65c_add_72be8_7 : decode cJx4a65c_add_72be8 7 = .ok (.invokevirtual 129, 3) := by decide +kernel
theorem dJx4a65c_add_72be8_10 : decode cJx4a65c_add_72be8 10 = .ok (.astore_n 2, 1) := by decide +kernel
theorem dJx4a65c_add_72be8_11 : decode cJx4a65c_add_72be8 11 = .ok (.aload_n 2, 1) := by decide +kernel
theorem dJx4a65c_add_72be8_12 : decode cJx4a65c_add_72be8 12 = .ok (.iload_n 3, 1) := by decide +kernel
theorem dJx4a65c_add_72be8_13 : decode cJx4a65c_add_72be8 13 = .ok (.aload_n 1, 1) := by decide +kernel
theorem dJx4a65c_add_72be8_14 : decode cJx4a65c_add_72be8 14 = .ok (.aastore, 1) := by decide +kernel
theorem dJx4a65c_add_72be8_15 : decode cJx4a65c_add_72be8 15 = .ok (.aload_n 0, 1) := by decide +kernel
theorem dJx4a65c_add_72be8_16 : decode cJx4a65c_add_72be8 16 = .ok (.iload_n 3, 1) := by decide +kernel
theorem dJx4a65c_add_72be8_17 : decode cJx4a65c_add_72be8 17 = .ok (.iconst 1, 1) := by decide +kernel
theorem dJx4a65c_add_72be8_18 : decode cJx4a65c_add_72be8 18 = .ok (.iadd, 1) := by decide +kernel
theorem dJx4a65c_add_72be8_19 : decode cJx4a65c_add_72be8 19 = .ok (.putfield 48, 3) := by decide +kernel
theorem dJx4a65c_add_72be8_22 : decode cJx4a65c_add_72be8 22 = .ok (.return_, 1) := by decide +kernel
theorem dJx4a65c_add_9ea2d_0 : decode cJx4a65c_add_9ea2d 0 = .ok (.aload_n 0, 1) := by decide +kernel
theorem dJx4a65c_add_9ea2d_1 : decode cJx4a65c_add_9ea2d 1 = .ok (.dup, 1) := by decide +kernel
theorem dJx4a65c_add_9ea2d_2 : decode cJx4a65c_add_9ea2d 2 = .ok (.getfield 63, 3) := by decide +kernel
theorem dJx4a65c_add_9ea2d_5 : decode cJx4a65c_add_9ea2d 5 = .ok (.iconst 1, 1) := by decide +kernel
theorem dJx4a65c_add_9ea2d_6 : decode cJx4a65c_add_9ea2d 6 = .ok (.iadd, 1) := by decide +kernel
theorem dJx4a65c_add_9ea2d_7 : decode cJx4a65c_add_9ea2d 7 = .ok (.putfield 63, 3) := by decide +kernel
theorem dJx4a65c_add_9ea2d_10 : decode cJx4a65c_add_9ea2d 10 = .ok (.aload_n 0, 1) := by decide +kernel
theorem dJx4a65c_add_9ea2d_11 : decode cJx4a65c_add_9ea2d 11 = .ok (.aload_n 1, 1) := by decide +kernel
theorem dJx4a65c_add_9ea2d_12 : decode cJx4a65c_add_9ea2d 12 = .ok (.aload_n 0, 1) := by decide +kernel
theorem dJx4a65c_add_9ea2d_13 : decode cJx4a65c_add_9ea2d 13 = .ok (.getfield 9, 3) := by decide +kernel
theorem dJx4a65c_add_9ea2d_16 : decode cJx4a65c_add_9ea2d 16 = .ok (.aload_n 0, 1) := by decide +kernel
theorem dJx4a65c_add_9ea2d_17 : decode cJx4a65c_add_9ea2d 17 = .ok (.getfield 48, 3) := by decide +kernel
theorem dJx4a65c_add_9ea2d_20 : decode cJx4a65c_add_9ea2d 20 = .ok (.invokevirtual 131, 3) := by decide +kernel
theorem dJx4a65c_add_9ea2d_23 : decode cJx4a65c_add_9ea2d 23 = .ok (.iconst 1, 1) := by decide +kernel
theorem dJx4a65c_add_9ea2d_24 : decode cJx4a65c_add_9ea2d 24 = .ok (.ireturn, 1) := by decide +kernel
theorem dJx4a65c_remove_915e3_0 : decode cJx4a65c_remove_915e3 0 = .ok (.iload_n 1, 1) := by decide +kernel
theorem dJx4a65c_remove_915e3_1 : decode cJx4a65c_remove_915e3 1 = .ok (.aload_n 0, 1) := by decide +kernel
theorem dJx4a65c_remove_915e3_2 : decode cJx4a65c_remove_915e3 2 = .ok (.getfield 48, 3) := by decide +kernel
theorem dJx4a65c_remove_915e3_5 : decode cJx4a65c_remove_915e3 5 = .ok (.invokestatic 118, 3) := by decide +kernel
theorem dJx4a65c_remove_915e3_8 : decode cJx4a65c_remove_915e3 8 = .ok (.pop, 1) := by decide +kernel
theorem dJx4a65c_remove_915e3_9 : decode cJx4a65c_remove_915e3 9 = .ok (.aload_n 0, 1) := by decide +kernel
theorem dJx4a65c_remove_915e3_10 : decode cJx4a65c_remove_915e3 10 = .ok (.getfield 9, 3) := by decide +kernel
theorem dJx4a65c_remove_915e3_13 : decode cJx4a65c_remove_915e3 13 = .ok (.astore_n 2, 1) := by decide +kernel
theorem dJx4a65c_remove_915e3_14 : decode cJx4a65c_remove_915e3 14 = .ok (.aload_n 2, 1) := by decide +kernel
theorem dJx4a65c_remove_915e3_15 : decode cJx4a65c_remove_915e3 15 = .ok (.iload_n 1, 1) := by decide +kernel
theorem dJx4a65c_remove_915e3_16 : decode cJx4a65c_remove_915e3 16 = .ok (.aaload, 1) := by decide +kernel
theorem dJx4a65c_remove_915e3_17 : decode cJx4a65c_remove_915e3 17 = .ok (.astore_n 3, 1) := by decide +kernel
theorem dJx4a65c_remove_915e3_18 : decode cJx4a65c_remove_915e3 18 = .ok (.aload_n 0, 1) := by decide +kernel
theorem dJx4a65c_remove_915e3_19 : decode cJx4a65c_remove_915e3 19 = .ok (.aload_n 2, 1) := by decide +kernel
theorem dJx4a65c_remove_915e3_20 : decode cJx4a65c_remove_915e3 20 = .ok (.iload_n 1, 1) := by decide +kernel
theorem dJx4a65c_remove_915e3_21 : decode cJx4a65c_remove_915e3 21 = .ok (.invokevirtual 144, 3) := by decide +kernel
theorem dJx4a65c_remove_915e3_24 : decode cJx4a65c_remove_915e3 24 = .ok (.aload_n 3, 1) := by decide +kernel
theorem dJx4a65c_remove_915e3_25 : decode cJx4a65c_remove_915e3 25 = .ok (.areturn, 1) := by decide +kernel
theorem dJx4a65c_fastRemove_b59b0_0 : decode cJx4a65c_fastRemove_b59b0 0 = .ok (.aload_n 0, 1) := by decide +kernel
theorem dJx4a65c_fastRemove_b59b0_1 : decode cJx4a65c_fastRemove_b59b0 1 = .ok (.dup, 1) := by decide +kernel
theorem dJx4a65c_fastRemove_b59b0_2 : decode cJx4a65c_fastRemove_b59b0 2 = .ok (.getfield 63, 3) := by decide +kernel
theorem dJx4a65c_fastRemove_b59b0_5 : decode cJx4a65c_fastRemove_b59b0 5 = .ok (.iconst 1, 1) := by decide +kernel
theorem dJx4a65c_fastRemove_b59b0_6 : decode cJx4a65c_fastRemove_b59b0 6 = .ok (.iadd, 1) := by decide +kernel
theorem dJx4a65c_fastRemove_b59b0_7 : decode cJx4a65c_fastRemove_b59b0 7 = .ok (.putfield 63, 3) := by decide +kernel
theorem dJx4a65c_fastRemove_b59b0_10 : decode cJx4a65c_fastRemove_b59b0 10 = .ok (.aload_n 0, 1) := by decide +kernel
theorem dJx4a65c_fastRemove_b59b0_11 : decode cJx4a65c_fastRemove_b59b0 11 = .ok (.getfield 48, 3) := by decide +kernel
theorem dJx4a65c_fastRemove_b59b0_14 : decode cJx4a65c_fastRemove_b59b0 14 = .ok (.iconst 1, 1) := by decide +kernel
theorem dJx4a65c_fastRemove_b59b0_15 : decode cJx4a65c_fastRemove_b59b0 15 = .ok (.isub, 1) := by decide +kernel
theorem dJx4a65c_fastRemove_b59b0_16 : decode cJx4a65c_fastRemove_b59b0 16 = .ok (.dup, 1) := by decide +kernel
theorem dJx4a65c_fastRemove_b59b0_17 : decode cJx4a65c_fastRemove_b59b0 17 = .ok (.istore_n 3, 1) := by decide +kernel
theorem dJx4a65c_fastRemove_b59b0_18 : decode cJx4a65c_fastRemove_b59b0 18 = .ok (.iload_n 2, 1) := by decide +kernel
theorem dJx4a65c_fastRemove_b59b0_19 : decode cJx4a65c_fastRemove_b59b0 19 = .ok (.if_icmp .le 15, 3) := by decide +kernel
theorem dJx4a65c_fastRemove_b59b0_22 : decode cJx4a65c_fastRemove_b59b0 22 = .ok (.aload_n 1, 1) := by decide +kernel
theorem dJx4a65c_fastRemove_b59b0_23 : decode cJx4a65c_fastRemove_b59b0 23 = .ok (.iload_n 2, 1) := by decide +kernel
theorem dJx4a65c_fastRemove_b59b0_24 : decode cJx4a65c_fastRemove_b59b0 24 = .ok (.iconst 1, 1) := by decide +kernel
theorem dJx4a65c_fastRemove_b59b0_25 : decode cJx4a65c_fastRemove_b59b0 25 = .ok (.iadd, 1) := by decide +kernel
theorem dJx4a65c_fastRemove_b59b0_26 : decode cJx4a65c_fastRemove_b59b0 26 = .ok (.aload_n 1, 1) := by decide +kernel
theorem dJx4a65c_fastRemove_b59b0_27 : decode cJx4a65c_fastRemove_b59b0 27 = .ok (.iload_n 2, 1) := by decide +kernel
theorem dJx4a65c_fastRemove_b59b0_28 : decode cJx4a65c_fastRemove_b59b0 28 = .ok (.iload_n 3, 1) := by decide +kernel
theorem dJx4a65c_fastRemove_b59b0_29 : decode cJx4a65c_fastRemove_b59b0 29 = .ok (.iload_n 2, 1) := by decide +kernel
theorem dJx4a65c_fastRemove_b59b0_30 : decode cJx4a65c_fastRemove_b59b0 30 = .ok (.isub, 1) := by decide +kernel
theorem dJx4a65c_fastRemove_b59b0_31 : decode cJx4a65c_fastRemove_b59b0 31 = .ok (.invokestatic 112, 3) := by decide +kernel
theorem dJx4a65c_fastRemove_b59b0_34 : decode cJx4a65c_fastRemove_b59b0 34 = .ok (.aload_n 1, 1) := by decide +kernel
theorem dJx4a65c_fastRemove_b59b0_35 : decode cJx4a65c_fastRemove_b59b0 35 = .ok (.aload_n 0, 1) := by decide +kernel
theorem dJx4a65c_fastRemove_b59b0_36 : decode cJx4a65c_fastRemove_b59b0 36 = .ok (.iload_n 3, 1) := by decide +kernel
theorem dJx4a65c_fastRemove_b59b0_37 : decode cJx4a65c_fastRemove_b59b0 37 = .ok (.dup_x1, 1) := by decide +kernel
theorem dJx4a65c_fastRemove_b59b0_38 : decode cJx4a65c_fastRemove_b59b0 38 = .ok (.putfield 48, 3) := by decide +kernel
theorem dJx4a65c_fastRemove_b59b0_41 : decode cJx4a65c_fastRemove_b59b0 41 = .ok (.aconst_null, 1) := by decide +kernel
theorem dJx4a65c_fastRemove_b59b0_42 : decode cJx4a65c_fastRemove_b59b0 42 = .ok (.aastore, 1) := by decide +kernel
theorem dJx4a65c_fastRemove_b59b0_43 : decode cJx4a65c_fastRemove_b59b0 43 = .ok (.return_, 1) := by decide +kernel
theorem dJ7_copyOf_1904c_0 : decode cJ7_copyOf_1904c 0 = .ok (.aload_n 0, 1) := by decide +kernel
theorem dJ7_copyOf_1904c_1 : decode cJ7_copyOf_1904c 1 = .ok (.iload_n 1, 1) := by decide +kernel
theorem dJ7_copyOf_1904c_2 : decode cJ7_copyOf_1904c 2 = .ok (.aload_n 0, 1) := by decide +kernel
theorem dJ7_copyOf_1904c_3 : decode cJ7_copyOf_1904c 3 = .ok (.invokevirtual 86, 3) := by decide +kernel
theorem dJ7_copyOf_1904c_6 : decode cJ7_copyOf_1904c 6 = .ok (.invokestatic 300, 3) := by decide +kernel
theorem dJ7_copyOf_1904c_9 : decode cJ7_copyOf_1904c 9 = .ok (.areturn, 1) := by decide +kernel
theorem dJ7_copyOf_6403c_0 : decode cJ7_copyOf_6403c 0 = .ok (.aload_n 2, 1) := by decide +kernel
theorem dJ7_copyOf_6403c_1 : decode cJ7_copyOf_6403c 1 = .ok (.ldc 110, 2) := by decide +kernel
theorem dJ7_copyOf_6403c_3 : decode cJ7_copyOf_6403c 3 = .ok (.if_acmp .ne 10, 3) := by decide +kernel
theorem dJ7_copyOf_6403c_6 : decode cJ7_copyOf_6403c 6 = .ok (.iload_n 1, 1) := by decide +kernel
theorem dJ7_copyOf_6403c_7 : decode cJ7_copyOf_6403c 7 = .ok (.anewarray 2, 3) := by decide +kernel
theorem dJ7_copyOf_6403c_10 : decode cJ7_copyOf_6403c 10 = .ok (.goto 14, 3) := by decide +kernel
theorem dJ7_copyOf_6403c_13 : decode cJ7_copyOf_6403c 13 = .ok (.aload_n 2, 1) := by decide +kernel
theorem dJ7_copyOf_6403c_14 : decode cJ7_copyOf_6403c 14 = .ok (.invokevirtual 90, 3) := by decide +kernel
theorem dJ7_copyOf_6403c_17 : decode cJ7_copyOf_6403c 17 = .ok (.iload_n 1, 1) := by decide +kernel
theorem dJ7_copyOf_6403c_18 : decode cJ7_copyOf_6403c 18 = .ok (.invokestatic 95, 3) := by decide +kernel
theorem dJ7_copyOf_6403c_21 : decode cJ7_copyOf_6403c 21 = .ok (.checkcast 110, 3) := by decide +kernel
theorem dJ7_copyOf_6403c_24 : decode cJ7_copyOf_6403c 24 = .ok (.astore_n 3, 1) := by decide +kernel
theorem dJ7_copyOf_6403c_25 : decode cJ7_copyOf_6403c 25 = .ok (.aload_n 0, 1) := by decide +kernel
theorem dJ7_copyOf_6403c_26 : decode cJ7_copyOf_6403c 26 = .ok (.iconst 0, 1) := by decide +kernel
theorem dJ7_copyOf_6403c_27 : decode cJ7_copyOf_6403c 27 = .ok (.aload_n 3, 1) := by decide +kernel
theorem dJ7_copyOf_6403c_28 : decode cJ7_copyOf_6403c 28 = .ok (.iconst 0, 1) := by decide +kernel
theorem dJ7_copyOf_6403c_29 : decode cJ7_copyOf_6403c 29 = .ok (.aload_n 0, 1) := by decide +kernel
theorem dJ7_copyOf_6403c_30 : decode cJ7_copyOf_6403c 30 = .ok (.arraylength, 1) := by decide +kernel
theorem dJ7_copyOf_6403c_31 : decode cJ7_copyOf_6403c 31 = .ok (.iload_n 1, 1) := by decide +kernel
theorem dJ7_copyOf_6403c_32 : decode cJ7_copyOf_6403c 32 = .ok (.invokestatic 304, 3) := by decide +kernel
theorem dJ7_copyOf_6403c_35 : decode cJ7_copyOf_6403c 35 = .ok (.invokestatic 150, 3) := by decide +kernel
theorem dJ7_copyOf_6403c_38 : decode cJ7_copyOf_6403c 38 = .ok (.aload_n 3, 1) := by decide +kernel
theorem dJ7_copyOf_6403c_39 : decode cJ7_copyOf_6403c 39 = .ok (.areturn, 1) := by decide +kernel
theorem dJ15_checkIndex_7cf53_0 : decode cJ15_checkIndex_7cf53 0 = .ok (.iload_n 0, 1) := by decide +kernel
theorem dJ15_checkIndex_7cf53_1 : decode cJ15_checkIndex_7cf53 1 = .ok (.iload_n 1, 1) := by decide +kernel
theorem dJ15_checkIndex_7cf53_2 : decode cJ15_checkIndex_7cf53 2 = .ok (.aconst_null, 1) := by decide +kernel
theorem dJ15_checkIndex_7cf53_3 : decode cJ15_checkIndex_7cf53 3 = .ok (.invokestatic 105, 3) := by decide +kernel
theorem dJ15_checkIndex_7cf53_6 : decode cJ15_checkIndex_7cf53 6 = .ok (.ireturn, 1) := by decide +kernel
theorem dJ8_newLength_cabcc_0 : decode cJ8_newLength_cabcc 0 = .ok (.iload_n 0, 1) := by decide +kernel
theorem dJ8_newLength_cabcc_1 : decode cJ8_newLength_cabcc 1 = .ok (.iload_n 1, 1) := by decide +kernel
theorem dJ8_newLength_cabcc_2 : decode cJ8_newLength_cabcc 2 = .ok (.iload_n 2, 1) := by decide +kernel
theorem dJ8_newLength_cabcc_3 : decode cJ8_newLength_cabcc 3 = .ok (.invokestatic 194, 3) := by decide +kernel
theorem dJ8_newLength_cabcc_6 : decode cJ8_newLength_cabcc 6 = .ok (.iadd, 1) := by decide +kernel
theorem dJ8_newLength_cabcc_7 : decode cJ8_newLength_cabcc 7 = .ok (.istore_n 3, 1) := by decide +kernel
theorem dJ8_newLength_cabcc_8 : decode cJ8_newLength_cabcc 8 = .ok (.iconst 0, 1) := by decide +kernel
theorem dJ8_newLength_cabcc_9 : decode cJ8_newLength_cabcc 9 = .ok (.iload_n 3, 1) := by decide +kernel
theorem dJ8_newLength_cabcc_10 : decode cJ8_newLength_cabcc 10 = .ok (.if_icmp .ge 11, 3) := by decide +kernel
theorem dJ8_newLength_cabcc_13 : decode cJ8_newLength_cabcc 13 = .ok (.iload_n 3, 1) := by decide +kernel
theorem dJ8_newLength_cabcc_14 : decode cJ8_newLength_cabcc 14 = .ok (.ldc 200, 2) := by decide +kernel
theorem dJ8_newLength_cabcc_16 : decode cJ8_newLength_cabcc 16 = .ok (.if_icmp .gt 5, 3) := by decide +kernel
theorem dJ8_newLength_cabcc_19 : decode cJ8_newLength_cabcc 19 = .ok (.iload_n 3, 1) := by decide +kernel
theorem dJ8_newLength_cabcc_20 : decode cJ8_newLength_cabcc 20 = .ok (.ireturn, 1) := by decide +kernel
theorem dJ8_newLength_cabcc_21 : decode cJ8_newLength_cabcc 21 = .ok (.iload_n 0, 1) := by decide +kernel
theorem dJ8_newLength_cabcc_22 : decode cJ8_newLength_cabcc 22 = .ok (.iload_n 1, 1) := by decide +kernel
theorem dJ8_newLength_cabcc_23 : decode cJ8_newLength_cabcc 23 = .ok (.invokestatic 201, 3) := by decide +kernel
theorem dJ8_newLength_cabcc_26 : decode cJ8_newLength_cabcc 26 = .ok (.ireturn, 1) := by decide +kernel
theorem dJ8_hugeLength_7cf53_0 : decode cJ8_hugeLength_7cf53 0 = .ok (.iload_n 0, 1) := by decide +kernel
theorem dJ8_hugeLength_7cf53_1 : decode cJ8_hugeLength_7cf53 1 = .ok (.iload_n 1, 1) := by decide +kernel
theorem dJ8_hugeLength_7cf53_2 : decode cJ8_hugeLength_7cf53 2 = .ok (.iadd, 1) := by decide +kernel
theorem dJ8_hugeLength_7cf53_3 : decode cJ8_hugeLength_7cf53 3 = .ok (.istore_n 2, 1) := by decide +kernel
theorem dJ8_hugeLength_7cf53_4 : decode cJ8_hugeLength_7cf53 4 = .ok (.iload_n 2, 1) := by decide +kernel
theorem dJ8_hugeLength_7cf53_5 : decode cJ8_hugeLength_7cf53 5 = .ok (.ifCond .ge 44, 3) := by decide +kernel
theorem dJ8_hugeLength_7cf53_8 : decode cJ8_hugeLength_7cf53 8 = .ok (.new 204, 3) := by decide +kernel
theorem dJ8_hugeLength_7cf53_11 : decode cJ8_hugeLength_7cf53 11 = .ok (.dup, 1) := by decide +kernel
theorem dJ8_hugeLength_7cf53_12 : decode cJ8_hugeLength_7cf53 12 = .ok (.new 89, 3) := by decide +kernel
theorem dJ8_hugeLength_7cf53_15 : decode cJ8_hugeLength_7cf53 15 = .ok (.dup, 1) := by decide +kernel
theorem dJ8_hugeLength_7cf53_16 : decode cJ8_hugeLength_7cf53 16 = .ok (.invokespecial 91, 3) := by decide +kernel
theorem dJ8_hugeLength_7cf53_19 : decode cJ8_hugeLength_7cf53 19 = .ok (.ldc 206, 2) := by decide +kernel
theorem dJ8_hugeLength_7cf53_21 : decode cJ8_hugeLength_7cf53 21 = .ok (.invokevirtual 94, 3) := by decide +kernel
theorem dJ8_hugeLength_7cf53_24 : decode cJ8_hugeLength_7cf53 24 = .ok (.iload_n 0, 1) := by decide +kernel
theorem dJ8_hugeLength_7cf53_25 : decode cJ8_hugeLength_7cf53 25 = .ok (.invokevirtual 98, 3) := by decide +kernel
theorem dJ8_hugeLength_7cf53_28 : decode cJ8_hugeLength_7cf53 28 = .ok (.ldc 208, 2) := by decide +kernel
theorem dJ8_hugeLength_7cf53_30 : decode cJ8_hugeLength_7cf53 30 = .ok (.invokevirtual 94, 3) := by decide +kernel
theorem dJ8_hugeLength_7cf53_33 : decode cJ8_hugeLength_7cf53 33 = .ok (.iload_n 1, 1) := by decide +kernel
theorem dJ8_hugeLength_7cf53_34 : decode cJ8_hugeLength_7cf53 34 = .ok (.invokevirtual 98, 3) := by decide +kernel
theorem dJ8_hugeLength_7cf53_37 : decode cJ8_hugeLength_7cf53 37 = .ok (.ldc 210, 2) := by decide +kernel
theorem dJ8_hugeLength_7cf53_39 : decode cJ8_hugeLength_7cf53 39 = .ok (.invokevirtual 94, 3) := by decide +kernel
theorem dJ8_hugeLength_7cf53_42 : decode cJ8_hugeLength_7cf53 42 = .ok (.invokevirtual 101, 3) := by decide +kernel
theorem dJ8_hugeLength_7cf53_45 : decode cJ8_hugeLength_7cf53 45 = .ok (.invokespecial 212, 3) := by decide +kernel
theorem dJ8_hugeLength_7cf53_48 : decode cJ8_hugeLength_7cf53 48 = .ok (.athrow, 1) := by decide +kernel
theorem dJ8_hugeLength_7cf53_49 : decode cJ8_hugeLength_7cf53 49 = .ok (.iload_n 2, 1) := by decide +kernel
theorem dJ8_hugeLength_7cf53_50 : decode cJ8_hugeLength_7cf53 50 = .ok (.ldc 200, 2) := by decide +kernel
theorem dJ8_hugeLength_7cf53_52 : decode cJ8_hugeLength_7cf53 52 = .ok (.if_icmp .gt 6, 3) := by decide +kernel
theorem dJ8_hugeLength_7cf53_55 : decode cJ8_hugeLength_7cf53 55 = .ok (.ldc 200, 2) := by decide +kernel
theorem dJ8_hugeLength_7cf53_57 : decode cJ8_hugeLength_7cf53 57 = .ok (.ireturn, 1) := by decide +kernel
theorem dJ8_hugeLength_7cf53_58 : decode cJ8_hugeLength_7cf53 58 = .ok (.iload_n 2, 1) := by decide +kernel
theorem dJ8_hugeLength_7cf53_59 : decode cJ8_hugeLength_7cf53 59 = .ok (.ireturn, 1) := by decide +kernel
theorem dJ3_checkIndex_8e157_0 : decode cJ3_checkIndex_8e157 0 = .ok (.iload_n 0, 1) := by decide +kernel
theorem dJ3_checkIndex_8e157_1 : decode cJ3_checkIndex_8e157 1 = .ok (.ifCond .lt 8, 3) := by decide +kernel
theorem dJ3_checkIndex_8e157_4 : decode cJ3_checkIndex_8e157 4 = .ok (.iload_n 0, 1) := by decide +kernel
theorem dJ3_checkIndex_8e157_5 : decode cJ3_checkIndex_8e157 5 = .ok (.iload_n 1, 1) := by decide +kernel
theorem dJ3_checkIndex_8e157_6 : decode cJ3_checkIndex_8e157 6 = .ok (.if_icmp .lt 10, 3) := by decide +kernel
theorem dJ3_checkIndex_8e157_9 : decode cJ3_checkIndex_8e157 9 = .ok (.aload_n 2, 1) := by decide +kernel
theorem dJ3_checkIndex_8e157_10 : decode cJ3_checkIndex_8e157 10 = .ok (.iload_n 0, 1) := by decide +kernel
theorem dJ3_checkIndex_8e157_11 : decode cJ3_checkIndex_8e157 11 = .ok (.iload_n 1, 1) := by decide +kernel
theorem dJ3_checkIndex_8e157_12 : decode cJ3_checkIndex_8e157 12 = .ok (.invokestatic 95, 3) := by decide +kernel
theorem dJ3_checkIndex_8e157_15 : decode cJ3_checkIndex_8e157 15 = .ok (.athrow, 1) := by decide +kernel
theorem dJ3_checkIndex_8e157_16 : decode cJ3_checkIndex_8e157 16 = .ok (.iload_n 0, 1) := by decide +kernel
theorem dJ3_checkIndex_8e157_17 : decode cJ3_checkIndex_8e157 17 = .ok (.ireturn, 1) := by decide +kernel
theorem dL_cell_0 : decode cL_cell 0 = .ok (.iload_n 1, 1) := by decide +kernel
theorem dL_cell_1 : decode cL_cell 1 = .ok (.aload_n 0, 1) := by decide +kernel
theorem dL_cell_2 : decode cL_cell 2 = .ok (.arraylength, 1) := by decide +kernel
theorem dL_cell_3 : decode cL_cell 3 = .ok (.if_icmp .ge 9, 3) := by decide +kernel
theorem dL_cell_6 : decode cL_cell 6 = .ok (.aload_n 0, 1) := by decide +kernel
theorem dL_cell_7 : decode cL_cell 7 = .ok (.iload_n 1, 1) := by decide +kernel
theorem dL_cell_8 : decode cL_cell 8 = .ok (.iaload, 1) := by decide +kernel
theorem dL_cell_9 : decode cL_cell 9 = .ok (.goto 4, 3) := by decide +kernel
theorem dL_cell_12 : decode cL_cell 12 = .ok (.iconst 0, 1) := by decide +kernel
theorem dL_cell_13 : decode cL_cell 13 = .ok (.ireturn, 1) := by decide +kernel
theorem dL_law_0 : decode cL_law 0 = .ok (.new 7, 3) := by decide +kernel
theorem dL_law_3 : decode cL_law 3 = .ok (.dup, 1) := by decide +kernel
theorem dL_law_4 : decode cL_law 4 = .ok (.aload_n 0, 1) := by decide +kernel
theorem dL_law_5 : decode cL_law 5 = .ok (.iconst 0, 1) := by decide +kernel
theorem dL_law_6 : decode cL_law 6 = .ok (.invokestatic 9, 3) := by decide +kernel
theorem dL_law_9 : decode cL_law 9 = .ok (.aload_n 0, 1) := by decide +kernel
theorem dL_law_10 : decode cL_law 10 = .ok (.iconst 1, 1) := by decide +kernel
theorem dL_law_11 : decode cL_law 11 = .ok (.invokestatic 9, 3) := by decide +kernel
theorem dL_law_14 : decode cL_law 14 = .ok (.aload_n 0, 1) := by decide +kernel
theorem dL_law_15 : decode cL_law 15 = .ok (.iconst 2, 1) := by decide +kernel
theorem dL_law_16 : decode cL_law 16 = .ok (.invokestatic 9, 3) := by decide +kernel
theorem dL_law_19 : decode cL_law 19 = .ok (.invokespecial 15, 3) := by decide +kernel
theorem dL_law_22 : decode cL_law 22 = .ok (.astore_n 1, 1) := by decide +kernel
theorem dL_law_23 : decode cL_law 23 = .ok (.new 18, 3) := by decide +kernel
theorem dL_law_26 : decode cL_law 26 = .ok (.dup, 1) := by decide +kernel
theorem dL_law_27 : decode cL_law 27 = .ok (.aload_n 0, 1) := by decide +kernel
theorem dL_law_28 : decode cL_law 28 = .ok (.iconst 0, 1) := by decide +kernel
theorem dL_law_29 : decode cL_law 29 = .ok (.invokestatic 9, 3) := by decide +kernel
theorem dL_law_32 : decode cL_law 32 = .ok (.aload_n 0, 1) := by decide +kernel
theorem dL_law_33 : decode cL_law 33 = .ok (.iconst 1, 1) := by decide +kernel
theorem dL_law_34 : decode cL_law 34 = .ok (.invokestatic 9, 3) := by decide +kernel
theorem dL_law_37 : decode cL_law 37 = .ok (.aload_n 0, 1) := by decide +kernel
theorem dL_law_38 : decode cL_law 38 = .ok (.iconst 2, 1) := by decide +kernel
theorem dL_law_39 : decode cL_law 39 = .ok (.invokestatic 9, 3) := by decide +kernel
theorem dL_law_42 : decode cL_law 42 = .ok (.invokespecial 20, 3) := by decide +kernel
theorem dL_law_45 : decode cL_law 45 = .ok (.astore_n 2, 1) := by decide +kernel
theorem dL_law_46 : decode cL_law 46 = .ok (.iconst 3, 1) := by decide +kernel
theorem dL_law_47 : decode cL_law 47 = .ok (.istore_n 3, 1) := by decide +kernel
theorem dL_law_48 : decode cL_law 48 = .ok (.iload_n 3, 1) := by decide +kernel
theorem dL_law_49 : decode cL_law 49 = .ok (.aload_n 0, 1) := by decide +kernel
theorem dL_law_50 : decode cL_law 50 = .ok (.arraylength, 1) := by decide +kernel
theorem dL_law_51 : decode cL_law 51 = .ok (.bipush 6, 2) := by decide +kernel
theorem dL_law_53 : decode cL_law 53 = .ok (.isub, 1) := by decide +kernel
theorem dL_law_54 : decode cL_law 54 = .ok (.if_icmp .gt 472, 3) := by decide +kernel
theorem dL_law_57 : decode cL_law 57 = .ok (.aload_n 0, 1) := by decide +kernel
theorem dL_law_58 : decode cL_law 58 = .ok (.iload_n 3, 1) := by decide +kernel
theorem dL_law_59 : decode cL_law 59 = .ok (.iaload, 1) := by decide +kernel
theorem dL_law_60 : decode cL_law 60 = .ok (.bipush 15, 2) := by decide +kernel
theorem dL_law_62 : decode cL_law 62 = .ok (.iand, 1) := by decide +kernel
theorem dL_law_63 : decode cL_law 63 = .ok (.tableswitch 457 0 11 #[61, 114, 177, 200, 223, 246, 279, 312, 345, 378, 411, 434], 61) := by decide +kernel
theorem dL_law_124 : decode cL_law 124 = .ok (.aload_n 1, 1) := by decide +kernel
theorem dL_law_125 : decode cL_law 125 = .ok (.aload_n 0, 1) := by decide +kernel
theorem dL_law_126 : decode cL_law 126 = .ok (.iload_n 3, 1) := by decide +kernel
theorem dL_law_127 : decode cL_law 127 = .ok (.iconst 1, 1) := by decide +kernel
theorem dL_law_128 : decode cL_law 128 = .ok (.iadd, 1) := by decide +kernel
theorem dL_law_129 : decode cL_law 129 = .ok (.iaload, 1) := by decide +kernel
theorem dL_law_130 : decode cL_law 130 = .ok (.aload_n 0, 1) := by decide +kernel
theorem dL_law_131 : decode cL_law 131 = .ok (.iload_n 3, 1) := by decide +kernel
theorem dL_law_132 : decode cL_law 132 = .ok (.iconst 2, 1) := by decide +kernel
theorem dL_law_133 : decode cL_law 133 = .ok (.iadd, 1) := by decide +kernel
theorem dL_law_134 : decode cL_law 134 = .ok (.iaload, 1) := by decide +kernel
theorem dL_law_135 : decode cL_law 135 = .ok (.aload_n 0, 1) := by decide +kernel
theorem dL_law_136 : decode cL_law 136 = .ok (.iload_n 3, 1) := by decide +kernel
theorem dL_law_137 : decode cL_law 137 = .ok (.iconst 3, 1) := by decide +kernel
theorem dL_law_138 : decode cL_law 138 = .ok (.iadd, 1) := by decide +kernel
theorem dL_law_139 : decode cL_law 139 = .ok (.iaload, 1) := by decide +kernel
theorem dL_law_140 : decode cL_law 140 = .ok (.aload_n 0, 1) := by decide +kernel
theorem dL_law_141 : decode cL_law 141 = .ok (.iload_n 3, 1) := by decide +kernel
theorem dL_law_142 : decode cL_law 142 = .ok (.iconst 4, 1) := by decide +kernel
theorem dL_law_143 : decode cL_law 143 = .ok (.iadd, 1) := by decide +kernel
theorem dL_law_144 : decode cL_law 144 = .ok (.iaload, 1) := by decide +kernel
theorem dL_law_145 : decode cL_law 145 = .ok (.invokevirtual 21, 3) := by decide +kernel
theorem dL_law_148 : decode cL_law 148 = .ok (.aload_n 2, 1) := by decide +kernel
theorem dL_law_149 : decode cL_law 149 = .ok (.aload_n 0, 1) := by decide +kernel
theorem dL_law_150 : decode cL_law 150 = .ok (.iload_n 3, 1) := by decide +kernel
theorem dL_law_151 : decode cL_law 151 = .ok (.iconst 1, 1) := by decide +kernel
theorem dL_law_152 : decode cL_law 152 = .ok (.iadd, 1) := by decide +kernel
theorem dL_law_153 : decode cL_law 153 = .ok (.iaload, 1) := by decide +kernel
theorem dL_law_154 : decode cL_law 154 = .ok (.aload_n 0, 1) := by decide +kernel
theorem dL_law_155 : decode cL_law 155 = .ok (.iload_n 3, 1) := by decide +kernel
theorem dL_law_156 : decode cL_law 156 = .ok (.iconst 2, 1) := by decide +kernel
theorem dL_law_157 : decode cL_law 157 = .ok (.iadd, 1) := by decide +kernel
theorem dL_law_158 : decode cL_law 158 = .ok (.iaload, 1) := by decide +kernel
theorem dL_law_159 : decode cL_law 159 = .ok (.aload_n 0, 1) := by decide +kernel
theorem dL_law_160 : decode cL_law 160 = .ok (.iload_n 3, 1) := by decide +kernel
theorem dL_law_161 : decode cL_law 161 = .ok (.iconst 3, 1) := by decide +kernel
theorem dL_law_162 : decode cL_law 162 = .ok (.iadd, 1) := by decide +kernel
theorem dL_law_163 : decode cL_law 163 = .ok (.iaload, 1) := by decide +kernel
theorem dL_law_164 : decode cL_law 164 = .ok (.aload_n 0, 1) := by decide +kernel
theorem dL_law_165 : decode cL_law 165 = .ok (.iload_n 3, 1) := by decide +kernel
theorem dL_law_166 : decode cL_law 166 = .ok (.iconst 4, 1) := by decide +kernel
theorem dL_law_167 : decode cL_law 167 = .ok (.iadd, 1) := by decide +kernel
theorem dL_law_168 : decode cL_law 168 = .ok (.iaload, 1) := by decide +kernel
theorem dL_law_169 : decode cL_law 169 = .ok (.invokevirtual 25, 3) := by decide +kernel
theorem dL_law_172 : decode cL_law 172 = .ok (.if_icmp .eq 348, 3) := by decide +kernel
theorem dL_law_175 : decode cL_law 175 = .ok (.iconst 0, 1) := by decide +kernel
theorem dL_law_176 : decode cL_law 176 = .ok (.ireturn, 1) := by decide +kernel
theorem dL_law_177 : decode cL_law 177 = .ok (.aload_n 1, 1) := by decide +kernel
theorem dL_law_178 : decode cL_law 178 = .ok (.aload_n 0, 1) := by decide +kernel
theorem dL_law_179 : decode cL_law 179 = .ok (.iload_n 3, 1) := by decide +kernel
theorem dL_law_180 : decode cL_law 180 = .ok (.iconst 1, 1) := by decide +kernel
theorem dL_law_181 : decode cL_law 181 = .ok (.iadd, 1) := by decide +kernel
theorem dL_law_182 : decode cL_law 182 = .ok (.iaload, 1) := by decide +kernel
theorem dL_law_183 : decode cL_law 183 = .ok (.aload_n 0, 1) := by decide +kernel
theorem dL_law_184 : decode cL_law 184 = .ok (.iload_n 3, 1) := by decide +kernel
theorem dL_law_185 : decode cL_law 185 = .ok (.iconst 2, 1) := by decide +kernel
theorem dL_law_186 : decode cL_law 186 = .ok (.iadd, 1) := by decide +kernel
theorem dL_law_187 : decode cL_law 187 = .ok (.iaload, 1) := by decide +kernel
theorem dL_law_188 : decode cL_law 188 = .ok (.aload_n 0, 1) := by decide +kernel
theorem dL_law_189 : decode cL_law 189 = .ok (.iload_n 3, 1) := by decide +kernel
theorem dL_law_190 : decode cL_law 190 = .ok (.iconst 3, 1) := by decide +kernel
theorem dL_law_191 : decode cL_law 191 = .ok (.iadd, 1) := by decide +kernel
theorem dL_law_192 : decode cL_law 192 = .ok (.iaload, 1) := by decide +kernel
theorem dL_law_193 : decode cL_law 193 = .ok (.aload_n 0, 1) := by decide +kernel
theorem dL_law_194 : decode cL_law 194 = .ok (.iload_n 3, 1) := by decide +kernel
theorem dL_law_195 : decode cL_law 195 = .ok (.iconst 4, 1) := by decide +kernel
theorem dL_law_196 : decode cL_law 196 = .ok (.iadd, 1) := by decide +kernel
theorem dL_law_197 : decode cL_law 197 = .ok (.iaload, 1) := by decide +kernel
theorem dL_law_198 : decode cL_law 198 = .ok (.aload_n 0, 1) := by decide +kernel
theorem dL_law_199 : decode cL_law 199 = .ok (.iload_n 3, 1) := by decide +kernel
theorem dL_law_200 : decode cL_law 200 = .ok (.iconst 5, 1) := by decide +kernel
theorem dL_law_201 : decode cL_law 201 = .ok (.iadd, 1) := by decide +kernel
theorem dL_law_202 : decode cL_law 202 = .ok (.iaload, 1) := by decide +kernel
theorem dL_law_203 : decode cL_law 203 = .ok (.invokevirtual 26, 3) := by decide +kernel
theorem dL_law_206 : decode cL_law 206 = .ok (.aload_n 2, 1) := by decide +kernel
theorem dL_law_207 : decode cL_law 207 = .ok (.aload_n 0, 1) := by decide +kernel
theorem dL_law_208 : decode cL_law 208 = .ok (.iload_n 3, 1) := by decide +kernel
theorem dL_law_209 : decode cL_law 209 = .ok (.iconst 1, 1) := by decide +kernel
theorem dL_law_210 : decode cL_law 210 = .ok (.iadd, 1) := by decide +kernel
theorem dL_law_211 : decode cL_law 211 = .ok (.iaload, 1) := by decide +kernel
theorem dL_law_212 : decode cL_law 212 = .ok (.aload_n 0, 1) := by decide +kernel
theorem dL_law_213 : decode cL_law 213 = .ok (.iload_n 3, 1) := by decide +kernel
theorem dL_law_214 : decode cL_law 214 = .ok (.iconst 2, 1) := by decide +kernel
theorem dL_law_215 : decode cL_law 215 = .ok (.iadd, 1) := by decide +kernel
theorem dL_law_216 : decode cL_law 216 = .ok (.iaload, 1) := by decide +kernel
theorem dL_law_217 : decode cL_law 217 = .ok (.aload_n 0, 1) := by decide +kernel
theorem dL_law_218 : decode cL_law 218 = .ok (.iload_n 3, 1) := by decide +kernel
theorem dL_law_219 : decode cL_law 219 = .ok (.iconst 3, 1) := by decide +kernel
theorem dL_law_220 : decode cL_law 220 = .ok (.iadd, 1) := by decide +kernel
theorem dL_law_221 : decode cL_law 221 = .ok (.iaload, 1) := by decide +kernel
theorem dL_law_222 : decode cL_law 222 = .ok (.aload_n 0, 1) := by decide +kernel
theorem dL_law_223 : decode cL_law 223 = .ok (.iload_n 3, 1) := by decide +kernel
theorem dL_law_224 : decode cL_law 224 = .ok (.iconst 4, 1) := by decide +kernel
theorem dL_law_225 : decode cL_law 225 = .ok (.iadd, 1) := by decide +kernel
theorem dL_law_226 : decode cL_law 226 = .ok (.iaload, 1) := by decide +kernel
theorem dL_law_227 : decode cL_law 227 = .ok (.aload_n 0, 1) := by decide +kernel
theorem dL_law_228 : decode cL_law 228 = .ok (.iload_n 3, 1) := by decide +kernel
theorem dL_law_229 : decode cL_law 229 = .ok (.iconst 5, 1) := by decide +kernel
theorem dL_law_230 : decode cL_law 230 = .ok (.iadd, 1) := by decide +kernel
theorem dL_law_231 : decode cL_law 231 = .ok (.iaload, 1) := by decide +kernel
theorem dL_law_232 : decode cL_law 232 = .ok (.invokevirtual 30, 3) := by decide +kernel
theorem dL_law_235 : decode cL_law 235 = .ok (.if_icmp .eq 285, 3) := by decide +kernel
theorem dL_law_238 : decode cL_law 238 = .ok (.iconst 0, 1) := by decide +kernel
theorem dL_law_239 : decode cL_law 239 = .ok (.ireturn, 1) := by decide +kernel
theorem dL_law_240 : decode cL_law 240 = .ok (.aload_n 1, 1) := by decide +kernel
theorem dL_law_241 : decode cL_law 241 = .ok (.aload_n 0, 1) := by decide +kernel
theorem dL_law_242 : decode cL_law 242 = .ok (.iload_n 3, 1) := by decide +kernel
theorem dL_law_243 : decode cL_law 243 = .ok (.iconst 1, 1) := by decide +kernel
theorem dL_law_244 : decode cL_law 244 = .ok (.iadd, 1) := by decide +kernel
theorem dL_law_245 : decode cL_law 245 = .ok (.iaload, 1) := by decide +kernel
theorem dL_law_246 : decode cL_law 246 = .ok (.invokevirtual 31, 3) := by decide +kernel
theorem dL_law_249 : decode cL_law 249 = .ok (.aload_n 2, 1) := by decide +kernel
theorem dL_law_250 : decode cL_law 250 = .ok (.aload_n 0, 1) := by decide +kernel
theorem dL_law_251 : decode cL_law 251 = .ok (.iload_n 3, 1) := by decide +kernel
theorem dL_law_252 : decode cL_law 252 = .ok (.iconst 1, 1) := by decide +kernel
theorem dL_law_253 : decode cL_law 253 = .ok (.iadd, 1) := by decide +kernel
theorem dL_law_254 : decode cL_law 254 = .ok (.iaload, 1) := by decide +kernel
theorem dL_law_255 : decode cL_law 255 = .ok (.invokevirtual 35, 3) := by decide +kernel
theorem dL_law_258 : decode cL_law 258 = .ok (.if_icmp .eq 262, 3) := by decide +kernel
theorem dL_law_261 : decode cL_law 261 = .ok (.iconst 0, 1) := by decide +kernel
theorem dL_law_262 : decode cL_law 262 = .ok (.ireturn, 1) := by decide +kernel
theorem dL_law_263 : decode cL_law 263 = .ok (.aload_n 1, 1) := by decide +kernel
theorem dL_law_264 : decode cL_law 264 = .ok (.aload_n 0, 1) := by decide +kernel
theorem dL_law_265 : decode cL_law 265 = .ok (.iload_n 3, 1) := by decide +kernel
theorem dL_law_266 : decode cL_law 266 = .ok (.iconst 1, 1) := by decide +kernel
theorem dL_law_267 : decode cL_law 267 = .ok (.iadd, 1) := by decide +kernel
theorem dL_law_268 : decode cL_law 268 = .ok (.iaload, 1) := by decide +kernel
theorem dL_law_269 : decode cL_law 269 = .ok (.invokevirtual 36, 3) := by decide +kernel
theorem dL_law_272 : decode cL_law 272 = .ok (.aload_n 2, 1) := by decide +kernel
theorem dL_law_273 : decode cL_law 273 = .ok (.aload_n 0, 1) := by decide +kernel
theorem dL_law_274 : decode cL_law 274 = .ok (.iload_n 3, 1) := by decide +kernel
theorem dL_law_275 : decode cL_law 275 = .ok (.iconst 1, 1) := by decide +kernel
theorem dL_law_276 : decode cL_law 276 = .ok (.iadd, 1) := by decide +kernel
theorem dL_law_277 : decode cL_law 277 = .ok (.iaload, 1) := by decide +kernel
theorem dL_law_278 : decode cL_law 278 = .ok (.invokevirtual 40, 3) := by decide +kernel
theorem dL_law_281 : decode cL_law 281 = .ok (.if_icmp .eq 239, 3) := by decide +kernel
theorem dL_law_284 : decode cL_law 284 = .ok (.iconst 0, 1) := by decide +kernel
theorem dL_law_285 : decode cL_law 285 = .ok (.ireturn, 1) := by decide +kernel
theorem dL_law_286 : decode cL_law 286 = .ok (.aload_n 1, 1) := by decide +kernel
theorem dL_law_287 : decode cL_law 287 = .ok (.aload_n 0, 1) := by decide +kernel
theorem dL_law_288 : decode cL_law 288 = .ok (.iload_n 3, 1) := by decide +kernel
theorem dL_law_289 : decode cL_law 289 = .ok (.iconst 1, 1) := by decide +kernel
theorem dL_law_290 : decode cL_law 290 = .ok (.iadd, 1) := by decide +kernel
theorem dL_law_291 : decode cL_law 291 = .ok (.iaload, 1) := by decide +kernel
theorem dL_law_292 : decode cL_law 292 = .ok (.invokevirtual 41, 3) := by decide +kernel
theorem dL_law_295 : decode cL_law 295 = .ok (.aload_n 2, 1) := by decide +kernel
theorem dL_law_296 : decode cL_law 296 = .ok (.aload_n 0, 1) := by decide +kernel
theorem dL_law_297 : decode cL_law 297 = .ok (.iload_n 3, 1) := by decide +kernel
theorem dL_law_298 : decode cL_law 298 = .ok (.iconst 1, 1) := by decide +kernel
theorem dL_law_299 : decode cL_law 299 = .ok (.iadd, 1) := by decide +kernel
theorem dL_law_300 : decode cL_law 300 = .ok (.iaload, 1) := by decide +kernel
theorem dL_law_301 : decode cL_law 301 = .ok (.invokevirtual 44, 3) := by decide +kernel
theorem dL_law_304 : decode cL_law 304 = .ok (.if_icmp .eq 216, 3) := by decide +kernel
theorem dL_law_307 : decode cL_law 307 = .ok (.iconst 0, 1) := by decide +kernel
theorem dL_law_308 : decode cL_law 308 = .ok (.ireturn, 1) := by decide +kernel
theorem dL_law_309 : decode cL_law 309 = .ok (.aload_n 1, 1) := by decide +kernel
theorem dL_law_310 : decode cL_law 310 = .ok (.aload_n 0, 1) := by decide +kernel
theorem dL_law_311 : decode cL_law 311 = .ok (.iload_n 3, 1) := by decide +kernel
theorem dL_law_312 : decode cL_law 312 = .ok (.iconst 1, 1) := by decide +kernel
theorem dL_law_313 : decode cL_law 313 = .ok (.iadd, 1) := by decide +kernel
theorem dL_law_314 : decode cL_law 314 = .ok (.iaload, 1) := by decide +kernel
theorem dL_law_315 : decode cL_law 315 = .ok (.aload_n 0, 1) := by decide +kernel
theorem dL_law_316 : decode cL_law 316 = .ok (.iload_n 3, 1) := by decide +kernel
theorem dL_law_317 : decode cL_law 317 = .ok (.iconst 2, 1) := by decide +kernel
theorem dL_law_318 : decode cL_law 318 = .ok (.iadd, 1) := by decide +kernel
theorem dL_law_319 : decode cL_law 319 = .ok (.iaload, 1) := by decide +kernel
theorem dL_law_320 : decode cL_law 320 = .ok (.invokevirtual 45, 3) := by decide +kernel
theorem dL_law_323 : decode cL_law 323 = .ok (.aload_n 2, 1) := by decide +kernel
theorem dL_law_324 : decode cL_law 324 = .ok (.aload_n 0, 1) := by decide +kernel
theorem dL_law_325 : decode cL_law 325 = .ok (.iload_n 3, 1) := by decide +kernel
theorem dL_law_326 : decode cL_law 326 = .ok (.iconst 1, 1) := by decide +kernel
theorem dL_law_327 : decode cL_law 327 = .ok (.iadd, 1) := by decide +kernel
theorem dL_law_328 : decode cL_law 328 = .ok (.iaload, 1) := by decide +kernel
theorem dL_law_329 : decode cL_law 329 = .ok (.aload_n 0, 1) := by decide +kernel
theorem dL_law_330 : decode cL_law 330 = .ok (.iload_n 3, 1) := by decide +kernel
theorem dL_law_331 : decode cL_law 331 = .ok (.iconst 2, 1) := by decide +kernel
theorem dL_law_332 : decode cL_law 332 = .ok (.iadd, 1) := by decide +kernel
theorem dL_law_333 : decode cL_law 333 = .ok (.iaload, 1) := by decide +kernel
theorem dL_law_334 : decode cL_law 334 = .ok (.invokevirtual 49, 3) := by decide +kernel
theorem dL_law_337 : decode cL_law 337 = .ok (.if_icmp .eq 183, 3) := by decide +kernel
theorem dL_law_340 : decode cL_law 340 = .ok (.iconst 0, 1) := by decide +kernel
theorem dL_law_341 : decode cL_law 341 = .ok (.ireturn, 1) := by decide +kernel
theorem dL_law_342 : decode cL_law 342 = .ok (.aload_n 1, 1) := by decide +kernel
theorem dL_law_343 : decode cL_law 343 = .ok (.aload_n 0, 1) := by decide +kernel
theorem dL_law_344 : decode cL_law 344 = .ok (.iload_n 3, 1) := by decide +kernel
theorem dL_law_345 : decode cL_law 345 = .ok (.iconst 1, 1) := by decide +kernel
theorem dL_law_346 : decode cL_law 346 = .ok (.iadd, 1) := by decide +kernel
theorem dL_law_347 : decode cL_law 347 = .ok (.iaload, 1) := by decide +kernel
theorem dL_law_348 : decode cL_law 348 = .ok (.aload_n 0, 1) := by decide +kernel
theorem dL_law_349 : decode cL_law 349 = .ok (.iload_n 3, 1) := by decide +kernel
theorem dL_law_350 : decode cL_law 350 = .ok (.iconst 2, 1) := by decide +kernel
theorem dL_law_351 : decode cL_law 351 = .ok (.iadd, 1) := by decide +kernel
theorem dL_law_352 : decode cL_law 352 = .ok (.iaload, 1) := by decide +kernel
theorem dL_law_353 : decode cL_law 353 = .ok (.invokevirtual 50, 3) := by decide +kernel
theorem dL_law_356 : decode cL_law 356 = .ok (.aload_n 2, 1) := by decide +kernel
theorem dL_law_357 : decode cL_law 357 = .ok (.aload_n 0, 1) := by decide +kernel
theorem dL_law_358 : decode cL_law 358 = .ok (.iload_n 3, 1) := by decide +kernel
theorem dL_law_359 : decode cL_law 359 = .ok (.iconst 1, 1) := by decide +kernel
theorem dL_law_360 : decode cL_law 360 = .ok (.iadd, 1) := by decide +kernel
theorem dL_law_361 : decode cL_law 361 = .ok (.iaload, 1) := by decide +kernel
theorem dL_law_362 : decode cL_law 362 = .ok (.aload_n 0, 1) := by decide +kernel
theorem dL_law_363 : decode cL_law 363 = .ok (.iload_n 3, 1) := by decide +kernel
theorem dL_law_364 : decode cL_law 364 = .ok (.iconst 2, 1) := by decide +kernel
theorem dL_law_365 : decode cL_law 365 = .ok (.iadd, 1) := by decide +kernel
theorem dL_law_366 : decode cL_law 366 = .ok (.iaload, 1) := by decide +kernel
theorem dL_law_367 : decode cL_law 367 = .ok (.invokevirtual 53, 3) := by decide +kernel
theorem dL_law_370 : decode cL_law 370 = .ok (.if_icmp .eq 150, 3) := by decide +kernel
theorem dL_law_373 : decode cL_law 373 = .ok (.iconst 0, 1) := by decide +kernel
theorem dL_law_374 : decode cL_law 374 = .ok (.ireturn, 1) := by decide +kernel
theorem dL_law_375 : decode cL_law 375 = .ok (.aload_n 1, 1) := by decide +kernel
theorem dL_law_376 : decode cL_law 376 = .ok (.aload_n 0, 1) := by decide +kernel
theorem dL_law_377 : decode cL_law 377 = .ok (.iload_n 3, 1) := by decide +kernel
theorem dL_law_378 : decode cL_law 378 = .ok (.iconst 1, 1) := by decide +kernel
theorem dL_law_379 : decode cL_law 379 = .ok (.iadd, 1) := by decide +kernel
theorem dL_law_380 : decode cL_law 380 = .ok (.iaload, 1) := by decide +kernel
theorem dL_law_381 : decode cL_law 381 = .ok (.aload_n 0, 1) := by decide +kernel
theorem dL_law_382 : decode cL_law 382 = .ok (.iload_n 3, 1) := by decide +kernel
theorem dL_law_383 : decode cL_law 383 = .ok (.iconst 2, 1) := by decide +kernel
theorem dL_law_384 : decode cL_law 384 = .ok (.iadd, 1) := by decide +kernel
theorem dL_law_385 : decode cL_law 385 = .ok (.iaload, 1) := by decide +kernel
theorem dL_law_386 : decode cL_law 386 = .ok (.invokevirtual 54, 3) := by decide +kernel
theorem dL_law_389 : decode cL_law 389 = .ok (.aload_n 2, 1) := by decide +kernel
theorem dL_law_390 : decode cL_law 390 = .ok (.aload_n 0, 1) := by decide +kernel
theorem dL_law_391 : decode cL_law 391 = .ok (.iload_n 3, 1) := by decide +kernel
theorem dL_law_392 : decode cL_law 392 = .ok (.iconst 1, 1) := by decide +kernel
theorem dL_law_393 : decode cL_law 393 = .ok (.iadd, 1) := by decide +kernel
theorem dL_law_394 : decode cL_law 394 = .ok (.iaload, 1) := by decide +kernel
theorem dL_law_395 : decode cL_law 395 = .ok (.aload_n 0, 1) := by decide +kernel
theorem dL_law_396 : decode cL_law 396 = .ok (.iload_n 3, 1) := by decide +kernel
theorem dL_law_397 : decode cL_law 397 = .ok (.iconst 2, 1) := by decide +kernel
theorem dL_law_398 : decode cL_law 398 = .ok (.iadd, 1) := by decide +kernel
theorem dL_law_399 : decode cL_law 399 = .ok (.iaload, 1) := by decide +kernel
theorem dL_law_400 : decode cL_law 400 = .ok (.invokevirtual 57, 3) := by decide +kernel
theorem dL_law_403 : decode cL_law 403 = .ok (.if_icmp .eq 117, 3) := by decide +kernel
theorem dL_law_406 : decode cL_law 406 = .ok (.iconst 0, 1) := by decide +kernel
theorem dL_law_407 : decode cL_law 407 = .ok (.ireturn, 1) := by decide +kernel
theorem dL_law_408 : decode cL_law 408 = .ok (.aload_n 1, 1) := by decide +kernel
theorem dL_law_409 : decode cL_law 409 = .ok (.aload_n 0, 1) := by decide +kernel
theorem dL_law_410 : decode cL_law 410 = .ok (.iload_n 3, 1) := by decide +kernel
theorem dL_law_411 : decode cL_law 411 = .ok (.iconst 1, 1) := by decide +kernel
theorem dL_law_412 : decode cL_law 412 = .ok (.iadd, 1) := by decide +kernel
theorem dL_law_413 : decode cL_law 413 = .ok (.iaload, 1) := by decide +kernel
theorem dL_law_414 : decode cL_law 414 = .ok (.aload_n 0, 1) := by decide +kernel
theorem dL_law_415 : decode cL_law 415 = .ok (.iload_n 3, 1) := by decide +kernel
theorem dL_law_416 : decode cL_law 416 = .ok (.iconst 2, 1) := by decide +kernel
theorem dL_law_417 : decode cL_law 417 = .ok (.iadd, 1) := by decide +kernel
theorem dL_law_418 : decode cL_law 418 = .ok (.iaload, 1) := by decide +kernel
theorem dL_law_419 : decode cL_law 419 = .ok (.invokevirtual 58, 3) := by decide +kernel
theorem dL_law_422 : decode cL_law 422 = .ok (.aload_n 2, 1) := by decide +kernel
theorem dL_law_423 : decode cL_law 423 = .ok (.aload_n 0, 1) := by decide +kernel
theorem dL_law_424 : decode cL_law 424 = .ok (.iload_n 3, 1) := by decide +kernel
theorem dL_law_425 : decode cL_law 425 = .ok (.iconst 1, 1) := by decide +kernel
theorem dL_law_426 : decode cL_law 426 = .ok (.iadd, 1) := by decide +kernel
theorem dL_law_427 : decode cL_law 427 = .ok (.iaload, 1) := by decide +kernel
theorem dL_law_428 : decode cL_law 428 = .ok (.aload_n 0, 1) := by decide +kernel
theorem dL_law_429 : decode cL_law 429 = .ok (.iload_n 3, 1) := by decide +kernel
theorem dL_law_430 : decode cL_law 430 = .ok (.iconst 2, 1) := by decide +kernel
theorem dL_law_431 : decode cL_law 431 = .ok (.iadd, 1) := by decide +kernel
theorem dL_law_432 : decode cL_law 432 = .ok (.iaload, 1) := by decide +kernel
theorem dL_law_433 : decode cL_law 433 = .ok (.invokevirtual 61, 3) := by decide +kernel
theorem dL_law_436 : decode cL_law 436 = .ok (.if_icmp .eq 84, 3) := by decide +kernel
theorem dL_law_439 : decode cL_law 439 = .ok (.iconst 0, 1) := by decide +kernel
theorem dL_law_440 : decode cL_law 440 = .ok (.ireturn, 1) := by decide +kernel
theorem dL_law_441 : decode cL_law 441 = .ok (.aload_n 1, 1) := by decide +kernel
theorem dL_law_442 : decode cL_law 442 = .ok (.aload_n 0, 1) := by decide +kernel
theorem dL_law_443 : decode cL_law 443 = .ok (.iload_n 3, 1) := by decide +kernel
theorem dL_law_444 : decode cL_law 444 = .ok (.iconst 1, 1) := by decide +kernel
theorem dL_law_445 : decode cL_law 445 = .ok (.iadd, 1) := by decide +kernel
theorem dL_law_446 : decode cL_law 446 = .ok (.iaload, 1) := by decide +kernel
theorem dL_law_447 : decode cL_law 447 = .ok (.aload_n 0, 1) := by decide +kernel
theorem dL_law_448 : decode cL_law 448 = .ok (.iload_n 3, 1) := by decide +kernel
theorem dL_law_449 : decode cL_law 449 = .ok (.iconst 2, 1) := by decide +kernel
theorem dL_law_450 : decode cL_law 450 = .ok (.iadd, 1) := by decide +kernel
theorem dL_law_451 : decode cL_law 451 = .ok (.iaload, 1) := by decide +kernel
theorem dL_law_452 : decode cL_law 452 = .ok (.invokevirtual 62, 3) := by decide +kernel
theorem dL_law_455 : decode cL_law 455 = .ok (.aload_n 2, 1) := by decide +kernel
theorem dL_law_456 : decode cL_law 456 = .ok (.aload_n 0, 1) := by decide +kernel
theorem dL_law_457 : decode cL_law 457 = .ok (.iload_n 3, 1) := by decide +kernel
theorem dL_law_458 : decode cL_law 458 = .ok (.iconst 1, 1) := by decide +kernel
theorem dL_law_459 : decode cL_law 459 = .ok (.iadd, 1) := by decide +kernel
theorem dL_law_460 : decode cL_law 460 = .ok (.iaload, 1) := by decide +kernel
theorem dL_law_461 : decode cL_law 461 = .ok (.aload_n 0, 1) := by decide +kernel
theorem dL_law_462 : decode cL_law 462 = .ok (.iload_n 3, 1) := by decide +kernel
theorem dL_law_463 : decode cL_law 463 = .ok (.iconst 2, 1) := by decide +kernel
theorem dL_law_464 : decode cL_law 464 = .ok (.iadd, 1) := by decide +kernel
theorem dL_law_465 : decode cL_law 465 = .ok (.iaload, 1) := by decide +kernel
theorem dL_law_466 : decode cL_law 466 = .ok (.invokevirtual 65, 3) := by decide +kernel
theorem dL_law_469 : decode cL_law 469 = .ok (.if_icmp .eq 51, 3) := by decide +kernel
theorem dL_law_472 : decode cL_law 472 = .ok (.iconst 0, 1) := by decide +kernel
theorem dL_law_473 : decode cL_law 473 = .ok (.ireturn, 1) := by decide +kernel
theorem dL_law_474 : decode cL_law 474 = .ok (.aload_n 1, 1) := by decide +kernel
theorem dL_law_475 : decode cL_law 475 = .ok (.aload_n 0, 1) := by decide +kernel
theorem dL_law_476 : decode cL_law 476 = .ok (.iload_n 3, 1) := by decide +kernel
theorem dL_law_477 : decode cL_law 477 = .ok (.iconst 1, 1) := by decide +kernel
theorem dL_law_478 : decode cL_law 478 = .ok (.iadd, 1) := by decide +kernel
theorem dL_law_479 : decode cL_law 479 = .ok (.iaload, 1) := by decide +kernel
theorem dL_law_480 : decode cL_law 480 = .ok (.invokevirtual 66, 3) := by decide +kernel
theorem dL_law_483 : decode cL_law 483 = .ok (.aload_n 2, 1) := by decide +kernel
theorem dL_law_484 : decode cL_law 484 = .ok (.aload_n 0, 1) := by decide +kernel
theorem dL_law_485 : decode cL_law 485 = .ok (.iload_n 3, 1) := by decide +kernel
theorem dL_law_486 : decode cL_law 486 = .ok (.iconst 1, 1) := by decide +kernel
theorem dL_law_487 : decode cL_law 487 = .ok (.iadd, 1) := by decide +kernel
theorem dL_law_488 : decode cL_law 488 = .ok (.iaload, 1) := by decide +kernel
theorem dL_law_489 : decode cL_law 489 = .ok (.invokevirtual 69, 3) := by decide +kernel
theorem dL_law_492 : decode cL_law 492 = .ok (.if_icmp .eq 28, 3) := by decide +kernel
theorem dL_law_495 : decode cL_law 495 = .ok (.iconst 0, 1) := by decide +kernel
theorem dL_law_496 : decode cL_law 496 = .ok (.ireturn, 1) := by decide +kernel
theorem dL_law_497 : decode cL_law 497 = .ok (.aload_n 1, 1) := by decide +kernel
theorem dL_law_498 : decode cL_law 498 = .ok (.aload_n 0, 1) := by decide +kernel
theorem dL_law_499 : decode cL_law 499 = .ok (.iload_n 3, 1) := by decide +kernel
theorem dL_law_500 : decode cL_law 500 = .ok (.iconst 1, 1) := by decide +kernel
theorem dL_law_501 : decode cL_law 501 = .ok (.iadd, 1) := by decide +kernel
theorem dL_law_502 : decode cL_law 502 = .ok (.iaload, 1) := by decide +kernel
theorem dL_law_503 : decode cL_law 503 = .ok (.invokevirtual 70, 3) := by decide +kernel
theorem dL_law_506 : decode cL_law 506 = .ok (.aload_n 2, 1) := by decide +kernel
theorem dL_law_507 : decode cL_law 507 = .ok (.aload_n 0, 1) := by decide +kernel
theorem dL_law_508 : decode cL_law 508 = .ok (.iload_n 3, 1) := by decide +kernel
theorem dL_law_509 : decode cL_law 509 = .ok (.iconst 1, 1) := by decide +kernel
theorem dL_law_510 : decode cL_law 510 = .ok (.iadd, 1) := by decide +kernel
theorem dL_law_511 : decode cL_law 511 = .ok (.iaload, 1) := by decide +kernel
theorem dL_law_512 : decode cL_law 512 = .ok (.invokevirtual 73, 3) := by decide +kernel
theorem dL_law_515 : decode cL_law 515 = .ok (.if_icmp .eq 5, 3) := by decide +kernel
theorem dL_law_518 : decode cL_law 518 = .ok (.iconst 0, 1) := by decide +kernel
theorem dL_law_519 : decode cL_law 519 = .ok (.ireturn, 1) := by decide +kernel
theorem dL_law_520 : decode cL_law 520 = .ok (.iinc 3 6, 3) := by decide +kernel
theorem dL_law_523 : decode cL_law 523 = .ok (.goto (-475), 3) := by decide +kernel
theorem dL_law_526 : decode cL_law 526 = .ok (.iconst 1, 1) := by decide +kernel
theorem dL_law_527 : decode cL_law 527 = .ok (.ireturn, 1) := by decide +kernel
