theorem dX5_putOnDrum_17 : decode cX5_putOnDrum 17 = .ok (.iload_n 1, 1) := by decide +kernel
theorem dX5_putOnDrum_18 : decode cX5_putOnDrum 18 = .ok (.iload_n 2, 1) := by decide +kernel
theorem dX5_putOnDrum_19 : decode cX5_putOnDrum 19 = .ok (.iastore, 1) := by decide +kernel
theorem dX5_putOnDrum_20 : decode cX5_putOnDrum 20 = .ok (.return_, 1) := by decide +kernel
theorem dX5_held_0 : decode cX5_held 0 = .ok (.iload_n 1, 1) := by decide +kernel
theorem dX5_held_1 : decode cX5_held 1 = .ok (.ifCond .lt 21, 3) := by decide +kernel
theorem dX5_held_4 : decode cX5_held 4 = .ok (.iload_n 1, 1) := by decide +kernel
theorem dX5_held_5 : decode cX5_held 5 = .ok (.aload_n 0, 1) := by decide +kernel
theorem dX5_held_6 : decode cX5_held 6 = .ok (.getfield 30, 3) := by decide +kernel
theorem dX5_held_9 : decode cX5_held 9 = .ok (.arraylength, 1) := by decide +kernel
theorem dX5_held_10 : decode cX5_held 10 = .ok (.if_icmp .ge 12, 3) := by decide +kernel
theorem dX5_held_13 : decode cX5_held 13 = .ok (.aload_n 0, 1) := by decide +kernel
theorem dX5_held_14 : decode cX5_held 14 = .ok (.getfield 30, 3) := by decide +kernel
theorem dX5_held_17 : decode cX5_held 17 = .ok (.iload_n 1, 1) := by decide +kernel
theorem dX5_held_18 : decode cX5_held 18 = .ok (.iaload, 1) := by decide +kernel
theorem dX5_held_19 : decode cX5_held 19 = .ok (.goto 4, 3) := by decide +kernel
theorem dX5_held_22 : decode cX5_held 22 = .ok (.iconst 0, 1) := by decide +kernel
theorem dX5_held_23 : decode cX5_held 23 = .ok (.ireturn, 1) := by decide +kernel
theorem dX5_claimed_0 : decode cX5_claimed 0 = .ok (.iload_n 1, 1) := by decide +kernel
theorem dX5_claimed_1 : decode cX5_claimed 1 = .ok (.ifCond .lt 21, 3) := by decide +kernel
theorem dX5_claimed_4 : decode cX5_claimed 4 = .ok (.iload_n 1, 1) := by decide +kernel
theorem dX5_claimed_5 : decode cX5_claimed 5 = .ok (.aload_n 0, 1) := by decide +kernel
theorem dX5_claimed_6 : decode cX5_claimed 6 = .ok (.getfield 27, 3) := by decide +kernel
theorem dX5_claimed_9 : decode cX5_claimed 9 = .ok (.arraylength, 1) := by decide +kernel
theorem dX5_claimed_10 : decode cX5_claimed 10 = .ok (.if_icmp .ge 12, 3) := by decide +kernel
theorem dX5_claimed_13 : decode cX5_claimed 13 = .ok (.aload_n 0, 1) := by decide +kernel
theorem dX5_claimed_14 : decode cX5_claimed 14 = .ok (.getfield 27, 3) := by decide +kernel
theorem dX5_claimed_17 : decode cX5_claimed 17 = .ok (.iload_n 1, 1) := by decide +kernel
theorem dX5_claimed_18 : decode cX5_claimed 18 = .ok (.iaload, 1) := by decide +kernel
theorem dX5_claimed_19 : decode cX5_claimed 19 = .ok (.goto 4, 3) := by decide +kernel
theorem dX5_claimed_22 : decode cX5_claimed 22 = .ok (.iconst 0, 1) := by decide +kernel
theorem dX5_claimed_23 : decode cX5_claimed 23 = .ok (.ireturn, 1) := by decide +kernel
theorem dX5_hasCard_0 : decode cX5_hasCard 0 = .ok (.aload_n 0, 1) := by decide +kernel
theorem dX5_hasCard_1 : decode cX5_hasCard 1 = .ok (.getfield 58, 3) := by decide +kernel
theorem dX5_hasCard_4 : decode cX5_hasCard 4 = .ok (.aload_n 0, 1) := by decide +kernel
theorem dX5_hasCard_5 : decode cX5_hasCard 5 = .ok (.getfield 82, 3) := by decide +kernel
theorem dX5_hasCard_8 : decode cX5_hasCard 8 = .ok (.if_icmp .ge 7, 3) := by decide +kernel
theorem dX5_hasCard_11 : decode cX5_hasCard 11 = .ok (.iconst 1, 1) := by decide +kernel
theorem dX5_hasCard_12 : decode cX5_hasCard 12 = .ok (.goto 4, 3) := by decide +kernel
theorem dX5_hasCard_15 : decode cX5_hasCard 15 = .ok (.iconst 0, 1) := by decide +kernel
theorem dX5_hasCard_16 : decode cX5_hasCard 16 = .ok (.ireturn, 1) := by decide +kernel
theorem dX5_takeCard_0 : decode cX5_takeCard 0 = .ok (.aload_n 0, 1) := by decide +kernel
theorem dX5_takeCard_1 : decode cX5_takeCard 1 = .ok (.getfield 58, 3) := by decide +kernel
theorem dX5_takeCard_4 : decode cX5_takeCard 4 = .ok (.ifCond .lt 26, 3) := by decide +kernel
theorem dX5_takeCard_7 : decode cX5_takeCard 7 = .ok (.aload_n 0, 1) := by decide +kernel
theorem dX5_takeCard_8 : decode cX5_takeCard 8 = .ok (.getfield 58, 3) := by decide +kernel
theorem dX5_takeCard_11 : decode cX5_takeCard 11 = .ok (.aload_n 0, 1) := by decide +kernel
theorem dX5_takeCard_12 : decode cX5_takeCard 12 = .ok (.getfield 82, 3) := by decide +kernel
theorem dX5_takeCard_15 : decode cX5_takeCard 15 = .ok (.if_icmp .ge 15, 3) := by decide +kernel
theorem dX5_takeCard_18 : decode cX5_takeCard 18 = .ok (.aload_n 0, 1) := by decide +kernel
theorem dX5_takeCard_19 : decode cX5_takeCard 19 = .ok (.getfield 58, 3) := by decide +kernel
theorem dX5_takeCard_22 : decode cX5_takeCard 22 = .ok (.aload_n 0, 1) := by decide +kernel
theorem dX5_takeCard_23 : decode cX5_takeCard 23 = .ok (.getfield 15, 3) := by decide +kernel
theorem dX5_takeCard_26 : decode cX5_takeCard 26 = .ok (.arraylength, 1) := by decide +kernel
theorem dX5_takeCard_27 : decode cX5_takeCard 27 = .ok (.if_icmp .lt 5, 3) := by decide +kernel
theorem dX5_takeCard_30 : decode cX5_takeCard 30 = .ok (.iconst 0, 1) := by decide +kernel
theorem dX5_takeCard_31 : decode cX5_takeCard 31 = .ok (.ireturn, 1) := by decide +kernel
theorem dX5_takeCard_32 : decode cX5_takeCard 32 = .ok (.aload_n 0, 1) := by decide +kernel
theorem dX5_takeCard_33 : decode cX5_takeCard 33 = .ok (.dup, 1) := by decide +kernel
theorem dX5_takeCard_34 : decode cX5_takeCard 34 = .ok (.getfield 58, 3) := by decide +kernel
theorem dX5_takeCard_37 : decode cX5_takeCard 37 = .ok (.iconst 1, 1) := by decide +kernel
theorem dX5_takeCard_38 : decode cX5_takeCard 38 = .ok (.iadd, 1) := by decide +kernel
theorem dX5_takeCard_39 : decode cX5_takeCard 39 = .ok (.putfield 58, 3) := by decide +kernel
theorem dX5_takeCard_42 : decode cX5_takeCard 42 = .ok (.aload_n 0, 1) := by decide +kernel
theorem dX5_takeCard_43 : decode cX5_takeCard 43 = .ok (.getfield 15, 3) := by decide +kernel
theorem dX5_takeCard_46 : decode cX5_takeCard 46 = .ok (.aload_n 0, 1) := by decide +kernel
theorem dX5_takeCard_47 : decode cX5_takeCard 47 = .ok (.getfield 58, 3) := by decide +kernel
theorem dX5_takeCard_50 : decode cX5_takeCard 50 = .ok (.iconst 1, 1) := by decide +kernel
theorem dX5_takeCard_51 : decode cX5_takeCard 51 = .ok (.isub, 1) := by decide +kernel
theorem dX5_takeCard_52 : decode cX5_takeCard 52 = .ok (.iaload, 1) := by decide +kernel
theorem dX5_takeCard_53 : decode cX5_takeCard 53 = .ok (.ireturn, 1) := by decide +kernel
theorem dX5_tell_0 : decode cX5_tell 0 = .ok (.iload_n 1, 1) := by decide +kernel
theorem dX5_tell_1 : decode cX5_tell 1 = .ok (.tableswitch 153 0 12 #[67, 72, 89, 94, 99, 104, 109, 115, 121, 127, 132, 137, 145], 67) := by decide +kernel
theorem dX5_tell_68 : decode cX5_tell 68 = .ok (.aload_n 0, 1) := by decide +kernel
theorem dX5_tell_69 : decode cX5_tell 69 = .ok (.getfield 33, 3) := by decide +kernel
theorem dX5_tell_72 : decode cX5_tell 72 = .ok (.ireturn, 1) := by decide +kernel
theorem dX5_tell_73 : decode cX5_tell 73 = .ok (.aload_n 0, 1) := by decide +kernel
theorem dX5_tell_74 : decode cX5_tell 74 = .ok (.getfield 33, 3) := by decide +kernel
theorem dX5_tell_77 : decode cX5_tell 77 = .ok (.iconst 3, 1) := by decide +kernel
theorem dX5_tell_78 : decode cX5_tell 78 = .ok (.if_icmp .ne 10, 3) := by decide +kernel
theorem dX5_tell_81 : decode cX5_tell 81 = .ok (.aload_n 0, 1) := by decide +kernel
theorem dX5_tell_82 : decode cX5_tell 82 = .ok (.getfield 43, 3) := by decide +kernel
theorem dX5_tell_85 : decode cX5_tell 85 = .ok (.goto 4, 3) := by decide +kernel
theorem dX5_tell_88 : decode cX5_tell 88 = .ok (.iconst 0, 1) := by decide +kernel
theorem dX5_tell_89 : decode cX5_tell 89 = .ok (.ireturn, 1) := by decide +kernel
theorem dX5_tell_90 : decode cX5_tell 90 = .ok (.aload_n 0, 1) := by decide +kernel
theorem dX5_tell_91 : decode cX5_tell 91 = .ok (.getfield 46, 3) := by decide +kernel
theorem dX5_tell_94 : decode cX5_tell 94 = .ok (.ireturn, 1) := by decide +kernel
theorem dX5_tell_95 : decode cX5_tell 95 = .ok (.aload_n 0, 1) := by decide +kernel
theorem dX5_tell_96 : decode cX5_tell 96 = .ok (.getfield 49, 3) := by decide +kernel
theorem dX5_tell_99 : decode cX5_tell 99 = .ok (.ireturn, 1) := by decide +kernel
theorem dX5_tell_100 : decode cX5_tell 100 = .ok (.aload_n 0, 1) := by decide +kernel
theorem dX5_tell_101 : decode cX5_tell 101 = .ok (.getfield 52, 3) := by decide +kernel
theorem dX5_tell_104 : decode cX5_tell 104 = .ok (.ireturn, 1) := by decide +kernel
theorem dX5_tell_105 : decode cX5_tell 105 = .ok (.aload_n 0, 1) := by decide +kernel
theorem dX5_tell_106 : decode cX5_tell 106 = .ok (.getfield 55, 3) := by decide +kernel
theorem dX5_tell_109 : decode cX5_tell 109 = .ok (.ireturn, 1) := by decide +kernel
theorem dX5_tell_110 : decode cX5_tell 110 = .ok (.aload_n 0, 1) := by decide +kernel
theorem dX5_tell_111 : decode cX5_tell 111 = .ok (.iconst 0, 1) := by decide +kernel
theorem dX5_tell_112 : decode cX5_tell 112 = .ok (.invokevirtual 88, 3) := by decide +kernel
theorem dX5_tell_115 : decode cX5_tell 115 = .ok (.ireturn, 1) := by decide +kernel
theorem dX5_tell_116 : decode cX5_tell 116 = .ok (.aload_n 0, 1) := by decide +kernel
theorem dX5_tell_117 : decode cX5_tell 117 = .ok (.iconst 1, 1) := by decide +kernel
theorem dX5_tell_118 : decode cX5_tell 118 = .ok (.invokevirtual 88, 3) := by decide +kernel
theorem dX5_tell_121 : decode cX5_tell 121 = .ok (.ireturn, 1) := by decide +kernel
theorem dX5_tell_122 : decode cX5_tell 122 = .ok (.aload_n 0, 1) := by decide +kernel
theorem dX5_tell_123 : decode cX5_tell 123 = .ok (.iconst 2, 1) := by decide +kernel
theorem dX5_tell_124 : decode cX5_tell 124 = .ok (.invokevirtual 88, 3) := by decide +kernel
theorem dX5_tell_127 : decode cX5_tell 127 = .ok (.ireturn, 1) := by decide +kernel
theorem dX5_tell_128 : decode cX5_tell 128 = .ok (.aload_n 0, 1) := by decide +kernel
theorem dX5_tell_129 : decode cX5_tell 129 = .ok (.getfield 58, 3) := by decide +kernel
theorem dX5_tell_132 : decode cX5_tell 132 = .ok (.ireturn, 1) := by decide +kernel
theorem dX5_tell_133 : decode cX5_tell 133 = .ok (.aload_n 0, 1) := by decide +kernel
theorem dX5_tell_134 : decode cX5_tell 134 = .ok (.getfield 61, 3) := by decide +kernel
theorem dX5_tell_137 : decode cX5_tell 137 = .ok (.ireturn, 1) := by decide +kernel
theorem dX5_tell_138 : decode cX5_tell 138 = .ok (.aload_n 0, 1) := by decide +kernel
theorem dX5_tell_139 : decode cX5_tell 139 = .ok (.getfield 23, 3) := by decide +kernel
theorem dX5_tell_142 : decode cX5_tell 142 = .ok (.invokevirtual 91, 3) := by decide +kernel
theorem dX5_tell_145 : decode cX5_tell 145 = .ok (.ireturn, 1) := by decide +kernel
theorem dX5_tell_146 : decode cX5_tell 146 = .ok (.aload_n 0, 1) := by decide +kernel
theorem dX5_tell_147 : decode cX5_tell 147 = .ok (.getfield 64, 3) := by decide +kernel
theorem dX5_tell_150 : decode cX5_tell 150 = .ok (.invokestatic 95, 3) := by decide +kernel
theorem dX5_tell_153 : decode cX5_tell 153 = .ok (.ireturn, 1) := by decide +kernel
theorem dX5_tell_154 : decode cX5_tell 154 = .ok (.iconst (-1), 1) := by decide +kernel
theorem dX5_tell_155 : decode cX5_tell 155 = .ok (.ireturn, 1) := by decide +kernel
theorem dX6_init_0 : decode cX6_init 0 = .ok (.aload_n 0, 1) := by decide +kernel
theorem dX6_init_1 : decode cX6_init 1 = .ok (.invokespecial 3, 3) := by decide +kernel
theorem dX6_init_4 : decode cX6_init 4 = .ok (.aload_n 0, 1) := by decide +kernel
theorem dX6_init_5 : decode cX6_init 5 = .ok (.aload_n 1, 1) := by decide +kernel
theorem dX6_init_6 : decode cX6_init 6 = .ok (.putfield 9, 3) := by decide +kernel
theorem dX6_init_9 : decode cX6_init 9 = .ok (.aload_n 0, 1) := by decide +kernel
theorem dX6_init_10 : decode cX6_init 10 = .ok (.aload_n 2, 1) := by decide +kernel
theorem dX6_init_11 : decode cX6_init 11 = .ok (.putfield 15, 3) := by decide +kernel
theorem dX6_init_14 : decode cX6_init 14 = .ok (.aload_n 0, 1) := by decide +kernel
theorem dX6_init_15 : decode cX6_init 15 = .ok (.aload_n 3, 1) := by decide +kernel
theorem dX6_init_16 : decode cX6_init 16 = .ok (.putfield 19, 3) := by decide +kernel
theorem dX6_init_19 : decode cX6_init 19 = .ok (.aload_n 0, 1) := by decide +kernel
theorem dX6_init_20 : decode cX6_init 20 = .ok (.aload 4, 2) := by decide +kernel
theorem dX6_init_22 : decode cX6_init 22 = .ok (.putfield 23, 3) := by decide +kernel
theorem dX6_init_25 : decode cX6_init 25 = .ok (.aload_n 0, 1) := by decide +kernel
theorem dX6_init_26 : decode cX6_init 26 = .ok (.aload 5, 2) := by decide +kernel
theorem dX6_init_28 : decode cX6_init 28 = .ok (.putfield 27, 3) := by decide +kernel
theorem dX6_init_31 : decode cX6_init 31 = .ok (.aload_n 0, 1) := by decide +kernel
theorem dX6_init_32 : decode cX6_init 32 = .ok (.aload 6, 2) := by decide +kernel
theorem dX6_init_34 : decode cX6_init 34 = .ok (.putfield 31, 3) := by decide +kernel
theorem dX6_init_37 : decode cX6_init 37 = .ok (.return_, 1) := by decide +kernel
theorem dX6_step_0 : decode cX6_step 0 = .ok (.aload_n 1, 1) := by decide +kernel
theorem dX6_step_1 : decode cX6_step 1 = .ok (.getfield 35, 3) := by decide +kernel
theorem dX6_step_4 : decode cX6_step 4 = .ok (.ifCond .eq 11, 3) := by decide +kernel
theorem dX6_step_7 : decode cX6_step 7 = .ok (.aload_n 0, 1) := by decide +kernel
theorem dX6_step_8 : decode cX6_step 8 = .ok (.aload_n 1, 1) := by decide +kernel
theorem dX6_step_9 : decode cX6_step 9 = .ok (.invokevirtual 41, 3) := by decide +kernel
theorem dX6_step_12 : decode cX6_step 12 = .ok (.goto 42, 3) := by decide +kernel
theorem dX6_step_15 : decode cX6_step 15 = .ok (.aload_n 1, 1) := by decide +kernel
theorem dX6_step_16 : decode cX6_step 16 = .ok (.getfield 45, 3) := by decide +kernel
theorem dX6_step_19 : decode cX6_step 19 = .ok (.ifCond .eq 11, 3) := by decide +kernel
theorem dX6_step_22 : decode cX6_step 22 = .ok (.aload_n 1, 1) := by decide +kernel
theorem dX6_step_23 : decode cX6_step 23 = .ok (.iconst 5, 1) := by decide +kernel
theorem dX6_step_24 : decode cX6_step 24 = .ok (.putfield 35, 3) := by decide +kernel
theorem dX6_step_27 : decode cX6_step 27 = .ok (.goto 27, 3) := by decide +kernel
theorem dX6_step_30 : decode cX6_step 30 = .ok (.aload_n 1, 1) := by decide +kernel
theorem dX6_step_31 : decode cX6_step 31 = .ok (.getfield 49, 3) := by decide +kernel
theorem dX6_step_34 : decode cX6_step 34 = .ok (.aload_n 1, 1) := by decide +kernel
theorem dX6_step_35 : decode cX6_step 35 = .ok (.getfield 52, 3) := by decide +kernel
theorem dX6_step_38 : decode cX6_step 38 = .ok (.if_icmp .lt 11, 3) := by decide +kernel
theorem dX6_step_41 : decode cX6_step 41 = .ok (.aload_n 1, 1) := by decide +kernel
theorem dX6_step_42 : decode cX6_step 42 = .ok (.iconst 2, 1) := by decide +kernel
theorem dX6_step_43 : decode cX6_step 43 = .ok (.putfield 35, 3) := by decide +kernel
theorem dX6_step_46 : decode cX6_step 46 = .ok (.goto 8, 3) := by decide +kernel
theorem dX6_step_49 : decode cX6_step 49 = .ok (.aload_n 0, 1) := by decide +kernel
theorem dX6_step_50 : decode cX6_step 50 = .ok (.aload_n 1, 1) := by decide +kernel
theorem dX6_step_51 : decode cX6_step 51 = .ok (.invokevirtual 55, 3) := by decide +kernel
theorem dX6_step_54 : decode cX6_step 54 = .ok (.return_, 1) := by decide +kernel
theorem dX6_end_0 : decode cX6_end 0 = .ok (.aload_n 1, 1) := by decide +kernel
theorem dX6_end_1 : decode cX6_end 1 = .ok (.getfield 58, 3) := by decide +kernel
theorem dX6_end_4 : decode cX6_end 4 = .ok (.invokevirtual 62, 3) := by decide +kernel
theorem dX6_end_7 : decode cX6_end 7 = .ok (.ifCond .le 16, 3) := by decide +kernel
theorem dX6_end_10 : decode cX6_end 10 = .ok (.aload_n 0, 1) := by decide +kernel
theorem dX6_end_11 : decode cX6_end 11 = .ok (.getfield 9, 3) := by decide +kernel
theorem dX6_end_14 : decode cX6_end 14 = .ok (.aload_n 1, 1) := by decide +kernel
theorem dX6_end_15 : decode cX6_end 15 = .ok (.getfield 68, 3) := by decide +kernel
theorem dX6_end_18 : decode cX6_end 18 = .ok (.iconst 4, 1) := by decide +kernel
theorem dX6_end_19 : decode cX6_end 19 = .ok (.invokevirtual 71, 3) := by decide +kernel
theorem dX6_end_22 : decode cX6_end 22 = .ok (.return_, 1) := by decide +kernel
theorem dX6_end_23 : decode cX6_end 23 = .ok (.aload_n 0, 1) := by decide +kernel
theorem dX6_end_24 : decode cX6_end 24 = .ok (.getfield 15, 3) := by decide +kernel
theorem dX6_end_27 : decode cX6_end 27 = .ok (.aload_n 1, 1) := by decide +kernel
theorem dX6_end_28 : decode cX6_end 28 = .ok (.invokevirtual 77, 3) := by decide +kernel
theorem dX6_end_31 : decode cX6_end 31 = .ok (.aload_n 0, 1) := by decide +kernel
theorem dX6_end_32 : decode cX6_end 32 = .ok (.getfield 23, 3) := by decide +kernel
theorem dX6_end_35 : decode cX6_end 35 = .ok (.aload_n 1, 1) := by decide +kernel
theorem dX6_end_36 : decode cX6_end 36 = .ok (.invokevirtual 82, 3) := by decide +kernel
theorem dX6_end_39 : decode cX6_end 39 = .ok (.aload_n 1, 1) := by decide +kernel
theorem dX6_end_40 : decode cX6_end 40 = .ok (.iconst 3, 1) := by decide +kernel
theorem dX6_end_41 : decode cX6_end 41 = .ok (.putfield 87, 3) := by decide +kernel
theorem dX6_end_44 : decode cX6_end 44 = .ok (.aload_n 0, 1) := by decide +kernel
theorem dX6_end_45 : decode cX6_end 45 = .ok (.getfield 9, 3) := by decide +kernel
theorem dX6_end_48 : decode cX6_end 48 = .ok (.aload_n 1, 1) := by decide +kernel
theorem dX6_end_49 : decode cX6_end 49 = .ok (.getfield 68, 3) := by decide +kernel
theorem dX6_end_52 : decode cX6_end 52 = .ok (.invokevirtual 90, 3) := by decide +kernel
theorem dX6_end_55 : decode cX6_end 55 = .ok (.aload_n 0, 1) := by decide +kernel
theorem dX6_end_56 : decode cX6_end 56 = .ok (.getfield 31, 3) := by decide +kernel
theorem dX6_end_59 : decode cX6_end 59 = .ok (.aload_n 1, 1) := by decide +kernel
theorem dX6_end_60 : decode cX6_end 60 = .ok (.invokevirtual 94, 3) := by decide +kernel
theorem dX6_end_63 : decode cX6_end 63 = .ok (.aload_n 0, 1) := by decide +kernel
theorem dX6_end_64 : decode cX6_end 64 = .ok (.getfield 23, 3) := by decide +kernel
theorem dX6_end_67 : decode cX6_end 67 = .ok (.invokevirtual 99, 3) := by decide +kernel
theorem dX6_end_70 : decode cX6_end 70 = .ok (.return_, 1) := by decide +kernel
theorem dX6_attempt_0 : decode cX6_attempt 0 = .ok (.aload_n 1, 1) := by decide +kernel
theorem dX6_attempt_1 : decode cX6_attempt 1 = .ok (.aload_n 1, 1) := by decide +kernel
theorem dX6_attempt_2 : decode cX6_attempt 2 = .ok (.getfield 102, 3) := by decide +kernel
theorem dX6_attempt_5 : decode cX6_attempt 5 = .ok (.invokevirtual 105, 3) := by decide +kernel
theorem dX6_attempt_8 : decode cX6_attempt 8 = .ok (.ifCond .ne 9, 3) := by decide +kernel
theorem dX6_attempt_11 : decode cX6_attempt 11 = .ok (.aload_n 1, 1) := by decide +kernel
theorem dX6_attempt_12 : decode cX6_attempt 12 = .ok (.iconst 4, 1) := by decide +kernel
theorem dX6_attempt_13 : decode cX6_attempt 13 = .ok (.putfield 35, 3) := by decide +kernel
theorem dX6_attempt_16 : decode cX6_attempt 16 = .ok (.return_, 1) := by decide +kernel
theorem dX6_attempt_17 : decode cX6_attempt 17 = .ok (.aload_n 1, 1) := by decide +kernel
theorem dX6_attempt_18 : decode cX6_attempt 18 = .ok (.getfield 102, 3) := by decide +kernel
theorem dX6_attempt_21 : decode cX6_attempt 21 = .ok (.bipush 16, 2) := by decide +kernel
theorem dX6_attempt_23 : decode cX6_attempt 23 = .ok (.idiv, 1) := by decide +kernel
theorem dX6_attempt_24 : decode cX6_attempt 24 = .ok (.istore_n 2, 1) := by decide +kernel
theorem dX6_attempt_25 : decode cX6_attempt 25 = .ok (.aload_n 0, 1) := by decide +kernel
theorem dX6_attempt_26 : decode cX6_attempt 26 = .ok (.getfield 15, 3) := by decide +kernel
theorem dX6_attempt_29 : decode cX6_attempt 29 = .ok (.aload_n 1, 1) := by decide +kernel
theorem dX6_attempt_30 : decode cX6_attempt 30 = .ok (.iload_n 2, 1) := by decide +kernel
theorem dX6_attempt_31 : decode cX6_attempt 31 = .ok (.invokevirtual 109, 3) := by decide +kernel
theorem dX6_attempt_34 : decode cX6_attempt 34 = .ok (.astore_n 3, 1) := by decide +kernel
theorem dX6_attempt_35 : decode cX6_attempt 35 = .ok (.aload_n 3, 1) := by decide +kernel
theorem dX6_attempt_36 : decode cX6_attempt 36 = .ok (.ifnonnull 13, 3) := by decide +kernel
theorem dX6_attempt_39 : decode cX6_attempt 39 = .ok (.aload_n 0, 1) := by decide +kernel
theorem dX6_attempt_40 : decode cX6_attempt 40 = .ok (.getfield 19, 3) := by decide +kernel
theorem dX6_attempt_43 : decode cX6_attempt 43 = .ok (.aload_n 1, 1) := by decide +kernel
theorem dX6_attempt_44 : decode cX6_attempt 44 = .ok (.iload_n 2, 1) := by decide +kernel
theorem dX6_attempt_45 : decode cX6_attempt 45 = .ok (.invokevirtual 113, 3) := by decide +kernel
theorem dX6_attempt_48 : decode cX6_attempt 48 = .ok (.return_, 1) := by decide +kernel
theorem dX6_attempt_49 : decode cX6_attempt 49 = .ok (.aload_n 3, 1) := by decide +kernel
theorem dX6_attempt_50 : decode cX6_attempt 50 = .ok (.aload_n 1, 1) := by decide +kernel
theorem dX6_attempt_51 : decode cX6_attempt 51 = .ok (.getfield 102, 3) := by decide +kernel
theorem dX6_attempt_54 : decode cX6_attempt 54 = .ok (.invokevirtual 119, 3) := by decide +kernel
theorem dX6_attempt_57 : decode cX6_attempt 57 = .ok (.istore 4, 2) := by decide +kernel
theorem dX6_attempt_59 : decode cX6_attempt 59 = .ok (.iload 4, 2) := by decide +kernel
theorem dX6_attempt_61 : decode cX6_attempt 61 = .ok (.sipush 256, 3) := by decide +kernel
theorem dX6_attempt_64 : decode cX6_attempt 64 = .ok (.idiv, 1) := by decide +kernel
theorem dX6_attempt_65 : decode cX6_attempt 65 = .ok (.istore 5, 2) := by decide +kernel
theorem dX6_attempt_67 : decode cX6_attempt 67 = .ok (.iload 4, 2) := by decide +kernel
theorem dX6_attempt_69 : decode cX6_attempt 69 = .ok (.sipush 256, 3) := by decide +kernel
theorem dX6_attempt_72 : decode cX6_attempt 72 = .ok (.irem, 1) := by decide +kernel
theorem dX6_attempt_73 : decode cX6_attempt 73 = .ok (.istore 6, 2) := by decide +kernel
theorem dX6_attempt_75 : decode cX6_attempt 75 = .ok (.iload 4, 2) := by decide +kernel
theorem dX6_attempt_77 : decode cX6_attempt 77 = .ok (.ifCond .lt 58, 3) := by decide +kernel
theorem dX6_attempt_80 : decode cX6_attempt 80 = .ok (.iload 5, 2) := by decide +kernel
theorem dX6_attempt_82 : decode cX6_attempt 82 = .ok (.invokestatic 125, 3) := by decide +kernel
theorem dX6_attempt_85 : decode cX6_attempt 85 = .ok (.ifCond .eq 50, 3) := by decide +kernel
theorem dX6_attempt_88 : decode cX6_attempt 88 = .ok (.iload 5, 2) := by decide +kernel
theorem dX6_attempt_90 : decode cX6_attempt 90 = .ok (.bipush 11, 2) := by decide +kernel
theorem dX6_attempt_92 : decode cX6_attempt 92 = .ok (.if_icmp .eq 10, 3) := by decide +kernel
theorem dX6_attempt_95 : decode cX6_attempt 95 = .ok (.iload 5, 2) := by decide +kernel
theorem dX6_attempt_97 : decode cX6_attempt 97 = .ok (.bipush 12, 2) := by decide +kernel
theorem dX6_attempt_99 : decode cX6_attempt 99 = .ok (.if_icmp .ne 7, 3) := by decide +kernel
theorem dX6_attempt_102 : decode cX6_attempt 102 = .ok (.iconst 1, 1) := by decide +kernel
theorem dX6_attempt_103 : decode cX6_attempt 103 = .ok (.goto 4, 3) := by decide +kernel
theorem dX6_attempt_106 : decode cX6_attempt 106 = .ok (.iconst 0, 1) := by decide +kernel
theorem dX6_attempt_107 : decode cX6_attempt 107 = .ok (.istore 7, 2) := by decide +kernel
theorem dX6_attempt_109 : decode cX6_attempt 109 = .ok (.aload_n 0, 1) := by decide +kernel
theorem dX6_attempt_110 : decode cX6_attempt 110 = .ok (.aload_n 1, 1) := by decide +kernel
theorem dX6_attempt_111 : decode cX6_attempt 111 = .ok (.aload_n 3, 1) := by decide +kernel
theorem dX6_attempt_112 : decode cX6_attempt 112 = .ok (.iload 5, 2) := by decide +kernel
theorem dX6_attempt_114 : decode cX6_attempt 114 = .ok (.iload 7, 2) := by decide +kernel
theorem dX6_attempt_116 : decode cX6_attempt 116 = .ok (.ifCond .eq 13, 3) := by decide +kernel
theorem dX6_attempt_119 : decode cX6_attempt 119 = .ok (.iload 6, 2) := by decide +kernel
theorem dX6_attempt_121 : decode cX6_attempt 121 = .ok (.aload_n 1, 1) := by decide +kernel
theorem dX6_attempt_122 : decode cX6_attempt 122 = .ok (.getfield 128, 3) := by decide +kernel
theorem dX6_attempt_125 : decode cX6_attempt 125 = .ok (.iadd, 1) := by decide +kernel
theorem dX6_attempt_126 : decode cX6_attempt 126 = .ok (.goto 5, 3) := by decide +kernel
theorem dX6_attempt_129 : decode cX6_attempt 129 = .ok (.iload 6, 2) := by decide +kernel
theorem dX6_attempt_131 : decode cX6_attempt 131 = .ok (.invokevirtual 131, 3) := by decide +kernel
theorem dX6_attempt_134 : decode cX6_attempt 134 = .ok (.return_, 1) := by decide +kernel
theorem dX6_attempt_135 : decode cX6_attempt 135 = .ok (.aload_n 3, 1) := by decide +kernel
theorem dX6_attempt_136 : decode cX6_attempt 136 = .ok (.aload_n 0, 1) := by decide +kernel
theorem dX6_attempt_137 : decode cX6_attempt 137 = .ok (.getfield 9, 3) := by decide +kernel
theorem dX6_attempt_140 : decode cX6_attempt 140 = .ok (.getfield 135, 3) := by decide +kernel
theorem dX6_attempt_143 : decode cX6_attempt 143 = .ok (.putfield 138, 3) := by decide +kernel
theorem dX6_attempt_146 : decode cX6_attempt 146 = .ok (.iload 4, 2) := by decide +kernel
theorem dX6_attempt_148 : decode cX6_attempt 148 = .ok (.ifCond .lt 10, 3) := by decide +kernel
theorem dX6_attempt_151 : decode cX6_attempt 151 = .ok (.iload 5, 2) := by decide +kernel
theorem dX6_attempt_153 : decode cX6_attempt 153 = .ok (.bipush 19, 2) := by decide +kernel
theorem dX6_attempt_155 : decode cX6_attempt 155 = .ok (.if_icmp .le 11, 3) := by decide +kernel
theorem dX6_attempt_158 : decode cX6_attempt 158 = .ok (.aload_n 1, 1) := by decide +kernel
theorem dX6_attempt_159 : decode cX6_attempt 159 = .ok (.iconst 4, 1) := by decide +kernel
theorem dX6_attempt_160 : decode cX6_attempt 160 = .ok (.putfield 35, 3) := by decide +kernel
theorem dX6_attempt_163 : decode cX6_attempt 163 = .ok (.goto 12, 3) := by decide +kernel
theorem dX6_attempt_166 : decode cX6_attempt 166 = .ok (.aload_n 0, 1) := by decide +kernel
theorem dX6_attempt_167 : decode cX6_attempt 167 = .ok (.aload_n 1, 1) := by decide +kernel
theorem dX6_attempt_168 : decode cX6_attempt 168 = .ok (.iload 5, 2) := by decide +kernel
theorem dX6_attempt_170 : decode cX6_attempt 170 = .ok (.iload 6, 2) := by decide +kernel
theorem dX6_attempt_172 : decode cX6_attempt 172 = .ok (.invokevirtual 141, 3) := by decide +kernel
theorem dX6_attempt_175 : decode cX6_attempt 175 = .ok (.return_, 1) := by decide +kernel
theorem dX6_hasOperand_0 : decode cX6_hasOperand 0 = .ok (.iload_n 0, 1) := by decide +kernel
theorem dX6_hasOperand_1 : decode cX6_hasOperand 1 = .ok (.iconst 1, 1) := by decide +kernel
theorem dX6_hasOperand_2 : decode cX6_hasOperand 2 = .ok (.if_icmp .lt 9, 3) := by decide +kernel
theorem dX6_hasOperand_5 : decode cX6_hasOperand 5 = .ok (.iload_n 0, 1) := by decide +kernel
theorem dX6_hasOperand_6 : decode cX6_hasOperand 6 = .ok (.bipush 6, 2) := by decide +kernel
theorem dX6_hasOperand_8 : decode cX6_hasOperand 8 = .ok (.if_icmp .le 15, 3) := by decide +kernel
theorem dX6_hasOperand_11 : decode cX6_hasOperand 11 = .ok (.iload_n 0, 1) := by decide +kernel
theorem dX6_hasOperand_12 : decode cX6_hasOperand 12 = .ok (.bipush 10, 2) := by decide +kernel
theorem dX6_hasOperand_14 : decode cX6_hasOperand 14 = .ok (.if_icmp .lt 13, 3) := by decide +kernel
theorem dX6_hasOperand_17 : decode cX6_hasOperand 17 = .ok (.iload_n 0, 1) := by decide +kernel
theorem dX6_hasOperand_18 : decode cX6_hasOperand 18 = .ok (.bipush 12, 2) := by decide +kernel
theorem dX6_hasOperand_20 : decode cX6_hasOperand 20 = .ok (.if_icmp .gt 7, 3) := by decide +kernel
theorem dX6_hasOperand_23 : decode cX6_hasOperand 23 = .ok (.iconst 1, 1) := by decide +kernel
theorem dX6_hasOperand_24 : decode cX6_hasOperand 24 = .ok (.goto 4, 3) := by decide +kernel
theorem dX6_hasOperand_27 : decode cX6_hasOperand 27 = .ok (.iconst 0, 1) := by decide +kernel
theorem dX6_hasOperand_28 : decode cX6_hasOperand 28 = .ok (.ireturn, 1) := by decide +kernel
theorem dX6_attemptOperand_0 : decode cX6_attemptOperand 0 = .ok (.aload_n 1, 1) := by decide +kernel
theorem dX6_attemptOperand_1 : decode cX6_attemptOperand 1 = .ok (.iload 4, 2) := by decide +kernel
theorem dX6_attemptOperand_3 : decode cX6_attemptOperand 3 = .ok (.invokevirtual 105, 3) := by decide +kernel
theorem dX6_attemptOperand_6 : decode cX6_attemptOperand 6 = .ok (.ifCond .ne 20, 3) := by decide +kernel
theorem dX6_attemptOperand_9 : decode cX6_attemptOperand 9 = .ok (.aload_n 2, 1) := by decide +kernel
theorem dX6_attemptOperand_10 : decode cX6_attemptOperand 10 = .ok (.aload_n 0, 1) := by decide +kernel
theorem dX6_attemptOperand_11 : decode cX6_attemptOperand 11 = .ok (.getfield 9, 3) := by decide +kernel
theorem dX6_attemptOperand_14 : decode cX6_attemptOperand 14 = .ok (.getfield 135, 3) := by decide +kernel
theorem dX6_attemptOperand_17 : decode cX6_attemptOperand 17 = .ok (.putfield 138, 3) := by decide +kernel
theorem dX6_attemptOperand_20 : decode cX6_attemptOperand 20 = .ok (.aload_n 1, 1) := by decide +kernel
theorem dX6_attemptOperand_21 : decode cX6_attemptOperand 21 = .ok (.iconst 4, 1) := by decide +kernel
theorem dX6_attemptOperand_22 : decode cX6_attemptOperand 22 = .ok (.putfield 35, 3) := by decide +kernel
theorem dX6_attemptOperand_25 : decode cX6_attemptOperand 25 = .ok (.return_, 1) := by decide +kernel
theorem dX6_attemptOperand_26 : decode cX6_attemptOperand 26 = .ok (.iload 4, 2) := by decide +kernel
theorem dX6_attemptOperand_28 : decode cX6_attemptOperand 28 = .ok (.bipush 16, 2) := by decide +kernel
theorem dX6_attemptOperand_30 : decode cX6_attemptOperand 30 = .ok (.idiv, 1) := by decide +kernel
theorem dX6_attemptOperand_31 : decode cX6_attemptOperand 31 = .ok (.istore 5, 2) := by decide +kernel
theorem dX6_attemptOperand_33 : decode cX6_attemptOperand 33 = .ok (.aload_n 0, 1) := by decide +kernel
theorem dX6_attemptOperand_34 : decode cX6_attemptOperand 34 = .ok (.getfield 15, 3) := by decide +kernel
theorem dX6_attemptOperand_37 : decode cX6_attemptOperand 37 = .ok (.aload_n 1, 1) := by decide +kernel
theorem dX6_attemptOperand_38 : decode cX6_attemptOperand 38 = .ok (.iload 5, 2) := by decide +kernel
theorem dX6_attemptOperand_40 : decode cX6_attemptOperand 40 = .ok (.invokevirtual 109, 3) := by decide +kernel
theorem dX6_attemptOperand_43 : decode cX6_attemptOperand 43 = .ok (.astore 6, 2) := by decide +kernel
theorem dX6_attemptOperand_45 : decode cX6_attemptOperand 45 = .ok (.aload 6, 2) := by decide +kernel
theorem dX6_attemptOperand_47 : decode cX6_attemptOperand 47 = .ok (.ifnonnull 14, 3) := by decide +kernel
theorem dX6_attemptOperand_50 : decode cX6_attemptOperand 50 = .ok (.aload_n 0, 1) := by decide +kernel
theorem dX6_attemptOperand_51 : decode cX6_attemptOperand 51 = .ok (.getfield 19, 3) := by decide +kernel
theorem dX6_attemptOperand_54 : decode cX6_attemptOperand 54 = .ok (.aload_n 1, 1) := by decide +kernel
theorem dX6_attemptOperand_55 : decode cX6_attemptOperand 55 = .ok (.iload 5, 2) := by decide +kernel
theorem dX6_attemptOperand_57 : decode cX6_attemptOperand 57 = .ok (.invokevirtual 113, 3) := by decide +kernel
theorem dX6_attemptOperand_60 : decode cX6_attemptOperand 60 = .ok (.return_, 1) := by decide +kernel
theorem dX6_attemptOperand_61 : decode cX6_attemptOperand 61 = .ok (.aload_n 2, 1) := by decide +kernel
theorem dX6_attemptOperand_62 : decode cX6_attemptOperand 62 = .ok (.aload_n 0, 1) := by decide +kernel
theorem dX6_attemptOperand_63 : decode cX6_attemptOperand 63 = .ok (.getfield 9, 3) := by decide +kernel
theorem dX6_attemptOperand_66 : decode cX6_attemptOperand 66 = .ok (.getfield 135, 3) := by decide +kernel
theorem dX6_attemptOperand_69 : decode cX6_attemptOperand 69 = .ok (.putfield 138, 3) := by decide +kernel
theorem dX6_attemptOperand_72 : decode cX6_attemptOperand 72 = .ok (.aload 6, 2) := by decide +kernel
theorem dX6_attemptOperand_74 : decode cX6_attemptOperand 74 = .ok (.aload_n 0, 1) := by decide +kernel
theorem dX6_attemptOperand_75 : decode cX6_attemptOperand 75 = .ok (.getfield 9, 3) := by decide +kernel
theorem dX6_attemptOperand_78 : decode cX6_attemptOperand 78 = .ok (.getfield 135, 3) := by decide +kernel
theorem dX6_attemptOperand_81 : decode cX6_attemptOperand 81 = .ok (.putfield 138, 3) := by decide +kernel
theorem dX6_attemptOperand_84 : decode cX6_attemptOperand 84 = .ok (.iload_n 3, 1) := by decide +kernel
theorem dX6_attemptOperand_85 : decode cX6_attemptOperand 85 = .ok (.iconst 2, 1) := by decide +kernel
theorem dX6_attemptOperand_86 : decode cX6_attemptOperand 86 = .ok (.if_icmp .eq 9, 3) := by decide +kernel
theorem dX6_attemptOperand_89 : decode cX6_attemptOperand 89 = .ok (.iload_n 3, 1) := by decide +kernel
theorem dX6_attemptOperand_90 : decode cX6_attemptOperand 90 = .ok (.bipush 12, 2) := by decide +kernel
theorem dX6_attemptOperand_92 : decode cX6_attemptOperand 92 = .ok (.if_icmp .ne 37, 3) := by decide +kernel
theorem dX6_attemptOperand_95 : decode cX6_attemptOperand 95 = .ok (.aload 6, 2) := by decide +kernel
theorem dX6_attemptOperand_97 : decode cX6_attemptOperand 97 = .ok (.iload 4, 2) := by decide +kernel
theorem dX6_attemptOperand_99 : decode cX6_attemptOperand 99 = .ok (.aload_n 1, 1) := by decide +kernel
theorem dX6_attemptOperand_100 : decode cX6_attemptOperand 100 = .ok (.getfield 145, 3) := by decide +kernel
theorem dX6_attemptOperand_103 : decode cX6_attemptOperand 103 = .ok (.invokevirtual 148, 3) := by decide +kernel
theorem dX6_attemptOperand_106 : decode cX6_attemptOperand 106 = .ok (.aload 6, 2) := by decide +kernel
theorem dX6_attemptOperand_108 : decode cX6_attemptOperand 108 = .ok (.iconst 1, 1) := by decide +kernel
theorem dX6_attemptOperand_109 : decode cX6_attemptOperand 109 = .ok (.putfield 151, 3) := by decide +kernel
theorem dX6_attemptOperand_112 : decode cX6_attemptOperand 112 = .ok (.aload_n 0, 1) := by decide +kernel
theorem dX6_attemptOperand_113 : decode cX6_attemptOperand 113 = .ok (.getfield 15, 3) := by decide +kernel
theorem dX6_attemptOperand_116 : decode cX6_attemptOperand 116 = .ok (.aload_n 1, 1) := by decide +kernel
theorem dX6_attemptOperand_117 : decode cX6_attemptOperand 117 = .ok (.aload_n 1, 1) := by decide +kernel
theorem dX6_attemptOperand_118 : decode cX6_attemptOperand 118 = .ok (.getfield 102, 3) := by decide +kernel
theorem dX6_attemptOperand_121 : decode cX6_attemptOperand 121 = .ok (.iconst 1, 1) := by decide +kernel
theorem dX6_attemptOperand_122 : decode cX6_attemptOperand 122 = .ok (.iadd, 1) := by decide +kernel
theorem dX6_attemptOperand_123 : decode cX6_attemptOperand 123 = .ok (.invokevirtual 154, 3) := by decide +kernel
theorem dX6_attemptOperand_126 : decode cX6_attemptOperand 126 = .ok (.goto 16, 3) := by decide +kernel
theorem dX6_attemptOperand_129 : decode cX6_attemptOperand 129 = .ok (.aload_n 0, 1) := by decide +kernel
theorem dX6_attemptOperand_130 : decode cX6_attemptOperand 130 = .ok (.aload_n 1, 1) := by decide +kernel
theorem dX6_attemptOperand_131 : decode cX6_attemptOperand 131 = .ok (.iload_n 3, 1) := by decide +kernel
theorem dX6_attemptOperand_132 : decode cX6_attemptOperand 132 = .ok (.aload 6, 2) := by decide +kernel
theorem dX6_attemptOperand_134 : decode cX6_attemptOperand 134 = .ok (.iload 4, 2) := by decide +kernel
theorem dX6_attemptOperand_136 : decode cX6_attemptOperand 136 = .ok (.invokevirtual 119, 3) := by decide +kernel
theorem dX6_attemptOperand_139 : decode cX6_attemptOperand 139 = .ok (.invokevirtual 157, 3) := by decide +kernel
theorem dX6_attemptOperand_142 : decode cX6_attemptOperand 142 = .ok (.return_, 1) := by decide +kernel
theorem dX6_compute_0 : decode cX6_compute 0 = .ok (.iload_n 2, 1) := by decide +kernel
theorem dX6_compute_1 : decode cX6_compute 1 = .ok (.tableswitch 117 3 10 #[47, 60, 73, 86, 117, 117, 117, 109], 47) := by decide +kernel
theorem dX6_compute_48 : decode cX6_compute 48 = .ok (.aload_n 1, 1) := by decide +kernel
theorem dX6_compute_49 : decode cX6_compute 49 = .ok (.dup, 1) := by decide +kernel
theorem dX6_compute_50 : decode cX6_compute 50 = .ok (.getfield 145, 3) := by decide +kernel
theorem dX6_compute_53 : decode cX6_compute 53 = .ok (.iload_n 3, 1) := by decide +kernel
theorem dX6_compute_54 : decode cX6_compute 54 = .ok (.iadd, 1) := by decide +kernel
theorem dX6_compute_55 : decode cX6_compute 55 = .ok (.putfield 145, 3) := by decide +kernel
theorem dX6_compute_58 : decode cX6_compute 58 = .ok (.goto 65, 3) := by decide +kernel
theorem dX6_compute_61 : decode cX6_compute 61 = .ok (.aload_n 1, 1) := by decide +kernel
theorem dX6_compute_62 : decode cX6_compute 62 = .ok (.dup, 1) := by decide +kernel
theorem dX6_compute_63 : decode cX6_compute 63 = .ok (.getfield 145, 3) := by decide +kernel
theorem dX6_compute_66 : decode cX6_compute 66 = .ok (.iload_n 3, 1) := by decide +kernel
theorem dX6_compute_67 : decode cX6_compute 67 = .ok (.isub, 1) := by decide +kernel
theorem dX6_compute_68 : decode cX6_compute 68 = .ok (.putfield 145, 3) := by decide +kernel
theorem dX6_compute_71 : decode cX6_compute 71 = .ok (.goto 52, 3) := by decide +kernel
theorem dX6_compute_74 : decode cX6_compute 74 = .ok (.aload_n 1, 1) := by decide +kernel
theorem dX6_compute_75 : decode cX6_compute 75 = .ok (.dup, 1) := by decide +kernel
theorem dX6_compute_76 : decode cX6_compute 76 = .ok (.getfield 145, 3) := by decide +kernel
theorem dX6_compute_79 : decode cX6_compute 79 = .ok (.iload_n 3, 1) := by decide +kernel
theorem dX6_compute_80 : decode cX6_compute 80 = .ok (.imul, 1) := by decide +kernel
theorem dX6_compute_81 : decode cX6_compute 81 = .ok (.putfield 145, 3) := by decide +kernel
theorem dX6_compute_84 : decode cX6_compute 84 = .ok (.goto 39, 3) := by decide +kernel
theorem dX6_compute_87 : decode cX6_compute 87 = .ok (.iload_n 3, 1) := by decide +kernel
theorem dX6_compute_88 : decode cX6_compute 88 = .ok (.ifCond .ne 9, 3) := by decide +kernel
theorem dX6_compute_91 : decode cX6_compute 91 = .ok (.aload_n 1, 1) := by decide +kernel
theorem dX6_compute_92 : decode cX6_compute 92 = .ok (.iconst 4, 1) := by decide +kernel
theorem dX6_compute_93 : decode cX6_compute 93 = .ok (.putfield 35, 3) := by decide +kernel
theorem dX6_compute_96 : decode cX6_compute 96 = .ok (.return_, 1) := by decide +kernel
theorem dX6_compute_97 : decode cX6_compute 97 = .ok (.aload_n 1, 1) := by decide +kernel
theorem dX6_compute_98 : decode cX6_compute 98 = .ok (.dup, 1) := by decide +kernel
theorem dX6_compute_99 : decode cX6_compute 99 = .ok (.getfield 145, 3) := by decide +kernel
theorem dX6_compute_102 : decode cX6_compute 102 = .ok (.iload_n 3, 1) := by decide +kernel
theorem dX6_compute_103 : decode cX6_compute 103 = .ok (.idiv, 1) := by decide +kernel
theorem dX6_compute_104 : decode cX6_compute 104 = .ok (.putfield 145, 3) := by decide +kernel
theorem dX6_compute_107 : decode cX6_compute 107 = .ok (.goto 16, 3) := by decide +kernel
theorem dX6_compute_110 : decode cX6_compute 110 = .ok (.aload_n 1, 1) := by decide +kernel
theorem dX6_compute_111 : decode cX6_compute 111 = .ok (.iload_n 3, 1) := by decide +kernel
theorem dX6_compute_112 : decode cX6_compute 112 = .ok (.putfield 128, 3) := by decide +kernel
theorem dX6_compute_115 : decode cX6_compute 115 = .ok (.goto 8, 3) := by decide +kernel
theorem dX6_compute_118 : decode cX6_compute 118 = .ok (.aload_n 1, 1) := by decide +kernel
theorem dX6_compute_119 : decode cX6_compute 119 = .ok (.iload_n 3, 1) := by decide +kernel
theorem dX6_compute_120 : decode cX6_compute 120 = .ok (.putfield 145, 3) := by decide +kernel
theorem dX6_compute_123 : decode cX6_compute 123 = .ok (.aload_n 0, 1) := by decide +kernel
theorem dX6_compute_124 : decode cX6_compute 124 = .ok (.getfield 15, 3) := by decide +kernel
theorem dX6_compute_127 : decode cX6_compute 127 = .ok (.aload_n 1, 1) := by decide +kernel
theorem dX6_compute_128 : decode cX6_compute 128 = .ok (.aload_n 1, 1) := by decide +kernel
theorem dX6_compute_129 : decode cX6_compute 129 = .ok (.getfield 102, 3) := by decide +kernel
theorem dX6_compute_132 : decode cX6_compute 132 = .ok (.iconst 1, 1) := by decide +kernel
theorem dX6_compute_133 : decode cX6_compute 133 = .ok (.iadd, 1) := by decide +kernel
theorem dX6_compute_134 : decode cX6_compute 134 = .ok (.invokevirtual 154, 3) := by decide +kernel
theorem dX6_compute_137 : decode cX6_compute 137 = .ok (.return_, 1) := by decide +kernel
theorem dX6_control_0 : decode cX6_control 0 = .ok (.aload_n 1, 1) := by decide +kernel
theorem dX6_control_1 : decode cX6_control 1 = .ok (.getfield 102, 3) := by decide +kernel
theorem dX6_control_4 : decode cX6_control 4 = .ok (.iconst 1, 1) := by decide +kernel
theorem dX6_control_5 : decode cX6_control 5 = .ok (.iadd, 1) := by decide +kernel
theorem dX6_control_6 : decode cX6_control 6 = .ok (.istore 4, 2) := by decide +kernel
theorem dX6_control_8 : decode cX6_control 8 = .ok (.iload_n 2, 1) := by decide +kernel
theorem dX6_control_9 : decode cX6_control 9 = .ok (.tableswitch 254 0 18 #[91, 254, 254, 254, 254, 254, 254, 109, 121, 145, 254, 254, 254, 169, 180, 191, 202, 214, 236], 91) := by decide +kernel
theorem dX6_control_100 : decode cX6_control 100 = .ok (.aload_n 0, 1) := by decide +kernel
theorem dX6_control_101 : decode cX6_control 101 = .ok (.getfield 15, 3) := by decide +kernel
theorem dX6_control_104 : decode cX6_control 104 = .ok (.aload_n 1, 1) := by decide +kernel
theorem dX6_control_105 : decode cX6_control 105 = .ok (.iload 4, 2) := by decide +kernel
theorem dX6_control_107 : decode cX6_control 107 = .ok (.invokevirtual 154, 3) := by decide +kernel
theorem dX6_control_110 : decode cX6_control 110 = .ok (.aload_n 1, 1) := by decide +kernel
theorem dX6_control_111 : decode cX6_control 111 = .ok (.iconst 1, 1) := by decide +kernel
theorem dX6_control_112 : decode cX6_control 112 = .ok (.putfield 35, 3) := by decide +kernel
theorem dX6_control_115 : decode cX6_control 115 = .ok (.goto 166, 3) := by decide +kernel
theorem dX6_control_118 : decode cX6_control 118 = .ok (.aload_n 0, 1) := by decide +kernel
theorem dX6_control_119 : decode cX6_control 119 = .ok (.getfield 15, 3) := by decide +kernel
theorem dX6_control_122 : decode cX6_control 122 = .ok (.aload_n 1, 1) := by decide +kernel
theorem dX6_control_123 : decode cX6_control 123 = .ok (.iload_n 3, 1) := by decide +kernel
theorem dX6_control_124 : decode cX6_control 124 = .ok (.invokevirtual 154, 3) := by decide +kernel
theorem dX6_control_127 : decode cX6_control 127 = .ok (.goto 154, 3) := by decide +kernel
theorem dX6_control_130 : decode cX6_control 130 = .ok (.aload_n 0, 1) := by decide +kernel
theorem dX6_control_131 : decode cX6_control 131 = .ok (.getfield 15, 3) := by decide +kernel
theorem dX6_control_134 : decode cX6_control 134 = .ok (.aload_n 1, 1) := by decide +kernel
theorem dX6_control_135 : decode cX6_control 135 = .ok (.aload_n 1, 1) := by decide +kernel
theorem dX6_control_136 : decode cX6_control 136 = .ok (.getfield 145, 3) := by decide +kernel
theorem dX6_control_139 : decode cX6_control 139 = .ok (.ifCond .ge 7, 3) := by decide +kernel
theorem dX6_control_142 : decode cX6_control 142 = .ok (.iload_n 3, 1) := by decide +kernel
theorem dX6_control_143 : decode cX6_control 143 = .ok (.goto 5, 3) := by decide +kernel
theorem dX6_control_146 : decode cX6_control 146 = .ok (.iload 4, 2) := by decide +kernel
theorem dX6_control_148 : decode cX6_control 148 = .ok (.invokevirtual 154, 3) := by decide +kernel
theorem dX6_control_151 : decode cX6_control 151 = .ok (.goto 130, 3) := by decide +kernel
theorem dX6_control_154 : decode cX6_control 154 = .ok (.aload_n 0, 1) := by decide +kernel
theorem dX6_control_155 : decode cX6_control 155 = .ok (.getfield 15, 3) := by decide +kernel
theorem dX6_control_158 : decode cX6_control 158 = .ok (.aload_n 1, 1) := by decide +kernel
theorem dX6_control_159 : decode cX6_control 159 = .ok (.aload_n 1, 1) := by decide +kernel
theorem dX6_control_160 : decode cX6_control 160 = .ok (.getfield 145, 3) := by decide +kernel
theorem dX6_control_163 : decode cX6_control 163 = .ok (.ifCond .ne 7, 3) := by decide +kernel
theorem dX6_control_166 : decode cX6_control 166 = .ok (.iload_n 3, 1) := by decide +kernel
theorem dX6_control_167 : decode cX6_control 167 = .ok (.goto 5, 3) := by decide +kernel
theorem dX6_control_170 : decode cX6_control 170 = .ok (.iload 4, 2) := by decide +kernel
theorem dX6_control_172 : decode cX6_control 172 = .ok (.invokevirtual 154, 3) := by decide +kernel
theorem dX6_control_175 : decode cX6_control 175 = .ok (.goto 106, 3) := by decide +kernel
theorem dX6_control_178 : decode cX6_control 178 = .ok (.aload_n 0, 1) := by decide +kernel
theorem dX6_control_179 : decode cX6_control 179 = .ok (.getfield 27, 3) := by decide +kernel
theorem dX6_control_182 : decode cX6_control 182 = .ok (.aload_n 1, 1) := by decide +kernel
theorem dX6_control_183 : decode cX6_control 183 = .ok (.invokevirtual 160, 3) := by decide +kernel
theorem dX6_control_186 : decode cX6_control 186 = .ok (.goto 95, 3) := by decide +kernel
theorem dX6_control_189 : decode cX6_control 189 = .ok (.aload_n 0, 1) := by decide +kernel
theorem dX6_control_190 : decode cX6_control 190 = .ok (.getfield 27, 3) := by decide +kernel
theorem dX6_control_193 : decode cX6_control 193 = .ok (.aload_n 1, 1) := by decide +kernel
theorem dX6_control_194 : decode cX6_control 194 = .ok (.invokevirtual 164, 3) := by decide +kernel
theorem dX6_control_197 : decode cX6_control 197 = .ok (.goto 84, 3) := by decide +kernel
theorem dX6_control_200 : decode cX6_control 200 = .ok (.aload_n 0, 1) := by decide +kernel
theorem dX6_control_201 : decode cX6_control 201 = .ok (.getfield 31, 3) := by decide +kernel
theorem dX6_control_204 : decode cX6_control 204 = .ok (.aload_n 1, 1) := by decide +kernel
theorem dX6_control_205 : decode cX6_control 205 = .ok (.invokevirtual 167, 3) := by decide +kernel
theorem dX6_control_208 : decode cX6_control 208 = .ok (.goto 73, 3) := by decide +kernel
theorem dX6_control_211 : decode cX6_control 211 = .ok (.aload_n 0, 1) := by decide +kernel
theorem dX6_control_212 : decode cX6_control 212 = .ok (.getfield 23, 3) := by decide +kernel
theorem dX6_control_215 : decode cX6_control 215 = .ok (.aload_n 1, 1) := by decide +kernel
theorem dX6_control_216 : decode cX6_control 216 = .ok (.iload_n 3, 1) := by decide +kernel
theorem dX6_control_217 : decode cX6_control 217 = .ok (.invokevirtual 169, 3) := by decide +kernel
theorem dX6_control_220 : decode cX6_control 220 = .ok (.goto 61, 3) := by decide +kernel
theorem dX6_control_223 : decode cX6_control 223 = .ok (.aload_n 0, 1) := by decide +kernel
theorem dX6_control_224 : decode cX6_control 224 = .ok (.getfield 23, 3) := by decide +kernel
theorem dX6_control_227 : decode cX6_control 227 = .ok (.aload_n 1, 1) := by decide +kernel
theorem dX6_control_228 : decode cX6_control 228 = .ok (.iload_n 3, 1) := by decide +kernel
theorem dX6_control_229 : decode cX6_control 229 = .ok (.invokevirtual 172, 3) := by decide +kernel
theorem dX6_control_232 : decode cX6_control 232 = .ok (.ifCond .eq 49, 3) := by decide +kernel
theorem dX6_control_235 : decode cX6_control 235 = .ok (.aload_n 0, 1) := by decide +kernel
theorem dX6_control_236 : decode cX6_control 236 = .ok (.getfield 23, 3) := by decide +kernel
theorem dX6_control_239 : decode cX6_control 239 = .ok (.invokevirtual 99, 3) := by decide +kernel
theorem dX6_control_242 : decode cX6_control 242 = .ok (.goto 39, 3) := by decide +kernel
theorem dX6_control_245 : decode cX6_control 245 = .ok (.aload_n 1, 1) := by decide +kernel
theorem dX6_control_246 : decode cX6_control 246 = .ok (.iload_n 3, 1) := by decide +kernel
theorem dX6_control_247 : decode cX6_control 247 = .ok (.putfield 145, 3) := by decide +kernel
theorem dX6_control_250 : decode cX6_control 250 = .ok (.aload_n 0, 1) := by decide +kernel
theorem dX6_control_251 : decode cX6_control 251 = .ok (.getfield 15, 3) := by decide +kernel
theorem dX6_control_254 : decode cX6_control 254 = .ok (.aload_n 1, 1) := by decide +kernel
theorem dX6_control_255 : decode cX6_control 255 = .ok (.iload 4, 2) := by decide +kernel
theorem dX6_control_257 : decode cX6_control 257 = .ok (.invokevirtual 154, 3) := by decide +kernel
theorem dX6_control_260 : decode cX6_control 260 = .ok (.goto 21, 3) := by decide +kernel
theorem dX6_control_263 : decode cX6_control 263 = .ok (.aload_n 1, 1) := by decide +kernel
theorem dX6_control_264 : decode cX6_control 264 = .ok (.aload_n 1, 1) := by decide +kernel
theorem dX6_control_265 : decode cX6_control 265 = .ok (.getfield 128, 3) := by decide +kernel
theorem dX6_control_268 : decode cX6_control 268 = .ok (.putfield 145, 3) := by decide +kernel
theorem dX6_control_271 : decode cX6_control 271 = .ok (.aload_n 0, 1) := by decide +kernel
theorem dX6_control_272 : decode cX6_control 272 = .ok (.getfield 15, 3) := by decide +kernel
theorem dX6_control_275 : decode cX6_control 275 = .ok (.aload_n 1, 1) := by decide +kernel
theorem dX6_control_276 : decode cX6_control 276 = .ok (.iload 4, 2) := by decide +kernel
theorem dX6_control_278 : decode cX6_control 278 = .ok (.invokevirtual 154, 3) := by decide +kernel
theorem dX6_control_281 : decode cX6_control 281 = .ok (.return_, 1) := by decide +kernel
theorem dX7_init_0 : decode cX7_init 0 = .ok (.aload_n 0, 1) := by decide +kernel
theorem dX7_init_1 : decode cX7_init 1 = .ok (.invokespecial 3, 3) := by decide +kernel
theorem dX7_init_4 : decode cX7_init 4 = .ok (.aload_n 0, 1) := by decide +kernel
theorem dX7_init_5 : decode cX7_init 5 = .ok (.new 9, 3) := by decide +kernel
theorem dX7_init_8 : decode cX7_init 8 = .ok (.dup, 1) := by decide +kernel
theorem dX7_init_9 : decode cX7_init 9 = .ok (.bipush 10, 2) := by decide +kernel
theorem dX7_init_11 : decode cX7_init 11 = .ok (.invokespecial 11, 3) := by decide +kernel
theorem dX7_init_14 : decode cX7_init 14 = .ok (.putfield 14, 3) := by decide +kernel
theorem dX7_init_17 : decode cX7_init 17 = .ok (.aload_n 0, 1) := by decide +kernel
theorem dX7_init_18 : decode cX7_init 18 = .ok (.bipush 10, 2) := by decide +kernel
theorem dX7_init_20 : decode cX7_init 20 = .ok (.newarray .int, 2) := by decide +kernel
theorem dX7_init_22 : decode cX7_init 22 = .ok (.putfield 20, 3) := by decide +kernel
theorem dX7_init_25 : decode cX7_init 25 = .ok (.aload_n 0, 1) := by decide +kernel
theorem dX7_init_26 : decode cX7_init 26 = .ok (.iload_n 1, 1) := by decide +kernel
theorem dX7_init_27 : decode cX7_init 27 = .ok (.putfield 24, 3) := by decide +kernel
theorem dX7_init_30 : decode cX7_init 30 = .ok (.return_, 1) := by decide +kernel
theorem dX7_begin_0 : decode cX7_begin 0 = .ok (.aload_n 0, 1) := by decide +kernel
theorem dX7_begin_1 : decode cX7_begin 1 = .ok (.dup, 1) := by decide +kernel
theorem dX7_begin_2 : decode cX7_begin 2 = .ok (.getfield 28, 3) := by decide +kernel
theorem dX7_begin_5 : decode cX7_begin 5 = .ok (.iconst 1, 1) := by decide +kernel
theorem dX7_begin_6 : decode cX7_begin 6 = .ok (.iadd, 1) := by decide +kernel
theorem dX7_begin_7 : decode cX7_begin 7 = .ok (.putfield 28, 3) := by decide +kernel
theorem dX7_begin_10 : decode cX7_begin 10 = .ok (.aload_n 0, 1) := by decide +kernel
theorem dX7_begin_11 : decode cX7_begin 11 = .ok (.getfield 14, 3) := by decide +kernel
theorem dX7_begin_14 : decode cX7_begin 14 = .ok (.iconst 0, 1) := by decide +kernel
theorem dX7_begin_15 : decode cX7_begin 15 = .ok (.invokevirtual 31, 3) := by decide +kernel
theorem dX7_begin_18 : decode cX7_begin 18 = .ok (.ireturn, 1) := by decide +kernel
theorem dX7_end_0 : decode cX7_end 0 = .ok (.iload_n 1, 1) := by decide +kernel
theorem dX7_end_1 : decode cX7_end 1 = .ok (.iconst (-1), 1) := by decide +kernel
theorem dX7_end_2 : decode cX7_end 2 = .ok (.if_icmp .eq 15, 3) := by decide +kernel
theorem dX7_end_5 : decode cX7_end 5 = .ok (.aload_n 0, 1) := by decide +kernel
theorem dX7_end_6 : decode cX7_end 6 = .ok (.getfield 14, 3) := by decide +kernel
theorem dX7_end_9 : decode cX7_end 9 = .ok (.iconst 0, 1) := by decide +kernel
theorem dX7_end_10 : decode cX7_end 10 = .ok (.invokevirtual 31, 3) := by decide +kernel
theorem dX7_end_13 : decode cX7_end 13 = .ok (.iload_n 1, 1) := by decide +kernel
theorem dX7_end_14 : decode cX7_end 14 = .ok (.if_icmp .eq 4, 3) := by decide +kernel
theorem dX7_end_17 : decode cX7_end 17 = .ok (.return_, 1) := by decide +kernel
theorem dX7_end_18 : decode cX7_end 18 = .ok (.aload_n 0, 1) := by decide +kernel
theorem dX7_end_19 : decode cX7_end 19 = .ok (.dup, 1) := by decide +kernel
theorem dX7_end_20 : decode cX7_end 20 = .ok (.getfield 35, 3) := by decide +kernel
theorem dX7_end_23 : decode cX7_end 23 = .ok (.iconst 1, 1) := by decide +kernel
theorem dX7_end_24 : decode cX7_end 24 = .ok (.iadd, 1) := by decide +kernel
theorem dX7_end_25 : decode cX7_end 25 = .ok (.putfield 35, 3) := by decide +kernel
theorem dX7_end_28 : decode cX7_end 28 = .ok (.aload_n 0, 1) := by decide +kernel
theorem dX7_end_29 : decode cX7_end 29 = .ok (.getfield 35, 3) := by decide +kernel
theorem dX7_end_32 : decode cX7_end 32 = .ok (.aload_n 0, 1) := by decide +kernel
theorem dX7_end_33 : decode cX7_end 33 = .ok (.getfield 24, 3) := by decide +kernel
theorem dX7_end_36 : decode cX7_end 36 = .ok (.if_icmp .lt 16, 3) := by decide +kernel
theorem dX7_end_39 : decode cX7_end 39 = .ok (.aload_n 0, 1) := by decide +kernel
theorem dX7_end_40 : decode cX7_end 40 = .ok (.iload_n 1, 1) := by decide +kernel
theorem dX7_end_41 : decode cX7_end 41 = .ok (.invokevirtual 38, 3) := by decide +kernel
theorem dX7_end_44 : decode cX7_end 44 = .ok (.aload_n 0, 1) := by decide +kernel
theorem dX7_end_45 : decode cX7_end 45 = .ok (.getfield 14, 3) := by decide +kernel
theorem dX7_end_48 : decode cX7_end 48 = .ok (.iload_n 1, 1) := by decide +kernel
theorem dX7_end_49 : decode cX7_end 49 = .ok (.invokevirtual 41, 3) := by decide +kernel
theorem dX7_end_52 : decode cX7_end 52 = .ok (.return_, 1) := by decide +kernel
theorem dX7_leave_0 : decode cX7_leave 0 = .ok (.aload_n 0, 1) := by decide +kernel
theorem dX7_leave_1 : decode cX7_leave 1 = .ok (.getfield 14, 3) := by decide +kernel
theorem dX7_leave_4 : decode cX7_leave 4 = .ok (.aload_n 0, 1) := by decide +kernel
theorem dX7_leave_5 : decode cX7_leave 5 = .ok (.getfield 14, 3) := by decide +kernel
theorem dX7_leave_8 : decode cX7_leave 8 = .ok (.iload_n 1, 1) := by decide +kernel
theorem dX7_leave_9 : decode cX7_leave 9 = .ok (.invokevirtual 44, 3) := by decide +kernel
theorem dX7_leave_12 : decode cX7_leave 12 = .ok (.invokevirtual 47, 3) := by decide +kernel
theorem dX7_leave_15 : decode cX7_leave 15 = .ok (.aload_n 0, 1) := by decide +kernel
theorem dX7_leave_16 : decode cX7_leave 16 = .ok (.iconst 0, 1) := by decide +kernel
theorem dX7_leave_17 : decode cX7_leave 17 = .ok (.putfield 35, 3) := by decide +kernel
theorem dX7_leave_20 : decode cX7_leave 20 = .ok (.return_, 1) := by decide +kernel
theorem dX7_suspend_0 : decode cX7_suspend 0 = .ok (.iload_n 1, 1) := by decide +kernel
theorem dX7_suspend_1 : decode cX7_suspend 1 = .ok (.ifCond .lt 24, 3) := by decide +kernel
theorem dX7_suspend_4 : decode cX7_suspend 4 = .ok (.iload_n 1, 1) := by decide +kernel
theorem dX7_suspend_5 : decode cX7_suspend 5 = .ok (.aload_n 0, 1) := by decide +kernel
theorem dX7_suspend_6 : decode cX7_suspend 6 = .ok (.getfield 20, 3) := by decide +kernel
theorem dX7_suspend_9 : decode cX7_suspend 9 = .ok (.arraylength, 1) := by decide +kernel
theorem dX7_suspend_10 : decode cX7_suspend 10 = .ok (.if_icmp .ge 15, 3) := by decide +kernel
theorem dX7_suspend_13 : decode cX7_suspend 13 = .ok (.aload_n 0, 1) := by decide +kernel
theorem dX7_suspend_14 : decode cX7_suspend 14 = .ok (.getfield 20, 3) := by decide +kernel
theorem dX7_suspend_17 : decode cX7_suspend 17 = .ok (.iload_n 1, 1) := by decide +kernel
theorem dX7_suspend_18 : decode cX7_suspend 18 = .ok (.iload_n 2, 1) := by decide +kernel
theorem dX7_suspend_19 : decode cX7_suspend 19 = .ok (.iastore, 1) := by decide +kernel
theorem dX7_suspend_20 : decode cX7_suspend 20 = .ok (.aload_n 0, 1) := by decide +kernel
theorem dX7_suspend_21 : decode cX7_suspend 21 = .ok (.iload_n 1, 1) := by decide +kernel
theorem dX7_suspend_22 : decode cX7_suspend 22 = .ok (.invokevirtual 38, 3) := by decide +kernel
theorem dX7_suspend_25 : decode cX7_suspend 25 = .ok (.return_, 1) := by decide +kernel
theorem dX7_wake_0 : decode cX7_wake 0 = .ok (.iload_n 1, 1) := by decide +kernel
theorem dX7_wake_1 : decode cX7_wake 1 = .ok (.ifCond .lt 39, 3) := by decide +kernel
theorem dX7_wake_4 : decode cX7_wake 4 = .ok (.iload_n 1, 1) := by decide +kernel
theorem dX7_wake_5 : decode cX7_wake 5 = .ok (.aload_n 0, 1) := by decide +kernel
theorem dX7_wake_6 : decode cX7_wake 6 = .ok (.getfield 20, 3) := by decide +kernel
theorem dX7_wake_9 : decode cX7_wake 9 = .ok (.arraylength, 1) := by decide +kernel
theorem dX7_wake_10 : decode cX7_wake 10 = .ok (.if_icmp .ge 30, 3) := by decide +kernel
theorem dX7_wake_13 : decode cX7_wake 13 = .ok (.aload_n 0, 1) := by decide +kernel
theorem dX7_wake_14 : decode cX7_wake 14 = .ok (.getfield 20, 3) := by decide +kernel
theorem dX7_wake_17 : decode cX7_wake 17 = .ok (.iload_n 1, 1) := by decide +kernel
theorem dX7_wake_18 : decode cX7_wake 18 = .ok (.iconst 0, 1) := by decide +kernel
theorem dX7_wake_19 : decode cX7_wake 19 = .ok (.iastore, 1) := by decide +kernel
theorem dX7_wake_20 : decode cX7_wake 20 = .ok (.aload_n 0, 1) := by decide +kernel
theorem dX7_wake_21 : decode cX7_wake 21 = .ok (.getfield 14, 3) := by decide +kernel
theorem dX7_wake_24 : decode cX7_wake 24 = .ok (.iload_n 1, 1) := by decide +kernel
theorem dX7_wake_25 : decode cX7_wake 25 = .ok (.invokevirtual 44, 3) := by decide +kernel
theorem dX7_wake_28 : decode cX7_wake 28 = .ok (.iconst (-1), 1) := by decide +kernel
theorem dX7_wake_29 : decode cX7_wake 29 = .ok (.if_icmp .ne 11, 3) := by decide +kernel
theorem dX7_wake_32 : decode cX7_wake 32 = .ok (.aload_n 0, 1) := by decide +kernel
theorem dX7_wake_33 : decode cX7_wake 33 = .ok (.getfield 14, 3) := by decide +kernel
theorem dX7_wake_36 : decode cX7_wake 36 = .ok (.iload_n 1, 1) := by decide +kernel
theorem dX7_wake_37 : decode cX7_wake 37 = .ok (.invokevirtual 41, 3) := by decide +kernel
theorem dX7_wake_40 : decode cX7_wake 40 = .ok (.return_, 1) := by decide +kernel
theorem dX7_causeOf_0 : decode cX7_causeOf 0 = .ok (.iload_n 1, 1) := by decide +kernel
theorem dX7_causeOf_1 : decode cX7_causeOf 1 = .ok (.ifCond .lt 21, 3) := by decide +kernel
theorem dX7_causeOf_4 : decode cX7_causeOf 4 = .ok (.iload_n 1, 1) := by decide +kernel
theorem dX7_causeOf_5 : decode cX7_causeOf 5 = .ok (.aload_n 0, 1) := by decide +kernel
theorem dX7_causeOf_6 : decode cX7_causeOf 6 = .ok (.getfield 20, 3) := by decide +kernel
theorem dX7_causeOf_9 : decode cX7_causeOf 9 = .ok (.arraylength, 1) := by decide +kernel
theorem dX7_causeOf_10 : decode cX7_causeOf 10 = .ok (.if_icmp .ge 12, 3) := by decide +kernel
theorem dX7_causeOf_13 : decode cX7_causeOf 13 = .ok (.aload_n 0, 1) := by decide +kernel
theorem dX7_causeOf_14 : decode cX7_causeOf 14 = .ok (.getfield 20, 3) := by decide +kernel
theorem dX7_causeOf_17 : decode cX7_causeOf 17 = .ok (.iload_n 1, 1) := by decide +kernel
theorem dX7_causeOf_18 : decode cX7_causeOf 18 = .ok (.iaload, 1) := by decide +kernel
theorem dX7_causeOf_19 : decode cX7_causeOf 19 = .ok (.goto 4, 3) := by decide +kernel
theorem dX7_causeOf_22 : decode cX7_causeOf 22 = .ok (.iconst (-1), 1) := by decide +kernel
theorem dX7_causeOf_23 : decode cX7_causeOf 23 = .ok (.ireturn, 1) := by decide +kernel
theorem dX8_init_0 : decode cX8_init 0 = .ok (.aload_n 0, 1) := by decide +kernel
theorem dX8_init_1 : decode cX8_init 1 = .ok (.invokespecial 3, 3) := by decide +kernel
theorem dX8_init_4 : decode cX8_init 4 = .ok (.aload_n 0, 1) := by decide +kernel
theorem dX8_init_5 : decode cX8_init 5 = .ok (.iload_n 1, 1) := by decide +kernel
theorem dX8_init_6 : decode cX8_init 6 = .ok (.iconst 0, 1) := by decide +kernel
theorem dX8_init_7 : decode cX8_init 7 = .ok (.invokestatic 9, 3) := by decide +kernel
theorem dX8_init_10 : decode cX8_init 10 = .ok (.newarray .int, 2) := by decide +kernel
theorem dX8_init_12 : decode cX8_init 12 = .ok (.putfield 15, 3) := by decide +kernel
theorem dX8_init_15 : decode cX8_init 15 = .ok (.return_, 1) := by decide +kernel
theorem dX8_size_0 : decode cX8_size 0 = .ok (.aload_n 0, 1) := by decide +kernel
theorem dX8_size_1 : decode cX8_size 1 = .ok (.getfield 21, 3) := by decide +kernel
theorem dX8_size_4 : decode cX8_size 4 = .ok (.ireturn, 1) := by decide +kernel
theorem dX8_at_0 : decode cX8_at 0 = .ok (.iload_n 1, 1) := by decide +kernel
theorem dX8_at_1 : decode cX8_at 1 = .ok (.ifCond .lt 29, 3) := by decide +kernel
theorem dX8_at_4 : decode cX8_at 4 = .ok (.iload_n 1, 1) := by decide +kernel
theorem dX8_at_5 : decode cX8_at 5 = .ok (.aload_n 0, 1) := by decide +kernel
theorem dX8_at_6 : decode cX8_at 6 = .ok (.getfield 21, 3) := by decide +kernel
theorem dX8_at_9 : decode cX8_at 9 = .ok (.if_icmp .ge 21, 3) := by decide +kernel
theorem dX8_at_12 : decode cX8_at 12 = .ok (.iload_n 1, 1) := by decide +kernel
theorem dX8_at_13 : decode cX8_at 13 = .ok (.aload_n 0, 1) := by decide +kernel
theorem dX8_at_14 : decode cX8_at 14 = .ok (.getfield 15, 3) := by decide +kernel
theorem dX8_at_17 : decode cX8_at 17 = .ok (.arraylength, 1) := by decide +kernel
theorem dX8_at_18 : decode cX8_at 18 = .ok (.if_icmp .ge 12, 3) := by decide +kernel
theorem dX8_at_21 : decode cX8_at 21 = .ok (.aload_n 0, 1) := by decide +kernel
theorem dX8_at_22 : decode cX8_at 22 = .ok (.getfield 15, 3) := by decide +kernel
theorem dX8_at_25 : decode cX8_at 25 = .ok (.iload_n 1, 1) := by decide +kernel
theorem dX8_at_26 : decode cX8_at 26 = .ok (.iaload, 1) := by decide +kernel
theorem dX8_at_27 : decode cX8_at 27 = .ok (.goto 4, 3) := by decide +kernel
theorem dX8_at_30 : decode cX8_at 30 = .ok (.iconst (-1), 1) := by decide +kernel
theorem dX8_at_31 : decode cX8_at 31 = .ok (.ireturn, 1) := by decide +kernel
theorem dX8_append_0 : decode cX8_append 0 = .ok (.aload_n 0, 1) := by decide +kernel
theorem dX8_append_1 : decode cX8_append 1 = .ok (.getfield 21, 3) := by decide +kernel
theorem dX8_append_4 : decode cX8_append 4 = .ok (.ifCond .lt 35, 3) := by decide +kernel
theorem dX8_append_7 : decode cX8_append 7 = .ok (.aload_n 0, 1) := by decide +kernel
theorem dX8_append_8 : decode cX8_append 8 = .ok (.getfield 21, 3) := by decide +kernel
theorem dX8_append_11 : decode cX8_append 11 = .ok (.aload_n 0, 1) := by decide +kernel
theorem dX8_append_12 : decode cX8_append 12 = .ok (.getfield 15, 3) := by decide +kernel
theorem dX8_append_15 : decode cX8_append 15 = .ok (.arraylength, 1) := by decide +kernel
theorem dX8_append_16 : decode cX8_append 16 = .ok (.if_icmp .ge 23, 3) := by decide +kernel
theorem dX8_append_19 : decode cX8_append 19 = .ok (.aload_n 0, 1) := by decide +kernel
theorem dX8_append_20 : decode cX8_append 20 = .ok (.getfield 15, 3) := by decide +kernel
theorem dX8_append_23 : decode cX8_append 23 = .ok (.aload_n 0, 1) := by decide +kernel
theorem dX8_append_24 : decode cX8_append 24 = .ok (.getfield 21, 3) := by decide +kernel
theorem dX8_append_27 : decode cX8_append 27 = .ok (.iload_n 1, 1) := by decide +kernel
theorem dX8_append_28 : decode cX8_append 28 = .ok (.iastore, 1) := by decide +kernel
theorem dX8_append_29 : decode cX8_append 29 = .ok (.aload_n 0, 1) := by decide +kernel
theorem dX8_append_30 : decode cX8_append 30 = .ok (.dup, 1) := by decide +kernel
theorem dX8_append_31 : decode cX8_append 31 = .ok (.getfield 21, 3) := by decide +kernel
theorem dX8_append_34 : decode cX8_append 34 = .ok (.iconst 1, 1) := by decide +kernel
theorem dX8_append_35 : decode cX8_append 35 = .ok (.iadd, 1) := by decide +kernel
theorem dX8_append_36 : decode cX8_append 36 = .ok (.putfield 21, 3) := by decide +kernel
theorem dX8_append_39 : decode cX8_append 39 = .ok (.return_, 1) := by decide +kernel
theorem dX8_placeOf_0 : decode cX8_placeOf 0 = .ok (.iconst 0, 1) := by decide +kernel
theorem dX8_placeOf_1 : decode cX8_placeOf 1 = .ok (.istore_n 2, 1) := by decide +kernel
theorem dX8_placeOf_2 : decode cX8_placeOf 2 = .ok (.iload_n 2, 1) := by decide +kernel
theorem dX8_placeOf_3 : decode cX8_placeOf 3 = .ok (.aload_n 0, 1) := by decide +kernel
theorem dX8_placeOf_4 : decode cX8_placeOf 4 = .ok (.getfield 21, 3) := by decide +kernel
theorem dX8_placeOf_7 : decode cX8_placeOf 7 = .ok (.if_icmp .ge 30, 3) := by decide +kernel
theorem dX8_placeOf_10 : decode cX8_placeOf 10 = .ok (.iload_n 2, 1) := by decide +kernel
theorem dX8_placeOf_11 : decode cX8_placeOf 11 = .ok (.aload_n 0, 1) := by decide +kernel
theorem dX8_placeOf_12 : decode cX8_placeOf 12 = .ok (.getfield 15, 3) := by decide +kernel
theorem dX8_placeOf_15 : decode cX8_placeOf 15 = .ok (.arraylength, 1) := by decide +kernel
theorem dX8_placeOf_16 : decode cX8_placeOf 16 = .ok (.if_icmp .ge 21, 3) := by decide +kernel
theorem dX8_placeOf_19 : decode cX8_placeOf 19 = .ok (.aload_n 0, 1) := by decide +kernel
theorem dX8_placeOf_20 : decode cX8_placeOf 20 = .ok (.getfield 15, 3) := by decide +kernel
theorem dX8_placeOf_23 : decode cX8_placeOf 23 = .ok (.iload_n 2, 1) := by decide +kernel
theorem dX8_placeOf_24 : decode cX8_placeOf 24 = .ok (.iaload, 1) := by decide +kernel
theorem dX8_placeOf_25 : decode cX8_placeOf 25 = .ok (.iload_n 1, 1) := by decide +kernel
theorem dX8_placeOf_26 : decode cX8_placeOf 26 = .ok (.if_icmp .ne 5, 3) := by decide +kernel
theorem dX8_placeOf_29 : decode cX8_placeOf 29 = .ok (.iload_n 2, 1) := by decide +kernel
theorem dX8_placeOf_30 : decode cX8_placeOf 30 = .ok (.ireturn, 1) := by decide +kernel
theorem dX8_placeOf_31 : decode cX8_placeOf 31 = .ok (.iinc 2 1, 3) := by decide +kernel
theorem dX8_placeOf_34 : decode cX8_placeOf 34 = .ok (.goto (-32), 3) := by decide +kernel
theorem dX8_placeOf_37 : decode cX8_placeOf 37 = .ok (.iconst (-1), 1) := by decide +kernel
theorem dX8_placeOf_38 : decode cX8_placeOf 38 = .ok (.ireturn, 1) := by decide +kernel
theorem dX8_removeAt_0 : decode cX8_removeAt 0 = .ok (.iload_n 1, 1) := by decide +kernel
theorem dX8_removeAt_1 : decode cX8_removeAt 1 = .ok (.ifCond .lt 11, 3) := by decide +kernel
theorem dX8_removeAt_4 : decode cX8_removeAt 4 = .ok (.iload_n 1, 1) := by decide +kernel
theorem dX8_removeAt_5 : decode cX8_removeAt 5 = .ok (.aload_n 0, 1) := by decide +kernel
theorem dX8_removeAt_6 : decode cX8_removeAt 6 = .ok (.getfield 21, 3) := by decide +kernel
theorem dX8_removeAt_9 : decode cX8_removeAt 9 = .ok (.if_icmp .lt 4, 3) := by decide +kernel
theorem dX8_removeAt_12 : decode cX8_removeAt 12 = .ok (.return_, 1) := by decide +kernel
theorem dX8_removeAt_13 : decode cX8_removeAt 13 = .ok (.iload_n 1, 1) := by decide +kernel
theorem dX8_removeAt_14 : decode cX8_removeAt 14 = .ok (.iconst 1, 1) := by decide +kernel
theorem dX8_removeAt_15 : decode cX8_removeAt 15 = .ok (.iadd, 1) := by decide +kernel
theorem dX8_removeAt_16 : decode cX8_removeAt 16 = .ok (.istore_n 2, 1) := by decide +kernel
theorem dX8_removeAt_17 : decode cX8_removeAt 17 = .ok (.iload_n 2, 1) := by decide +kernel
theorem dX8_removeAt_18 : decode cX8_removeAt 18 = .ok (.aload_n 0, 1) := by decide +kernel
theorem dX8_removeAt_19 : decode cX8_removeAt 19 = .ok (.getfield 21, 3) := by decide +kernel
theorem dX8_removeAt_22 : decode cX8_removeAt 22 = .ok (.if_icmp .ge 32, 3) := by decide +kernel
theorem dX8_removeAt_25 : decode cX8_removeAt 25 = .ok (.iload_n 2, 1) := by decide +kernel
theorem dX8_removeAt_26 : decode cX8_removeAt 26 = .ok (.aload_n 0, 1) := by decide +kernel
theorem dX8_removeAt_27 : decode cX8_removeAt 27 = .ok (.getfield 15, 3) := by decide +kernel
theorem dX8_removeAt_30 : decode cX8_removeAt 30 = .ok (.arraylength, 1) := by decide +kernel
theorem dX8_removeAt_31 : decode cX8_removeAt 31 = .ok (.if_icmp .ge 23, 3) := by decide +kernel
theorem dX8_removeAt_34 : decode cX8_removeAt 34 = .ok (.aload_n 0, 1) := by decide +kernel
theorem dX8_removeAt_35 : decode cX8_removeAt 35 = .ok (.getfield 15, 3) := by decide +kernel
theorem dX8_removeAt_38 : decode cX8_removeAt 38 = .ok (.iload_n 2, 1) := by decide +kernel
theorem dX8_removeAt_39 : decode cX8_removeAt 39 = .ok (.iconst 1, 1) := by decide +kernel
theorem dX8_removeAt_40 : decode cX8_removeAt 40 = .ok (.isub, 1) := by decide +kernel
theorem dX8_removeAt_41 : decode cX8_removeAt 41 = .ok (.aload_n 0, 1) := by decide +kernel
theorem dX8_removeAt_42 : decode cX8_removeAt 42 = .ok (.getfield 15, 3) := by decide +kernel
theorem dX8_removeAt_45 : decode cX8_removeAt 45 = .ok (.iload_n 2, 1) := by decide +kernel
theorem dX8_removeAt_46 : decode cX8_removeAt 46 = .ok (.iaload, 1) := by decide +kernel
theorem dX8_removeAt_47 : decode cX8_removeAt 47 = .ok (.iastore, 1) := by decide +kernel
theorem dX8_removeAt_48 : decode cX8_removeAt 48 = .ok (.iinc 2 1, 3) := by decide +kernel
theorem dX8_removeAt_51 : decode cX8_removeAt 51 = .ok (.goto (-34), 3) := by decide +kernel
theorem dX8_removeAt_54 : decode cX8_removeAt 54 = .ok (.aload_n 0, 1) := by decide +kernel
theorem dX8_removeAt_55 : decode cX8_removeAt 55 = .ok (.dup, 1) := by decide +kernel
theorem dX8_removeAt_56 : decode cX8_removeAt 56 = .ok (.getfield 21, 3) := by decide +kernel
theorem dX8_removeAt_59 : decode cX8_removeAt 59 = .ok (.iconst 1, 1) := by decide +kernel
theorem dX8_removeAt_60 : decode cX8_removeAt 60 = .ok (.isub, 1) := by decide +kernel
theorem dX8_removeAt_61 : decode cX8_removeAt 61 = .ok (.putfield 21, 3) := by decide +kernel
theorem dX8_removeAt_64 : decode cX8_removeAt 64 = .ok (.return_, 1) := by decide +kernel
theorem dX8_clear_0 : decode cX8_clear 0 = .ok (.aload_n 0, 1) := by decide +kernel
theorem dX8_clear_1 : decode cX8_clear 1 = .ok (.iconst 0, 1) := by decide +kernel
theorem dX8_clear_2 : decode cX8_clear 2 = .ok (.putfield 21, 3) := by decide +kernel
theorem dX8_clear_5 : decode cX8_clear 5 = .ok (.return_, 1) := by decide +kernel
theorem dX9_init_0 : decode cX9_init 0 = .ok (.aload_n 0, 1) := by decide +kernel
theorem dX9_init_1 : decode cX9_init 1 = .ok (.invokespecial 1, 3) := by decide +kernel
theorem dX9_init_4 : decode cX9_init 4 = .ok (.aload_n 0, 1) := by decide +kernel
theorem dX9_init_5 : decode cX9_init 5 = .ok (.aload_n 1, 1) := by decide +kernel
theorem dX9_init_6 : decode cX9_init 6 = .ok (.putfield 7, 3) := by decide +kernel
theorem dX9_init_9 : decode cX9_init 9 = .ok (.aload_n 0, 1) := by decide +kernel
theorem dX9_init_10 : decode cX9_init 10 = .ok (.iload_n 2, 1) := by decide +kernel
theorem dX9_init_11 : decode cX9_init 11 = .ok (.putfield 13, 3) := by decide +kernel
theorem dX9_init_14 : decode cX9_init 14 = .ok (.aload_n 0, 1) := by decide +kernel
theorem dX9_init_15 : decode cX9_init 15 = .ok (.iload_n 3, 1) := by decide +kernel
theorem dX9_init_16 : decode cX9_init 16 = .ok (.putfield 17, 3) := by decide +kernel
theorem dX9_init_19 : decode cX9_init 19 = .ok (.return_, 1) := by decide +kernel
theorem dX9_v_0 : decode cX9_v 0 = .ok (.aload_n 0, 1) := by decide +kernel
theorem dX9_v_1 : decode cX9_v 1 = .ok (.getfield 20, 3) := by decide +kernel
theorem dX9_v_4 : decode cX9_v 4 = .ok (.ifCond .eq 22, 3) := by decide +kernel
theorem dX9_v_7 : decode cX9_v 7 = .ok (.aload_n 0, 1) := by decide +kernel
theorem dX9_v_8 : decode cX9_v 8 = .ok (.iconst 0, 1) := by decide +kernel
theorem dX9_v_9 : decode cX9_v 9 = .ok (.putfield 20, 3) := by decide +kernel
theorem dX9_v_12 : decode cX9_v 12 = .ok (.aload_n 0, 1) := by decide +kernel
theorem dX9_v_13 : decode cX9_v 13 = .ok (.getfield 7, 3) := by decide +kernel
theorem dX9_v_16 : decode cX9_v 16 = .ok (.aload_n 0, 1) := by decide +kernel
theorem dX9_v_17 : decode cX9_v 17 = .ok (.getfield 13, 3) := by decide +kernel
theorem dX9_v_20 : decode cX9_v 20 = .ok (.invokevirtual 24, 3) := by decide +kernel
theorem dX9_v_23 : decode cX9_v 23 = .ok (.goto 13, 3) := by decide +kernel
theorem dX9_v_26 : decode cX9_v 26 = .ok (.aload_n 0, 1) := by decide +kernel
theorem dX9_v_27 : decode cX9_v 27 = .ok (.dup, 1) := by decide +kernel
theorem dX9_v_28 : decode cX9_v 28 = .ok (.getfield 30, 3) := by decide +kernel
theorem dX9_v_31 : decode cX9_v 31 = .ok (.iconst 1, 1) := by decide +kernel
theorem dX9_v_32 : decode cX9_v 32 = .ok (.iadd, 1) := by decide +kernel
theorem dX9_v_33 : decode cX9_v 33 = .ok (.putfield 30, 3) := by decide +kernel
theorem dX9_v_36 : decode cX9_v 36 = .ok (.return_, 1) := by decide +kernel
theorem dX9_p_0 : decode cX9_p 0 = .ok (.aload_n 0, 1) := by decide +kernel
theorem dX9_p_1 : decode cX9_p 1 = .ok (.getfield 30, 3) := by decide +kernel
theorem dX9_p_4 : decode cX9_p 4 = .ok (.ifCond .le 16, 3) := by decide +kernel
theorem dX9_p_7 : decode cX9_p 7 = .ok (.aload_n 0, 1) := by decide +kernel
theorem dX9_p_8 : decode cX9_p 8 = .ok (.dup, 1) := by decide +kernel
theorem dX9_p_9 : decode cX9_p 9 = .ok (.getfield 30, 3) := by decide +kernel
theorem dX9_p_12 : decode cX9_p 12 = .ok (.iconst 1, 1) := by decide +kernel
theorem dX9_p_13 : decode cX9_p 13 = .ok (.isub, 1) := by decide +kernel
theorem dX9_p_14 : decode cX9_p 14 = .ok (.putfield 30, 3) := by decide +kernel
theorem dX9_p_17 : decode cX9_p 17 = .ok (.goto 23, 3) := by decide +kernel
theorem dX9_p_20 : decode cX9_p 20 = .ok (.aload_n 0, 1) := by decide +kernel
theorem dX9_p_21 : decode cX9_p 21 = .ok (.iconst 1, 1) := by decide +kernel
theorem dX9_p_22 : decode cX9_p 22 = .ok (.putfield 20, 3) := by decide +kernel
theorem dX9_p_25 : decode cX9_p 25 = .ok (.aload_n 0, 1) := by decide +kernel
theorem dX9_p_26 : decode cX9_p 26 = .ok (.getfield 7, 3) := by decide +kernel
theorem dX9_p_29 : decode cX9_p 29 = .ok (.aload_n 0, 1) := by decide +kernel
theorem dX9_p_30 : decode cX9_p 30 = .ok (.getfield 13, 3) := by decide +kernel
theorem dX9_p_33 : decode cX9_p 33 = .ok (.aload_n 0, 1) := by decide +kernel
theorem dX9_p_34 : decode cX9_p 34 = .ok (.getfield 17, 3) := by decide +kernel
theorem dX9_p_37 : decode cX9_p 37 = .ok (.invokevirtual 33, 3) := by decide +kernel
theorem dX9_p_40 : decode cX9_p 40 = .ok (.return_, 1) := by decide +kernel
theorem dX10_init_0 : decode cX10_init 0 = .ok (.aload_n 0, 1) := by decide +kernel
theorem dX10_init_1 : decode cX10_init 1 = .ok (.invokespecial 3, 3) := by decide +kernel
theorem dX10_init_4 : decode cX10_init 4 = .ok (.aload_n 0, 1) := by decide +kernel
theorem dX10_init_5 : decode cX10_init 5 = .ok (.new 9, 3) := by decide +kernel
theorem dX10_init_8 : decode cX10_init 8 = .ok (.dup, 1) := by decide +kernel
theorem dX10_init_9 : decode cX10_init 9 = .ok (.invokespecial 11, 3) := by decide +kernel
theorem dX10_init_12 : decode cX10_init 12 = .ok (.putfield 12, 3) := by decide +kernel
theorem dX10_init_15 : decode cX10_init 15 = .ok (.aload_n 0, 1) := by decide +kernel
theorem dX10_init_16 : decode cX10_init 16 = .ok (.iconst 0, 1) := by decide +kernel
theorem dX10_init_17 : decode cX10_init 17 = .ok (.putfield 18, 3) := by decide +kernel
theorem dX10_init_20 : decode cX10_init 20 = .ok (.aload_n 0, 1) := by decide +kernel
theorem dX10_init_21 : decode cX10_init 21 = .ok (.iconst 0, 1) := by decide +kernel
theorem dX10_init_22 : decode cX10_init 22 = .ok (.putfield 22, 3) := by decide +kernel
theorem dX10_init_25 : decode cX10_init 25 = .ok (.aload_n 0, 1) := by decide +kernel
theorem dX10_init_26 : decode cX10_init 26 = .ok (.aload_n 1, 1) := by decide +kernel
theorem dX10_init_27 : decode cX10_init 27 = .ok (.putfield 25, 3) := by decide +kernel
theorem dX10_init_30 : decode cX10_init 30 = .ok (.aload_n 0, 1) := by decide +kernel
theorem dX10_init_31 : decode cX10_init 31 = .ok (.aload_n 2, 1) := by decide +kernel
theorem dX10_init_32 : decode cX10_init 32 = .ok (.putfield 29, 3) := by decide +kernel
theorem dX10_init_35 : decode cX10_init 35 = .ok (.aload_n 0, 1) := by decide +kernel
theorem dX10_init_36 : decode cX10_init 36 = .ok (.new 33, 3) := by decide +kernel
theorem dX10_init_39 : decode cX10_init 39 = .ok (.dup, 1) := by decide +kernel
theorem dX10_init_40 : decode cX10_init 40 = .ok (.aload_n 1, 1) := by decide +kernel
theorem dX10_init_41 : decode cX10_init 41 = .ok (.bipush 6, 2) := by decide +kernel
theorem dX10_init_43 : decode cX10_init 43 = .ok (.bipush 7, 2) := by decide +kernel
theorem dX10_init_45 : decode cX10_init 45 = .ok (.invokespecial 35, 3) := by decide +kernel
theorem dX10_init_48 : decode cX10_init 48 = .ok (.putfield 38, 3) := by decide +kernel
theorem dX10_init_51 : decode cX10_init 51 = .ok (.aload_n 0, 1) := by decide +kernel
theorem dX10_init_52 : decode cX10_init 52 = .ok (.new 33, 3) := by decide +kernel
theorem dX10_init_55 : decode cX10_init 55 = .ok (.dup, 1) := by decide +kernel
theorem dX10_init_56 : decode cX10_init 56 = .ok (.aload_n 1, 1) := by decide +kernel
theorem dX10_init_57 : decode cX10_init 57 = .ok (.bipush 6, 2) := by decide +kernel
theorem dX10_init_59 : decode cX10_init 59 = .ok (.bipush 8, 2) := by decide +kernel
theorem dX10_init_61 : decode cX10_init 61 = .ok (.invokespecial 35, 3) := by decide +kernel
theorem dX10_init_64 : decode cX10_init 64 = .ok (.putfield 42, 3) := by decide +kernel
theorem dX10_init_67 : decode cX10_init 67 = .ok (.aload_n 0, 1) := by decide +kernel
theorem dX10_init_68 : decode cX10_init 68 = .ok (.getfield 38, 3) := by decide +kernel
theorem dX10_init_71 : decode cX10_init 71 = .ok (.invokevirtual 45, 3) := by decide +kernel
theorem dX10_init_74 : decode cX10_init 74 = .ok (.return_, 1) := by decide +kernel
theorem dX10_ask_0 : decode cX10_ask 0 = .ok (.aload_n 1, 1) := by decide +kernel
theorem dX10_ask_1 : decode cX10_ask 1 = .ok (.iload_n 2, 1) := by decide +kernel
theorem dX10_ask_2 : decode cX10_ask 2 = .ok (.putfield 48, 3) := by decide +kernel
theorem dX10_ask_5 : decode cX10_ask 5 = .ok (.aload_n 0, 1) := by decide +kernel
theorem dX10_ask_6 : decode cX10_ask 6 = .ok (.getfield 12, 3) := by decide +kernel
theorem dX10_ask_9 : decode cX10_ask 9 = .ok (.aload_n 1, 1) := by decide +kernel
theorem dX10_ask_10 : decode cX10_ask 10 = .ok (.invokevirtual 52, 3) := by decide +kernel
theorem dX10_ask_13 : decode cX10_ask 13 = .ok (.pop, 1) := by decide +kernel
theorem dX10_ask_14 : decode cX10_ask 14 = .ok (.aload_n 0, 1) := by decide +kernel
theorem dX10_ask_15 : decode cX10_ask 15 = .ok (.getfield 25, 3) := by decide +kernel
theorem dX10_ask_18 : decode cX10_ask 18 = .ok (.aload_n 1, 1) := by decide +kernel
theorem dX10_ask_19 : decode cX10_ask 19 = .ok (.getfield 56, 3) := by decide +kernel
theorem dX10_ask_22 : decode cX10_ask 22 = .ok (.iconst 1, 1) := by decide +kernel
theorem dX10_ask_23 : decode cX10_ask 23 = .ok (.invokevirtual 59, 3) := by decide +kernel
theorem dX10_ask_26 : decode cX10_ask 26 = .ok (.aload_n 0, 1) := by decide +kernel
theorem dX10_ask_27 : decode cX10_ask 27 = .ok (.getfield 38, 3) := by decide +kernel
theorem dX10_ask_30 : decode cX10_ask 30 = .ok (.invokevirtual 65, 3) := by decide +kernel
theorem dX10_ask_33 : decode cX10_ask 33 = .ok (.return_, 1) := by decide +kernel
theorem dX10_step_0 : decode cX10_step 0 = .ok (.aload_n 0, 1) := by decide +kernel
theorem dX10_step_1 : decode cX10_step 1 = .ok (.getfield 22, 3) := by decide +kernel
theorem dX10_step_4 : decode cX10_step 4 = .ok (.iconst 1, 1) := by decide +kernel
theorem dX10_step_5 : decode cX10_step 5 = .ok (.if_icmp .ne 11, 3) := by decide +kernel
theorem dX10_step_8 : decode cX10_step 8 = .ok (.aload_n 0, 1) := by decide +kernel
theorem dX10_step_9 : decode cX10_step 9 = .ok (.iconst 2, 1) := by decide +kernel
theorem dX10_step_10 : decode cX10_step 10 = .ok (.invokevirtual 68, 3) := by decide +kernel
theorem dX10_step_13 : decode cX10_step 13 = .ok (.goto 22, 3) := by decide +kernel
theorem dX10_step_16 : decode cX10_step 16 = .ok (.aload_n 0, 1) := by decide +kernel
theorem dX10_step_17 : decode cX10_step 17 = .ok (.getfield 22, 3) := by decide +kernel
theorem dX10_step_20 : decode cX10_step 20 = .ok (.iconst 2, 1) := by decide +kernel
theorem dX10_step_21 : decode cX10_step 21 = .ok (.if_icmp .ne 10, 3) := by decide +kernel
theorem dX10_step_24 : decode cX10_step 24 = .ok (.aload_n 0, 1) := by decide +kernel
theorem dX10_step_25 : decode cX10_step 25 = .ok (.invokevirtual 72, 3) := by decide +kernel
theorem dX10_step_28 : decode cX10_step 28 = .ok (.goto 7, 3) := by decide +kernel
theorem dX10_step_31 : decode cX10_step 31 = .ok (.aload_n 0, 1) := by decide +kernel
theorem dX10_step_32 : decode cX10_step 32 = .ok (.invokevirtual 75, 3) := by decide +kernel
theorem dX10_step_35 : decode cX10_step 35 = .ok (.aload_n 0, 1) := by decide +kernel
theorem dX10_step_36 : decode cX10_step 36 = .ok (.getfield 22, 3) := by decide +kernel
theorem dX10_step_39 : decode cX10_step 39 = .ok (.ifCond .ne 13, 3) := by decide +kernel
theorem dX10_step_42 : decode cX10_step 42 = .ok (.aload_n 0, 1) := by decide +kernel
theorem dX10_step_43 : decode cX10_step 43 = .ok (.getfield 38, 3) := by decide +kernel
theorem dX10_step_46 : decode cX10_step 46 = .ok (.invokevirtual 45, 3) := by decide +kernel
theorem dX10_step_49 : decode cX10_step 49 = .ok (.goto 10, 3) := by decide +kernel
theorem dX10_step_52 : decode cX10_step 52 = .ok (.aload_n 0, 1) := by decide +kernel
theorem dX10_step_53 : decode cX10_step 53 = .ok (.getfield 42, 3) := by decide +kernel
theorem dX10_step_56 : decode cX10_step 56 = .ok (.invokevirtual 45, 3) := by decide +kernel
theorem dX10_step_59 : decode cX10_step 59 = .ok (.return_, 1) := by decide +kernel
theorem dX10_takeFirst_0 : decode cX10_takeFirst 0 = .ok (.aload_n 0, 1) := by decide +kernel
theorem dX10_takeFirst_1 : decode cX10_takeFirst 1 = .ok (.getfield 29, 3) := by decide +kernel
theorem dX10_takeFirst_4 : decode cX10_takeFirst 4 = .ok (.invokevirtual 78, 3) := by decide +kernel
theorem dX10_takeFirst_7 : decode cX10_takeFirst 7 = .ok (.astore_n 1, 1) := by decide +kernel
theorem dX10_takeFirst_8 : decode cX10_takeFirst 8 = .ok (.aload_n 0, 1) := by decide +kernel
theorem dX10_takeFirst_9 : decode cX10_takeFirst 9 = .ok (.getfield 12, 3) := by decide +kernel
theorem dX10_takeFirst_12 : decode cX10_takeFirst 12 = .ok (.invokevirtual 84, 3) := by decide +kernel
theorem dX10_takeFirst_15 : decode cX10_takeFirst 15 = .ok (.ifCond .ne 7, 3) := by decide +kernel
theorem dX10_takeFirst_18 : decode cX10_takeFirst 18 = .ok (.aload_n 1, 1) := by decide +kernel
theorem dX10_takeFirst_19 : decode cX10_takeFirst 19 = .ok (.ifnonnull 4, 3) := by decide +kernel
theorem dX10_takeFirst_22 : decode cX10_takeFirst 22 = .ok (.return_, 1) := by decide +kernel
theorem dX10_takeFirst_23 : decode cX10_takeFirst 23 = .ok (.aload_n 0, 1) := by decide +kernel
theorem dX10_takeFirst_24 : decode cX10_takeFirst 24 = .ok (.aload_n 0, 1) := by decide +kernel
theorem dX10_takeFirst_25 : decode cX10_takeFirst 25 = .ok (.getfield 12, 3) := by decide +kernel
theorem dX10_takeFirst_28 : decode cX10_takeFirst 28 = .ok (.iconst 0, 1) := by decide +kernel
theorem dX10_takeFirst_29 : decode cX10_takeFirst 29 = .ok (.invokevirtual 88, 3) := by decide +kernel
theorem dX10_takeFirst_32 : decode cX10_takeFirst 32 = .ok (.checkcast 49, 3) := by decide +kernel
theorem dX10_takeFirst_35 : decode cX10_takeFirst 35 = .ok (.putfield 92, 3) := by decide +kernel
theorem dX10_takeFirst_38 : decode cX10_takeFirst 38 = .ok (.aload_n 0, 1) := by decide +kernel
theorem dX10_takeFirst_39 : decode cX10_takeFirst 39 = .ok (.aload_n 1, 1) := by decide +kernel
theorem dX10_takeFirst_40 : decode cX10_takeFirst 40 = .ok (.putfield 96, 3) := by decide +kernel
theorem dX10_takeFirst_43 : decode cX10_takeFirst 43 = .ok (.aload_n 1, 1) := by decide +kernel
theorem dX10_takeFirst_44 : decode cX10_takeFirst 44 = .ok (.getfield 100, 3) := by decide +kernel
theorem dX10_takeFirst_47 : decode cX10_takeFirst 47 = .ok (.astore_n 2, 1) := by decide +kernel
theorem dX10_takeFirst_48 : decode cX10_takeFirst 48 = .ok (.aload_n 2, 1) := by decide +kernel
theorem dX10_takeFirst_49 : decode cX10_takeFirst 49 = .ok (.ifnull 14, 3) := by decide +kernel
theorem dX10_takeFirst_52 : decode cX10_takeFirst 52 = .ok (.aload_n 1, 1) := by decide +kernel
theorem dX10_takeFirst_53 : decode cX10_takeFirst 53 = .ok (.getfield 105, 3) := by decide +kernel
theorem dX10_takeFirst_56 : decode cX10_takeFirst 56 = .ok (.ifCond .eq 7, 3) := by decide +kernel
theorem dX10_takeFirst_59 : decode cX10_takeFirst 59 = .ok (.iconst 1, 1) := by decide +kernel
theorem dX10_takeFirst_60 : decode cX10_takeFirst 60 = .ok (.goto 4, 3) := by decide +kernel
theorem dX10_takeFirst_63 : decode cX10_takeFirst 63 = .ok (.iconst 0, 1) := by decide +kernel
theorem dX10_takeFirst_64 : decode cX10_takeFirst 64 = .ok (.istore_n 3, 1) := by decide +kernel
theorem dX10_takeFirst_65 : decode cX10_takeFirst 65 = .ok (.iload_n 3, 1) := by decide +kernel
theorem dX10_takeFirst_66 : decode cX10_takeFirst 66 = .ok (.ifCond .eq 24, 3) := by decide +kernel
theorem dX10_takeFirst_69 : decode cX10_takeFirst 69 = .ok (.aload_n 0, 1) := by decide +kernel
theorem dX10_takeFirst_70 : decode cX10_takeFirst 70 = .ok (.aload_n 2, 1) := by decide +kernel
theorem dX10_takeFirst_71 : decode cX10_takeFirst 71 = .ok (.putfield 109, 3) := by decide +kernel
theorem dX10_takeFirst_74 : decode cX10_takeFirst 74 = .ok (.aload_n 0, 1) := by decide +kernel
theorem dX10_takeFirst_75 : decode cX10_takeFirst 75 = .ok (.aload_n 2, 1) := by decide +kernel
theorem dX10_takeFirst_76 : decode cX10_takeFirst 76 = .ok (.getfield 112, 3) := by decide +kernel
theorem dX10_takeFirst_79 : decode cX10_takeFirst 79 = .ok (.putfield 115, 3) := by decide +kernel
theorem dX10_takeFirst_82 : decode cX10_takeFirst 82 = .ok (.aload_n 0, 1) := by decide +kernel
theorem dX10_takeFirst_83 : decode cX10_takeFirst 83 = .ok (.aload_n 1, 1) := by decide +kernel
theorem dX10_takeFirst_84 : decode cX10_takeFirst 84 = .ok (.getfield 118, 3) := by decide +kernel
theorem dX10_takeFirst_87 : decode cX10_takeFirst 87 = .ok (.putfield 121, 3) := by decide +kernel
theorem dX10_takeFirst_90 : decode cX10_takeFirst 90 = .ok (.aload_n 1, 1) := by decide +kernel
theorem dX10_takeFirst_91 : decode cX10_takeFirst 91 = .ok (.invokevirtual 124, 3) := by decide +kernel
theorem dX10_takeFirst_94 : decode cX10_takeFirst 94 = .ok (.aload_n 1, 1) := by decide +kernel
theorem dX10_takeFirst_95 : decode cX10_takeFirst 95 = .ok (.iconst 1, 1) := by decide +kernel
theorem dX10_takeFirst_96 : decode cX10_takeFirst 96 = .ok (.putfield 127, 3) := by decide +kernel
theorem dX10_takeFirst_99 : decode cX10_takeFirst 99 = .ok (.aload_n 0, 1) := by decide +kernel
theorem dX10_takeFirst_100 : decode cX10_takeFirst 100 = .ok (.iload_n 3, 1) := by decide +kernel
theorem dX10_takeFirst_101 : decode cX10_takeFirst 101 = .ok (.ifCond .eq 7, 3) := by decide +kernel
theorem dX10_takeFirst_104 : decode cX10_takeFirst 104 = .ok (.iconst 1, 1) := by decide +kernel
theorem dX10_takeFirst_105 : decode cX10_takeFirst 105 = .ok (.goto 4, 3) := by decide +kernel
theorem dX10_takeFirst_108 : decode cX10_takeFirst 108 = .ok (.iconst 2, 1) := by decide +kernel
theorem dX10_takeFirst_109 : decode cX10_takeFirst 109 = .ok (.invokevirtual 68, 3) := by decide +kernel
theorem dX10_takeFirst_112 : decode cX10_takeFirst 112 = .ok (.return_, 1) := by decide +kernel
theorem dX10_begin_0 : decode cX10_begin 0 = .ok (.aload_n 0, 1) := by decide +kernel
theorem dX10_begin_1 : decode cX10_begin 1 = .ok (.iload_n 1, 1) := by decide +kernel
theorem dX10_begin_2 : decode cX10_begin 2 = .ok (.putfield 18, 3) := by decide +kernel
theorem dX10_begin_5 : decode cX10_begin 5 = .ok (.aload_n 0, 1) := by decide +kernel
theorem dX10_begin_6 : decode cX10_begin 6 = .ok (.iload_n 1, 1) := by decide +kernel
theorem dX10_begin_7 : decode cX10_begin 7 = .ok (.putfield 22, 3) := by decide +kernel
theorem dX10_begin_10 : decode cX10_begin 10 = .ok (.return_, 1) := by decide +kernel
theorem dX10_bring_0 : decode cX10_bring 0 = .ok (.aload_n 0, 1) := by decide +kernel
theorem dX10_bring_1 : decode cX10_bring 1 = .ok (.iconst 0, 1) := by decide +kernel
theorem dX10_bring_2 : decode cX10_bring 2 = .ok (.putfield 22, 3) := by decide +kernel
theorem dX10_bring_5 : decode cX10_bring 5 = .ok (.aload_n 0, 1) := by decide +kernel
theorem dX10_bring_6 : decode cX10_bring 6 = .ok (.getfield 96, 3) := by decide +kernel
theorem dX10_bring_9 : decode cX10_bring 9 = .ok (.ifnull 59, 3) := by decide +kernel
theorem dX10_bring_12 : decode cX10_bring 12 = .ok (.aload_n 0, 1) := by decide +kernel
theorem dX10_bring_13 : decode cX10_bring 13 = .ok (.getfield 92, 3) := by decide +kernel
theorem dX10_bring_16 : decode cX10_bring 16 = .ok (.ifnull 52, 3) := by decide +kernel
theorem dX10_bring_19 : decode cX10_bring 19 = .ok (.aload_n 0, 1) := by decide +kernel
theorem dX10_bring_20 : decode cX10_bring 20 = .ok (.getfield 96, 3) := by decide +kernel
theorem dX10_bring_23 : decode cX10_bring 23 = .ok (.aload_n 0, 1) := by decide +kernel
theorem dX10_bring_24 : decode cX10_bring 24 = .ok (.getfield 92, 3) := by decide +kernel
theorem dX10_bring_27 : decode cX10_bring 27 = .ok (.aload_n 0, 1) := by decide +kernel
theorem dX10_bring_28 : decode cX10_bring 28 = .ok (.getfield 92, 3) := by decide +kernel
theorem dX10_bring_31 : decode cX10_bring 31 = .ok (.getfield 48, 3) := by decide +kernel
theorem dX10_bring_34 : decode cX10_bring 34 = .ok (.aload_n 0, 1) := by decide +kernel
theorem dX10_bring_35 : decode cX10_bring 35 = .ok (.getfield 25, 3) := by decide +kernel
theorem dX10_bring_38 : decode cX10_bring 38 = .ok (.getfield 130, 3) := by decide +kernel
theorem dX10_bring_41 : decode cX10_bring 41 = .ok (.invokevirtual 133, 3) := by decide +kernel
theorem dX10_bring_44 : decode cX10_bring 44 = .ok (.aload_n 0, 1) := by decide +kernel
theorem dX10_bring_45 : decode cX10_bring 45 = .ok (.dup, 1) := by decide +kernel
theorem dX10_bring_46 : decode cX10_bring 46 = .ok (.getfield 137, 3) := by decide +kernel
theorem dX10_bring_49 : decode cX10_bring 49 = .ok (.iconst 1, 1) := by decide +kernel
theorem dX10_bring_50 : decode cX10_bring 50 = .ok (.iadd, 1) := by decide +kernel
theorem dX10_bring_51 : decode cX10_bring 51 = .ok (.putfield 137, 3) := by decide +kernel
theorem dX10_bring_54 : decode cX10_bring 54 = .ok (.aload_n 0, 1) := by decide +kernel
theorem dX10_bring_55 : decode cX10_bring 55 = .ok (.getfield 25, 3) := by decide +kernel
theorem dX10_bring_58 : decode cX10_bring 58 = .ok (.aload_n 0, 1) := by decide +kernel
theorem dX10_bring_59 : decode cX10_bring 59 = .ok (.getfield 92, 3) := by decide +kernel
theorem dX10_bring_62 : decode cX10_bring 62 = .ok (.getfield 56, 3) := by decide +kernel
theorem dX10_bring_65 : decode cX10_bring 65 = .ok (.invokevirtual 140, 3) := by decide +kernel
theorem dX10_bring_68 : decode cX10_bring 68 = .ok (.aload_n 0, 1) := by decide +kernel
theorem dX10_bring_69 : decode cX10_bring 69 = .ok (.aconst_null, 1) := by decide +kernel
theorem dX10_bring_70 : decode cX10_bring 70 = .ok (.putfield 96, 3) := by decide +kernel
theorem dX10_bring_73 : decode cX10_bring 73 = .ok (.aload_n 0, 1) := by decide +kernel
theorem dX10_bring_74 : decode cX10_bring 74 = .ok (.aconst_null, 1) := by decide +kernel
theorem dX10_bring_75 : decode cX10_bring 75 = .ok (.putfield 92, 3) := by decide +kernel
theorem dX10_bring_78 : decode cX10_bring 78 = .ok (.return_, 1) := by decide +kernel
theorem dX10_drumIsDone_0 : decode cX10_drumIsDone 0 = .ok (.aload_n 0, 1) := by decide +kernel
theorem dX10_drumIsDone_1 : decode cX10_drumIsDone 1 = .ok (.getfield 18, 3) := by decide +kernel
theorem dX10_drumIsDone_4 : decode cX10_drumIsDone 4 = .ok (.ifCond .ne 5, 3) := by decide +kernel
theorem dX10_drumIsDone_7 : decode cX10_drumIsDone 7 = .ok (.iconst 0, 1) := by decide +kernel
theorem dX10_drumIsDone_8 : decode cX10_drumIsDone 8 = .ok (.ireturn, 1) := by decide +kernel
theorem dX10_drumIsDone_9 : decode cX10_drumIsDone 9 = .ok (.aload_n 0, 1) := by decide +kernel
theorem dX10_drumIsDone_10 : decode cX10_drumIsDone 10 = .ok (.getfield 18, 3) := by decide +kernel
theorem dX10_drumIsDone_13 : decode cX10_drumIsDone 13 = .ok (.iconst 1, 1) := by decide +kernel
theorem dX10_drumIsDone_14 : decode cX10_drumIsDone 14 = .ok (.if_icmp .ne 10, 3) := by decide +kernel
theorem dX10_drumIsDone_17 : decode cX10_drumIsDone 17 = .ok (.aload_n 0, 1) := by decide +kernel
theorem dX10_drumIsDone_18 : decode cX10_drumIsDone 18 = .ok (.invokevirtual 143, 3) := by decide +kernel
theorem dX10_drumIsDone_21 : decode cX10_drumIsDone 21 = .ok (.goto 7, 3) := by decide +kernel
theorem dX10_drumIsDone_24 : decode cX10_drumIsDone 24 = .ok (.aload_n 0, 1) := by decide +kernel
theorem dX10_drumIsDone_25 : decode cX10_drumIsDone 25 = .ok (.invokevirtual 146, 3) := by decide +kernel
theorem dX10_drumIsDone_28 : decode cX10_drumIsDone 28 = .ok (.aload_n 0, 1) := by decide +kernel
theorem dX10_drumIsDone_29 : decode cX10_drumIsDone 29 = .ok (.iconst 0, 1) := by decide +kernel
theorem dX10_drumIsDone_30 : decode cX10_drumIsDone 30 = .ok (.putfield 18, 3) := by decide +kernel
theorem dX10_drumIsDone_33 : decode cX10_drumIsDone 33 = .ok (.aload_n 0, 1) := by decide +kernel
theorem dX10_drumIsDone_34 : decode cX10_drumIsDone 34 = .ok (.getfield 42, 3) := by decide +kernel
theorem dX10_drumIsDone_37 : decode cX10_drumIsDone 37 = .ok (.invokevirtual 65, 3) := by decide +kernel
theorem dX10_drumIsDone_40 : decode cX10_drumIsDone 40 = .ok (.iconst 1, 1) := by decide +kernel
theorem dX10_drumIsDone_41 : decode cX10_drumIsDone 41 = .ok (.ireturn, 1) := by decide +kernel
theorem dX10_moveToDrum_0 : decode cX10_moveToDrum 0 = .ok (.aload_n 0, 1) := by decide +kernel
theorem dX10_moveToDrum_1 : decode cX10_moveToDrum 1 = .ok (.getfield 96, 3) := by decide +kernel
theorem dX10_moveToDrum_4 : decode cX10_moveToDrum 4 = .ok (.ifnull 24, 3) := by decide +kernel
theorem dX10_moveToDrum_7 : decode cX10_moveToDrum 7 = .ok (.aload_n 0, 1) := by decide +kernel
theorem dX10_moveToDrum_8 : decode cX10_moveToDrum 8 = .ok (.getfield 109, 3) := by decide +kernel
theorem dX10_moveToDrum_11 : decode cX10_moveToDrum 11 = .ok (.ifnull 17, 3) := by decide +kernel
theorem dX10_moveToDrum_14 : decode cX10_moveToDrum 14 = .ok (.aload_n 0, 1) := by decide +kernel
theorem dX10_moveToDrum_15 : decode cX10_moveToDrum 15 = .ok (.getfield 109, 3) := by decide +kernel
theorem dX10_moveToDrum_18 : decode cX10_moveToDrum 18 = .ok (.aload_n 0, 1) := by decide +kernel
theorem dX10_moveToDrum_19 : decode cX10_moveToDrum 19 = .ok (.getfield 115, 3) := by decide +kernel
theorem dX10_moveToDrum_22 : decode cX10_moveToDrum 22 = .ok (.invokevirtual 149, 3) := by decide +kernel
theorem dX10_moveToDrum_25 : decode cX10_moveToDrum 25 = .ok (.ifCond .ne 4, 3) := by decide +kernel
theorem dX10_moveToDrum_28 : decode cX10_moveToDrum 28 = .ok (.return_, 1) := by decide +kernel
theorem dX10_moveToDrum_29 : decode cX10_moveToDrum 29 = .ok (.iconst 0, 1) := by decide +kernel
theorem dX10_moveToDrum_30 : decode cX10_moveToDrum 30 = .ok (.istore_n 1, 1) := by decide +kernel
theorem dX10_moveToDrum_31 : decode cX10_moveToDrum 31 = .ok (.iload_n 1, 1) := by decide +kernel
theorem dX10_moveToDrum_32 : decode cX10_moveToDrum 32 = .ok (.bipush 16, 2) := by decide +kernel
theorem dX10_moveToDrum_34 : decode cX10_moveToDrum 34 = .ok (.if_icmp .ge 33, 3) := by decide +kernel
theorem dX10_moveToDrum_37 : decode cX10_moveToDrum 37 = .ok (.aload_n 0, 1) := by decide +kernel
theorem dX10_moveToDrum_38 : decode cX10_moveToDrum 38 = .ok (.getfield 109, 3) := by decide +kernel
theorem dX10_moveToDrum_41 : decode cX10_moveToDrum 41 = .ok (.aload_n 0, 1) := by decide +kernel
theorem dX10_moveToDrum_42 : decode cX10_moveToDrum 42 = .ok (.getfield 121, 3) := by decide +kernel
theorem dX10_moveToDrum_45 : decode cX10_moveToDrum 45 = .ok (.bipush 16, 2) := by decide +kernel
theorem dX10_moveToDrum_47 : decode cX10_moveToDrum 47 = .ok (.imul, 1) := by decide +kernel
theorem dX10_moveToDrum_48 : decode cX10_moveToDrum 48 = .ok (.iload_n 1, 1) := by decide +kernel
theorem dX10_moveToDrum_49 : decode cX10_moveToDrum 49 = .ok (.iadd, 1) := by decide +kernel
theorem dX10_moveToDrum_50 : decode cX10_moveToDrum 50 = .ok (.aload_n 0, 1) := by decide +kernel
theorem dX10_moveToDrum_51 : decode cX10_moveToDrum 51 = .ok (.getfield 96, 3) := by decide +kernel
theorem dX10_moveToDrum_54 : decode cX10_moveToDrum 54 = .ok (.iload_n 1, 1) := by decide +kernel
theorem dX10_moveToDrum_55 : decode cX10_moveToDrum 55 = .ok (.invokevirtual 153, 3) := by decide +kernel
theorem dX10_moveToDrum_58 : decode cX10_moveToDrum 58 = .ok (.invokevirtual 157, 3) := by decide +kernel
theorem dX10_moveToDrum_61 : decode cX10_moveToDrum 61 = .ok (.iinc 1 1, 3) := by decide +kernel
theorem dX10_moveToDrum_64 : decode cX10_moveToDrum 64 = .ok (.goto (-33), 3) := by decide +kernel
theorem dX10_moveToDrum_67 : decode cX10_moveToDrum 67 = .ok (.return_, 1) := by decide +kernel
theorem dX10_moveToCore_0 : decode cX10_moveToCore 0 = .ok (.aload_n 0, 1) := by decide +kernel
theorem dX10_moveToCore_1 : decode cX10_moveToCore 1 = .ok (.getfield 96, 3) := by decide +kernel
theorem dX10_moveToCore_4 : decode cX10_moveToCore 4 = .ok (.ifnull 10, 3) := by decide +kernel
theorem dX10_moveToCore_7 : decode cX10_moveToCore 7 = .ok (.aload_n 0, 1) := by decide +kernel
theorem dX10_moveToCore_8 : decode cX10_moveToCore 8 = .ok (.getfield 92, 3) := by decide +kernel
theorem dX10_moveToCore_11 : decode cX10_moveToCore 11 = .ok (.ifnonnull 4, 3) := by decide +kernel
theorem dX10_moveToCore_14 : decode cX10_moveToCore 14 = .ok (.return_, 1) := by decide +kernel
theorem dX10_moveToCore_15 : decode cX10_moveToCore 15 = .ok (.iconst 0, 1) := by decide +kernel
theorem dX10_moveToCore_16 : decode cX10_moveToCore 16 = .ok (.istore_n 1, 1) := by decide +kernel
theorem dX10_moveToCore_17 : decode cX10_moveToCore 17 = .ok (.iload_n 1, 1) := by decide +kernel
theorem dX10_moveToCore_18 : decode cX10_moveToCore 18 = .ok (.bipush 16, 2) := by decide +kernel
theorem dX10_moveToCore_20 : decode cX10_moveToCore 20 = .ok (.if_icmp .ge 36, 3) := by decide +kernel
theorem dX10_moveToCore_23 : decode cX10_moveToCore 23 = .ok (.aload_n 0, 1) := by decide +kernel
theorem dX10_moveToCore_24 : decode cX10_moveToCore 24 = .ok (.getfield 96, 3) := by decide +kernel
theorem dX10_moveToCore_27 : decode cX10_moveToCore 27 = .ok (.iload_n 1, 1) := by decide +kernel
theorem dX10_moveToCore_28 : decode cX10_moveToCore 28 = .ok (.aload_n 0, 1) := by decide +kernel
theorem dX10_moveToCore_29 : decode cX10_moveToCore 29 = .ok (.getfield 92, 3) := by decide +kernel
theorem dX10_moveToCore_32 : decode cX10_moveToCore 32 = .ok (.aload_n 0, 1) := by decide +kernel
theorem dX10_moveToCore_33 : decode cX10_moveToCore 33 = .ok (.getfield 92, 3) := by decide +kernel
theorem dX10_moveToCore_36 : decode cX10_moveToCore 36 = .ok (.getfield 48, 3) := by decide +kernel
theorem dX10_moveToCore_39 : decode cX10_moveToCore 39 = .ok (.bipush 16, 2) := by decide +kernel
theorem dX10_moveToCore_41 : decode cX10_moveToCore 41 = .ok (.imul, 1) := by decide +kernel
theorem dX10_moveToCore_42 : decode cX10_moveToCore 42 = .ok (.iload_n 1, 1) := by decide +kernel
theorem dX10_moveToCore_43 : decode cX10_moveToCore 43 = .ok (.iadd, 1) := by decide +kernel
theorem dX10_moveToCore_44 : decode cX10_moveToCore 44 = .ok (.invokevirtual 160, 3) := by decide +kernel
theorem dX10_moveToCore_47 : decode cX10_moveToCore 47 = .ok (.invokevirtual 163, 3) := by decide +kernel
theorem dX10_moveToCore_50 : decode cX10_moveToCore 50 = .ok (.iinc 1 1, 3) := by decide +kernel
theorem dX10_moveToCore_53 : decode cX10_moveToCore 53 = .ok (.goto (-36), 3) := by decide +kernel
theorem dX10_moveToCore_56 : decode cX10_moveToCore 56 = .ok (.return_, 1) := by decide +kernel
theorem dX10_holderOf_0 : decode cX10_holderOf 0 = .ok (.aload_n 0, 1) := by decide +kernel
theorem dX10_holderOf_1 : decode cX10_holderOf 1 = .ok (.getfield 18, 3) := by decide +kernel
theorem dX10_holderOf_4 : decode cX10_holderOf 4 = .ok (.iconst 1, 1) := by decide +kernel
theorem dX10_holderOf_5 : decode cX10_holderOf 5 = .ok (.if_icmp .ne 34, 3) := by decide +kernel
theorem dX10_holderOf_8 : decode cX10_holderOf 8 = .ok (.aload_n 0, 1) := by decide +kernel
theorem dX10_holderOf_9 : decode cX10_holderOf 9 = .ok (.getfield 109, 3) := by decide +kernel
theorem dX10_holderOf_12 : decode cX10_holderOf 12 = .ok (.aload_n 1, 1) := by decide +kernel
theorem dX10_holderOf_13 : decode cX10_holderOf 13 = .ok (.if_acmp .ne 26, 3) := by decide +kernel
theorem dX10_holderOf_16 : decode cX10_holderOf 16 = .ok (.aload_n 1, 1) := by decide +kernel
theorem dX10_holderOf_17 : decode cX10_holderOf 17 = .ok (.aload_n 0, 1) := by decide +kernel
theorem dX10_holderOf_18 : decode cX10_holderOf 18 = .ok (.getfield 115, 3) := by decide +kernel
theorem dX10_holderOf_21 : decode cX10_holderOf 21 = .ok (.invokevirtual 149, 3) := by decide +kernel
theorem dX10_holderOf_24 : decode cX10_holderOf 24 = .ok (.ifCond .eq 15, 3) := by decide +kernel
theorem dX10_holderOf_27 : decode cX10_holderOf 27 = .ok (.aload_n 0, 1) := by decide +kernel
theorem dX10_holderOf_28 : decode cX10_holderOf 28 = .ok (.getfield 121, 3) := by decide +kernel
theorem dX10_holderOf_31 : decode cX10_holderOf 31 = .ok (.iload_n 2, 1) := by decide +kernel
theorem dX10_holderOf_32 : decode cX10_holderOf 32 = .ok (.if_icmp .ne 7, 3) := by decide +kernel
theorem dX10_holderOf_35 : decode cX10_holderOf 35 = .ok (.iconst 1, 1) := by decide +kernel
theorem dX10_holderOf_36 : decode cX10_holderOf 36 = .ok (.goto 4, 3) := by decide +kernel
theorem dX10_holderOf_39 : decode cX10_holderOf 39 = .ok (.iconst 0, 1) := by decide +kernel
theorem dX10_holderOf_40 : decode cX10_holderOf 40 = .ok (.istore_n 3, 1) := by decide +kernel
theorem dX10_holderOf_41 : decode cX10_holderOf 41 = .ok (.iload_n 3, 1) := by decide +kernel
theorem dX10_holderOf_42 : decode cX10_holderOf 42 = .ok (.ifCond .eq 10, 3) := by decide +kernel
theorem dX10_holderOf_45 : decode cX10_holderOf 45 = .ok (.aload_n 0, 1) := by decide +kernel
theorem dX10_holderOf_46 : decode cX10_holderOf 46 = .ok (.getfield 96, 3) := by decide +kernel
theorem dX10_holderOf_49 : decode cX10_holderOf 49 = .ok (.goto 12, 3) := by decide +kernel
theorem dX10_holderOf_52 : decode cX10_holderOf 52 = .ok (.aload_n 0, 1) := by decide +kernel
theorem dX10_holderOf_53 : decode cX10_holderOf 53 = .ok (.getfield 29, 3) := by decide +kernel
theorem dX10_holderOf_56 : decode cX10_holderOf 56 = .ok (.aload_n 1, 1) := by decide +kernel
theorem dX10_holderOf_57 : decode cX10_holderOf 57 = .ok (.iload_n 2, 1) := by decide +kernel
theorem dX10_holderOf_58 : decode cX10_holderOf 58 = .ok (.invokevirtual 166, 3) := by decide +kernel
theorem dX10_holderOf_61 : decode cX10_holderOf 61 = .ok (.areturn, 1) := by decide +kernel
theorem dX11_init_0 : decode cX11_init 0 = .ok (.aload_n 0, 1) := by decide +kernel
theorem dX11_init_1 : decode cX11_init 1 = .ok (.invokespecial 1, 3) := by decide +kernel
theorem dX11_init_4 : decode cX11_init 4 = .ok (.aload_n 0, 1) := by decide +kernel
theorem dX11_init_5 : decode cX11_init 5 = .ok (.new 7, 3) := by decide +kernel
theorem dX11_init_8 : decode cX11_init 8 = .ok (.dup, 1) := by decide +kernel
theorem dX11_init_9 : decode cX11_init 9 = .ok (.iload_n 3, 1) := by decide +kernel
theorem dX11_init_10 : decode cX11_init 10 = .ok (.iconst 1, 1) := by decide +kernel
theorem dX11_init_11 : decode cX11_init 11 = .ok (.bipush 9, 2) := by decide +kernel
theorem dX11_init_13 : decode cX11_init 13 = .ok (.invokestatic 9, 3) := by decide +kernel
theorem dX11_init_16 : decode cX11_init 16 = .ok (.invokespecial 15, 3) := by decide +kernel
theorem dX11_init_19 : decode cX11_init 19 = .ok (.putfield 18, 3) := by decide +kernel
theorem dX11_init_22 : decode cX11_init 22 = .ok (.aload_n 0, 1) := by decide +kernel
theorem dX11_init_23 : decode cX11_init 23 = .ok (.bipush 6, 2) := by decide +kernel
theorem dX11_init_25 : decode cX11_init 25 = .ok (.anewarray 22, 3) := by decide +kernel
theorem dX11_init_28 : decode cX11_init 28 = .ok (.putfield 24, 3) := by decide +kernel
theorem dX11_init_31 : decode cX11_init 31 = .ok (.iconst 0, 1) := by decide +kernel
theorem dX11_init_32 : decode cX11_init 32 = .ok (.istore 4, 2) := by decide +kernel
theorem dX11_init_34 : decode cX11_init 34 = .ok (.iload 4, 2) := by decide +kernel
theorem dX11_init_36 : decode cX11_init 36 = .ok (.bipush 6, 2) := by decide +kernel
theorem dX11_init_38 : decode cX11_init 38 = .ok (.if_icmp .ge 25, 3) := by decide +kernel
theorem dX11_init_41 : decode cX11_init 41 = .ok (.aload_n 0, 1) := by decide +kernel
theorem dX11_init_42 : decode cX11_init 42 = .ok (.getfield 24, 3) := by decide +kernel
theorem dX11_init_45 : decode cX11_init 45 = .ok (.iload 4, 2) := by decide +kernel
theorem dX11_init_47 : decode cX11_init 47 = .ok (.new 22, 3) := by decide +kernel
theorem dX11_init_50 : decode cX11_init 50 = .ok (.dup, 1) := by decide +kernel
theorem dX11_init_51 : decode cX11_init 51 = .ok (.iload 4, 2) := by decide +kernel
theorem dX11_init_53 : decode cX11_init 53 = .ok (.invokespecial 28, 3) := by decide +kernel
theorem dX11_init_56 : decode cX11_init 56 = .ok (.aastore, 1) := by decide +kernel
theorem dX11_init_57 : decode cX11_init 57 = .ok (.iinc 4 1, 3) := by decide +kernel
theorem dX11_init_60 : decode cX11_init 60 = .ok (.goto (-26), 3) := by decide +kernel
theorem dX11_init_63 : decode cX11_init 63 = .ok (.aload_n 0, 1) := by decide +kernel
theorem dX11_init_64 : decode cX11_init 64 = .ok (.new 29, 3) := by decide +kernel
theorem dX11_init_67 : decode cX11_init 67 = .ok (.dup, 1) := by decide +kernel
theorem dX11_init_68 : decode cX11_init 68 = .ok (.iload_n 1, 1) := by decide +kernel
theorem dX11_init_69 : decode cX11_init 69 = .ok (.iconst 4, 1) := by decide +kernel
theorem dX11_init_70 : decode cX11_init 70 = .ok (.bipush 12, 2) := by decide +kernel
theorem dX11_init_72 : decode cX11_init 72 = .ok (.invokestatic 9, 3) := by decide +kernel
theorem dX11_init_75 : decode cX11_init 75 = .ok (.invokespecial 31, 3) := by decide +kernel
theorem dX11_init_78 : decode cX11_init 78 = .ok (.putfield 32, 3) := by decide +kernel
theorem dX11_init_81 : decode cX11_init 81 = .ok (.aload_n 0, 1) := by decide +kernel
theorem dX11_init_82 : decode cX11_init 82 = .ok (.new 36, 3) := by decide +kernel
theorem dX11_init_85 : decode cX11_init 85 = .ok (.dup, 1) := by decide +kernel
theorem dX11_init_86 : decode cX11_init 86 = .ok (.aload_n 0, 1) := by decide +kernel
theorem dX11_init_87 : decode cX11_init 87 = .ok (.getfield 18, 3) := by decide +kernel
theorem dX11_init_90 : decode cX11_init 90 = .ok (.aload_n 0, 1) := by decide +kernel
theorem dX11_init_91 : decode cX11_init 91 = .ok (.getfield 32, 3) := by decide +kernel
theorem dX11_init_94 : decode cX11_init 94 = .ok (.invokespecial 38, 3) := by decide +kernel
theorem dX11_init_97 : decode cX11_init 97 = .ok (.putfield 41, 3) := by decide +kernel
theorem dX11_init_100 : decode cX11_init 100 = .ok (.aload_n 0, 1) := by decide +kernel
theorem dX11_init_101 : decode cX11_init 101 = .ok (.new 45, 3) := by decide +kernel
theorem dX11_init_104 : decode cX11_init 104 = .ok (.dup, 1) := by decide +kernel
theorem dX11_init_105 : decode cX11_init 105 = .ok (.aload_n 0, 1) := by decide +kernel
theorem dX11_init_106 : decode cX11_init 106 = .ok (.getfield 18, 3) := by decide +kernel
theorem dX11_init_109 : decode cX11_init 109 = .ok (.aload_n 0, 1) := by decide +kernel
theorem dX11_init_110 : decode cX11_init 110 = .ok (.getfield 32, 3) := by decide +kernel
theorem dX11_init_113 : decode cX11_init 113 = .ok (.aload_n 0, 1) := by decide +kernel
theorem dX11_init_114 : decode cX11_init 114 = .ok (.getfield 24, 3) := by decide +kernel
theorem dX11_init_117 : decode cX11_init 117 = .ok (.iload_n 2, 1) := by decide +kernel
theorem dX11_init_118 : decode cX11_init 118 = .ok (.iconst 1, 1) := by decide +kernel
theorem dX11_init_119 : decode cX11_init 119 = .ok (.bipush 6, 2) := by decide +kernel
theorem dX11_init_121 : decode cX11_init 121 = .ok (.invokestatic 9, 3) := by decide +kernel
theorem dX11_init_124 : decode cX11_init 124 = .ok (.invokespecial 47, 3) := by decide +kernel
theorem dX11_init_127 : decode cX11_init 127 = .ok (.putfield 50, 3) := by decide +kernel
theorem dX11_init_130 : decode cX11_init 130 = .ok (.aload_n 0, 1) := by decide +kernel
theorem dX11_init_131 : decode cX11_init 131 = .ok (.new 54, 3) := by decide +kernel
theorem dX11_init_134 : decode cX11_init 134 = .ok (.dup, 1) := by decide +kernel
theorem dX11_init_135 : decode cX11_init 135 = .ok (.aload_n 0, 1) := by decide +kernel
theorem dX11_init_136 : decode cX11_init 136 = .ok (.getfield 18, 3) := by decide +kernel
theorem dX11_init_139 : decode cX11_init 139 = .ok (.aload_n 0, 1) := by decide +kernel
theorem dX11_init_140 : decode cX11_init 140 = .ok (.getfield 32, 3) := by decide +kernel
theorem dX11_init_143 : decode cX11_init 143 = .ok (.aload_n 0, 1) := by decide +kernel
theorem dX11_init_144 : decode cX11_init 144 = .ok (.getfield 50, 3) := by decide +kernel
theorem dX11_init_147 : decode cX11_init 147 = .ok (.invokespecial 56, 3) := by decide +kernel
theorem dX11_init_150 : decode cX11_init 150 = .ok (.putfield 59, 3) := by decide +kernel
theorem dX11_init_153 : decode cX11_init 153 = .ok (.aload_n 0, 1) := by decide +kernel
theorem dX11_init_154 : decode cX11_init 154 = .ok (.new 63, 3) := by decide +kernel
theorem dX11_init_157 : decode cX11_init 157 = .ok (.dup, 1) := by decide +kernel
theorem dX11_init_158 : decode cX11_init 158 = .ok (.aload_n 0, 1) := by decide +kernel
theorem dX11_init_159 : decode cX11_init 159 = .ok (.getfield 18, 3) := by decide +kernel
theorem dX11_init_162 : decode cX11_init 162 = .ok (.aload_n 0, 1) := by decide +kernel
theorem dX11_init_163 : decode cX11_init 163 = .ok (.getfield 32, 3) := by decide +kernel
theorem dX11_init_166 : decode cX11_init 166 = .ok (.aload_n 0, 1) := by decide +kernel
theorem dX11_init_167 : decode cX11_init 167 = .ok (.getfield 50, 3) := by decide +kernel
theorem dX11_init_170 : decode cX11_init 170 = .ok (.aload_n 0, 1) := by decide +kernel
theorem dX11_init_171 : decode cX11_init 171 = .ok (.getfield 24, 3) := by decide +kernel
theorem dX11_init_174 : decode cX11_init 174 = .ok (.invokespecial 65, 3) := by decide +kernel
theorem dX11_init_177 : decode cX11_init 177 = .ok (.putfield 68, 3) := by decide +kernel
theorem dX11_init_180 : decode cX11_init 180 = .ok (.aload_n 0, 1) := by decide +kernel
theorem dX11_init_181 : decode cX11_init 181 = .ok (.new 72, 3) := by decide +kernel
theorem dX11_init_184 : decode cX11_init 184 = .ok (.dup, 1) := by decide +kernel
theorem dX11_init_185 : decode cX11_init 185 = .ok (.aload_n 0, 1) := by decide +kernel
theorem dX11_init_186 : decode cX11_init 186 = .ok (.getfield 18, 3) := by decide +kernel
theorem dX11_init_189 : decode cX11_init 189 = .ok (.aload_n 0, 1) := by decide +kernel
theorem dX11_init_190 : decode cX11_init 190 = .ok (.getfield 32, 3) := by decide +kernel
theorem dX11_init_193 : decode cX11_init 193 = .ok (.aload_n 0, 1) := by decide +kernel
theorem dX11_init_194 : decode cX11_init 194 = .ok (.getfield 41, 3) := by decide +kernel
theorem dX11_init_197 : decode cX11_init 197 = .ok (.aload_n 0, 1) := by decide +kernel
theorem dX11_init_198 : decode cX11_init 198 = .ok (.getfield 50, 3) := by decide +kernel
theorem dX11_init_201 : decode cX11_init 201 = .ok (.aload_n 0, 1) := by decide +kernel
theorem dX11_init_202 : decode cX11_init 202 = .ok (.getfield 59, 3) := by decide +kernel
theorem dX11_init_205 : decode cX11_init 205 = .ok (.aload_n 0, 1) := by decide +kernel
theorem dX11_init_206 : decode cX11_init 206 = .ok (.getfield 68, 3) := by decide +kernel
theorem dX11_init_209 : decode cX11_init 209 = .ok (.invokespecial 74, 3) := by decide +kernel
theorem dX11_init_212 : decode cX11_init 212 = .ok (.putfield 77, 3) := by decide +kernel
theorem dX11_init_215 : decode cX11_init 215 = .ok (.aload_n 0, 1) := by decide +kernel
theorem dX11_init_216 : decode cX11_init 216 = .ok (.new 81, 3) := by decide +kernel
theorem dX11_init_219 : decode cX11_init 219 = .ok (.dup, 1) := by decide +kernel
theorem dX11_init_220 : decode cX11_init 220 = .ok (.sipush 200, 3) := by decide +kernel
theorem dX11_init_223 : decode cX11_init 223 = .ok (.invokespecial 83, 3) := by decide +kernel
theorem dX11_init_226 : decode cX11_init 226 = .ok (.putfield 84, 3) := by decide +kernel
theorem dX11_init_229 : decode cX11_init 229 = .ok (.return_, 1) := by decide +kernel
theorem dX11_feed_0 : decode cX11_feed 0 = .ok (.aload_n 0, 1) := by decide +kernel
theorem dX11_feed_1 : decode cX11_feed 1 = .ok (.getfield 84, 3) := by decide +kernel
theorem dX11_feed_4 : decode cX11_feed 4 = .ok (.invokevirtual 88, 3) := by decide +kernel
theorem dX11_feed_7 : decode cX11_feed 7 = .ok (.iconst 4, 1) := by decide +kernel
theorem dX11_feed_8 : decode cX11_feed 8 = .ok (.iadd, 1) := by decide +kernel
theorem dX11_feed_9 : decode cX11_feed 9 = .ok (.sipush 200, 3) := by decide +kernel
theorem dX11_feed_12 : decode cX11_feed 12 = .ok (.if_icmp .le 5, 3) := by decide +kernel
theorem dX11_feed_15 : decode cX11_feed 15 = .ok (.iconst (-1), 1) := by decide +kernel
theorem dX11_feed_16 : decode cX11_feed 16 = .ok (.ireturn, 1) := by decide +kernel
theorem dX11_feed_17 : decode cX11_feed 17 = .ok (.aload_n 0, 1) := by decide +kernel
theorem dX11_feed_18 : decode cX11_feed 18 = .ok (.getfield 84, 3) := by decide +kernel
theorem dX11_feed_21 : decode cX11_feed 21 = .ok (.iload_n 1, 1) := by decide +kernel
theorem dX11_feed_22 : decode cX11_feed 22 = .ok (.invokevirtual 92, 3) := by decide +kernel
theorem dX11_feed_25 : decode cX11_feed 25 = .ok (.aload_n 0, 1) := by decide +kernel
theorem dX11_feed_26 : decode cX11_feed 26 = .ok (.getfield 84, 3) := by decide +kernel
theorem dX11_feed_29 : decode cX11_feed 29 = .ok (.iload_n 2, 1) := by decide +kernel
theorem dX11_feed_30 : decode cX11_feed 30 = .ok (.invokevirtual 92, 3) := by decide +kernel
theorem dX11_feed_33 : decode cX11_feed 33 = .ok (.aload_n 0, 1) := by decide +kernel
theorem dX11_feed_34 : decode cX11_feed 34 = .ok (.getfield 84, 3) := by decide +kernel
theorem dX11_feed_37 : decode cX11_feed 37 = .ok (.iload_n 3, 1) := by decide +kernel
theorem dX11_feed_38 : decode cX11_feed 38 = .ok (.invokevirtual 92, 3) := by decide +kernel
theorem dX11_feed_41 : decode cX11_feed 41 = .ok (.aload_n 0, 1) := by decide +kernel
theorem dX11_feed_42 : decode cX11_feed 42 = .ok (.getfield 84, 3) := by decide +kernel
theorem dX11_feed_45 : decode cX11_feed 45 = .ok (.iload 4, 2) := by decide +kernel
theorem dX11_feed_47 : decode cX11_feed 47 = .ok (.invokevirtual 92, 3) := by decide +kernel
theorem dX11_feed_50 : decode cX11_feed 50 = .ok (.aload_n 0, 1) := by decide +kernel
theorem dX11_feed_51 : decode cX11_feed 51 = .ok (.getfield 84, 3) := by decide +kernel
theorem dX11_feed_54 : decode cX11_feed 54 = .ok (.invokevirtual 88, 3) := by decide +kernel
theorem dX11_feed_57 : decode cX11_feed 57 = .ok (.ireturn, 1) := by decide +kernel
theorem dX11_submit_0 : decode cX11_submit 0 = .ok (.aload_n 0, 1) := by decide +kernel
theorem dX11_submit_1 : decode cX11_submit 1 = .ok (.iload_n 1, 1) := by decide +kernel
theorem dX11_submit_2 : decode cX11_submit 2 = .ok (.iload_n 2, 1) := by decide +kernel
theorem dX11_submit_3 : decode cX11_submit 3 = .ok (.iload_n 3, 1) := by decide +kernel
theorem dX11_submit_4 : decode cX11_submit 4 = .ok (.invokevirtual 95, 3) := by decide +kernel
theorem dX11_submit_7 : decode cX11_submit 7 = .ok (.ifCond .eq 40, 3) := by decide +kernel
theorem dX11_submit_10 : decode cX11_submit 10 = .ok (.iload 4, 2) := by decide +kernel
theorem dX11_submit_12 : decode cX11_submit 12 = .ok (.iconst 1, 1) := by decide +kernel
theorem dX11_submit_13 : decode cX11_submit 13 = .ok (.if_icmp .lt 34, 3) := by decide +kernel
theorem dX11_submit_16 : decode cX11_submit 16 = .ok (.iload 4, 2) := by decide +kernel
theorem dX11_submit_18 : decode cX11_submit 18 = .ok (.sipush 5000, 3) := by decide +kernel
theorem dX11_submit_21 : decode cX11_submit 21 = .ok (.if_icmp .gt 26, 3) := by decide +kernel
theorem dX11_submit_24 : decode cX11_submit 24 = .ok (.iload 5, 2) := by decide +kernel
theorem dX11_submit_26 : decode cX11_submit 26 = .ok (.ifCond .lt 21, 3) := by decide +kernel
theorem dX11_submit_29 : decode cX11_submit 29 = .ok (.iload 5, 2) := by decide +kernel
theorem dX11_submit_31 : decode cX11_submit 31 = .ok (.iconst 4, 1) := by decide +kernel
theorem dX11_submit_32 : decode cX11_submit 32 = .ok (.idiv, 1) := by decide +kernel
theorem dX11_submit_33 : decode cX11_submit 33 = .ok (.aload_n 0, 1) := by decide +kernel
theorem dX11_submit_34 : decode cX11_submit 34 = .ok (.getfield 50, 3) := by decide +kernel
theorem dX11_submit_37 : decode cX11_submit 37 = .ok (.getfield 99, 3) := by decide +kernel
theorem dX11_submit_40 : decode cX11_submit 40 = .ok (.if_icmp .gt 7, 3) := by decide +kernel
theorem dX11_submit_43 : decode cX11_submit 43 = .ok (.iconst 1, 1) := by decide +kernel
theorem dX11_submit_44 : decode cX11_submit 44 = .ok (.goto 4, 3) := by decide +kernel
theorem dX11_submit_47 : decode cX11_submit 47 = .ok (.iconst 0, 1) := by decide +kernel
theorem dX11_submit_48 : decode cX11_submit 48 = .ok (.istore 6, 2) := by decide +kernel
theorem dX11_submit_50 : decode cX11_submit 50 = .ok (.iload 6, 2) := by decide +kernel
theorem dX11_submit_52 : decode cX11_submit 52 = .ok (.ifCond .eq 10, 3) := by decide +kernel
theorem dX11_submit_55 : decode cX11_submit 55 = .ok (.aload_n 0, 1) := by decide +kernel
theorem dX11_submit_56 : decode cX11_submit 56 = .ok (.invokevirtual 103, 3) := by decide +kernel
theorem dX11_submit_59 : decode cX11_submit 59 = .ok (.goto 4, 3) := by decide +kernel
theorem dX11_submit_62 : decode cX11_submit 62 = .ok (.aconst_null, 1) := by decide +kernel
theorem dX11_submit_63 : decode cX11_submit 63 = .ok (.astore 7, 2) := by decide +kernel
theorem dX11_submit_65 : decode cX11_submit 65 = .ok (.aload 7, 2) := by decide +kernel
theorem dX11_submit_67 : decode cX11_submit 67 = .ok (.ifnull 53, 3) := by decide +kernel
theorem dX11_submit_70 : decode cX11_submit 70 = .ok (.aload_n 0, 1) := by decide +kernel
theorem dX11_submit_71 : decode cX11_submit 71 = .ok (.dup, 1) := by decide +kernel
theorem dX11_submit_72 : decode cX11_submit 72 = .ok (.getfield 107, 3) := by decide +kernel
theorem dX11_submit_75 : decode cX11_submit 75 = .ok (.iconst 1, 1) := by decide +kernel
theorem dX11_submit_76 : decode cX11_submit 76 = .ok (.iadd, 1) := by decide +kernel
theorem dX11_submit_77 : decode cX11_submit 77 = .ok (.putfield 107, 3) := by decide +kernel
theorem dX11_submit_80 : decode cX11_submit 80 = .ok (.aload 7, 2) := by decide +kernel
theorem dX11_submit_82 : decode cX11_submit 82 = .ok (.aload_n 0, 1) := by decide +kernel
theorem dX11_submit_83 : decode cX11_submit 83 = .ok (.getfield 107, 3) := by decide +kernel
theorem dX11_submit_86 : decode cX11_submit 86 = .ok (.invokevirtual 110, 3) := by decide +kernel
theorem dX11_submit_89 : decode cX11_submit 89 = .ok (.aload 7, 2) := by decide +kernel
theorem dX11_submit_91 : decode cX11_submit 91 = .ok (.iload_n 3, 1) := by decide +kernel
theorem dX11_submit_92 : decode cX11_submit 92 = .ok (.putfield 113, 3) := by decide +kernel
theorem dX11_submit_95 : decode cX11_submit 95 = .ok (.aload 7, 2) := by decide +kernel
theorem dX11_submit_97 : decode cX11_submit 97 = .ok (.iload 4, 2) := by decide +kernel
theorem dX11_submit_99 : decode cX11_submit 99 = .ok (.putfield 116, 3) := by decide +kernel
theorem dX11_submit_102 : decode cX11_submit 102 = .ok (.aload 7, 2) := by decide +kernel
theorem dX11_submit_104 : decode cX11_submit 104 = .ok (.iload 5, 2) := by decide +kernel
theorem dX11_submit_106 : decode cX11_submit 106 = .ok (.invokevirtual 119, 3) := by decide +kernel
theorem dX11_submit_109 : decode cX11_submit 109 = .ok (.aload 7, 2) := by decide +kernel
theorem dX11_submit_111 : decode cX11_submit 111 = .ok (.aload_n 0, 1) := by decide +kernel
theorem dX11_submit_112 : decode cX11_submit 112 = .ok (.getfield 84, 3) := by decide +kernel
theorem dX11_submit_115 : decode cX11_submit 115 = .ok (.iload_n 1, 1) := by decide +kernel
theorem dX11_submit_116 : decode cX11_submit 116 = .ok (.iload_n 2, 1) := by decide +kernel
theorem dX11_submit_117 : decode cX11_submit 117 = .ok (.invokevirtual 122, 3) := by decide +kernel
theorem dX11_submit_120 : decode cX11_submit 120 = .ok (.aload_n 0, 1) := by decide +kernel
theorem dX11_submit_121 : decode cX11_submit 121 = .ok (.getfield 84, 3) := by decide +kernel
theorem dX11_submit_124 : decode cX11_submit 124 = .ok (.invokevirtual 126, 3) := by decide +kernel
theorem dX11_submit_127 : decode cX11_submit 127 = .ok (.aload 7, 2) := by decide +kernel
theorem dX11_submit_129 : decode cX11_submit 129 = .ok (.ifnonnull 7, 3) := by decide +kernel
theorem dX11_submit_132 : decode cX11_submit 132 = .ok (.iconst (-1), 1) := by decide +kernel
theorem dX11_submit_133 : decode cX11_submit 133 = .ok (.goto 8, 3) := by decide +kernel
theorem dX11_submit_136 : decode cX11_submit 136 = .ok (.aload 7, 2) := by decide +kernel
theorem dX11_submit_138 : decode cX11_submit 138 = .ok (.getfield 129, 3) := by decide +kernel
theorem dX11_submit_141 : decode cX11_submit 141 = .ok (.ireturn, 1) := by decide +kernel
theorem dX11_tick_0 : decode cX11_tick 0 = .ok (.iload_n 1, 1) := by decide +kernel
theorem dX11_tick_1 : decode cX11_tick 1 = .ok (.ifCond .lt 10, 3) := by decide +kernel
theorem dX11_tick_4 : decode cX11_tick 4 = .ok (.iload_n 1, 1) := by decide +kernel
theorem dX11_tick_5 : decode cX11_tick 5 = .ok (.sipush 200, 3) := by decide +kernel
theorem dX11_tick_8 : decode cX11_tick 8 = .ok (.if_icmp .le 5, 3) := by decide +kernel
theorem dX11_tick_11 : decode cX11_tick 11 = .ok (.iconst (-1), 1) := by decide +kernel
theorem dX11_tick_12 : decode cX11_tick 12 = .ok (.ireturn, 1) := by decide +kernel
theorem dX11_tick_13 : decode cX11_tick 13 = .ok (.iconst 0, 1) := by decide +kernel
theorem dX11_tick_14 : decode cX11_tick 14 = .ok (.istore_n 2, 1) := by decide +kernel
theorem dX11_tick_15 : decode cX11_tick 15 = .ok (.iload_n 2, 1) := by decide +kernel
theorem dX11_tick_16 : decode cX11_tick 16 = .ok (.iload_n 1, 1) := by decide +kernel
theorem dX11_tick_17 : decode cX11_tick 17 = .ok (.if_icmp .ge 57, 3) := by decide +kernel
theorem dX11_tick_20 : decode cX11_tick 20 = .ok (.aload_n 0, 1) := by decide +kernel
theorem dX11_tick_21 : decode cX11_tick 21 = .ok (.getfield 18, 3) := by decide +kernel
theorem dX11_tick_24 : decode cX11_tick 24 = .ok (.invokevirtual 132, 3) := by decide +kernel
theorem dX11_tick_27 : decode cX11_tick 27 = .ok (.istore_n 3, 1) := by decide +kernel
theorem dX11_tick_28 : decode cX11_tick 28 = .ok (.aload_n 0, 1) := by decide +kernel
theorem dX11_tick_29 : decode cX11_tick 29 = .ok (.getfield 24, 3) := by decide +kernel
theorem dX11_tick_32 : decode cX11_tick 32 = .ok (.iload_n 3, 1) := by decide +kernel
theorem dX11_tick_33 : decode cX11_tick 33 = .ok (.invokestatic 135, 3) := by decide +kernel
theorem dX11_tick_36 : decode cX11_tick 36 = .ok (.astore 4, 2) := by decide +kernel
theorem dX11_tick_38 : decode cX11_tick 38 = .ok (.aload 4, 2) := by decide +kernel
theorem dX11_tick_40 : decode cX11_tick 40 = .ok (.ifnull 15, 3) := by decide +kernel
theorem dX11_tick_43 : decode cX11_tick 43 = .ok (.aload_n 0, 1) := by decide +kernel
theorem dX11_tick_44 : decode cX11_tick 44 = .ok (.getfield 77, 3) := by decide +kernel
theorem dX11_tick_47 : decode cX11_tick 47 = .ok (.aload 4, 2) := by decide +kernel
theorem dX11_tick_49 : decode cX11_tick 49 = .ok (.invokevirtual 139, 3) := by decide +kernel
theorem dX11_tick_52 : decode cX11_tick 52 = .ok (.goto 8, 3) := by decide +kernel
theorem dX11_tick_55 : decode cX11_tick 55 = .ok (.aload_n 0, 1) := by decide +kernel
theorem dX11_tick_56 : decode cX11_tick 56 = .ok (.iload_n 3, 1) := by decide +kernel
theorem dX11_tick_57 : decode cX11_tick 57 = .ok (.invokevirtual 143, 3) := by decide +kernel
theorem dX11_tick_60 : decode cX11_tick 60 = .ok (.aload_n 0, 1) := by decide +kernel
theorem dX11_tick_61 : decode cX11_tick 61 = .ok (.getfield 18, 3) := by decide +kernel
theorem dX11_tick_64 : decode cX11_tick 64 = .ok (.iload_n 3, 1) := by decide +kernel
theorem dX11_tick_65 : decode cX11_tick 65 = .ok (.invokevirtual 146, 3) := by decide +kernel
theorem dX11_tick_68 : decode cX11_tick 68 = .ok (.iinc 2 1, 3) := by decide +kernel
theorem dX11_tick_71 : decode cX11_tick 71 = .ok (.goto (-56), 3) := by decide +kernel
theorem dX11_tick_74 : decode cX11_tick 74 = .ok (.aload_n 0, 1) := by decide +kernel
theorem dX11_tick_75 : decode cX11_tick 75 = .ok (.getfield 18, 3) := by decide +kernel
theorem dX11_tick_78 : decode cX11_tick 78 = .ok (.getfield 149, 3) := by decide +kernel
theorem dX11_tick_81 : decode cX11_tick 81 = .ok (.ireturn, 1) := by decide +kernel
theorem dX11_done_0 : decode cX11_done 0 = .ok (.iload_n 1, 1) := by decide +kernel
theorem dX11_done_1 : decode cX11_done 1 = .ok (.tableswitch 51 0 2 #[27, 35, 43], 27) := by decide +kernel
theorem dX11_done_28 : decode cX11_done 28 = .ok (.aload_n 0, 1) := by decide +kernel
theorem dX11_done_29 : decode cX11_done 29 = .ok (.getfield 41, 3) := by decide +kernel
theorem dX11_done_32 : decode cX11_done 32 = .ok (.invokevirtual 152, 3) := by decide +kernel
theorem dX11_done_35 : decode cX11_done 35 = .ok (.ireturn, 1) := by decide +kernel
theorem dX11_done_36 : decode cX11_done 36 = .ok (.aload_n 0, 1) := by decide +kernel
theorem dX11_done_37 : decode cX11_done 37 = .ok (.getfield 59, 3) := by decide +kernel
theorem dX11_done_40 : decode cX11_done 40 = .ok (.invokevirtual 156, 3) := by decide +kernel
theorem dX11_done_43 : decode cX11_done 43 = .ok (.ireturn, 1) := by decide +kernel
theorem dX11_done_44 : decode cX11_done 44 = .ok (.aload_n 0, 1) := by decide +kernel
theorem dX11_done_45 : decode cX11_done 45 = .ok (.getfield 59, 3) := by decide +kernel
theorem dX11_done_48 : decode cX11_done 48 = .ok (.invokevirtual 159, 3) := by decide +kernel
theorem dX11_done_51 : decode cX11_done 51 = .ok (.ireturn, 1) := by decide +kernel
theorem dX11_done_52 : decode cX11_done 52 = .ok (.iconst 0, 1) := by decide +kernel
theorem dX11_done_53 : decode cX11_done 53 = .ok (.ireturn, 1) := by decide +kernel
theorem dX11_type_0 : decode cX11_type 0 = .ok (.aload_n 0, 1) := by decide +kernel
theorem dX11_type_1 : decode cX11_type 1 = .ok (.getfield 68, 3) := by decide +kernel
theorem dX11_type_4 : decode cX11_type 4 = .ok (.iload_n 1, 1) := by decide +kernel
theorem dX11_type_5 : decode cX11_type 5 = .ok (.invokevirtual 162, 3) := by decide +kernel
theorem dX11_type_8 : decode cX11_type 8 = .ok (.ireturn, 1) := by decide +kernel
theorem dX11_process_0 : decode cX11_process 0 = .ok (.iload_n 1, 1) := by decide +kernel
theorem dX11_process_1 : decode cX11_process 1 = .ok (.ifCond .lt 9, 3) := by decide +kernel
theorem dX11_process_4 : decode cX11_process 4 = .ok (.iload_n 1, 1) := by decide +kernel
theorem dX11_process_5 : decode cX11_process 5 = .ok (.bipush 10, 2) := by decide +kernel
theorem dX11_process_7 : decode cX11_process 7 = .ok (.if_icmp .lt 5, 3) := by decide +kernel
theorem dX11_process_10 : decode cX11_process 10 = .ok (.iconst (-1), 1) := by decide +kernel
theorem dX11_process_11 : decode cX11_process 11 = .ok (.ireturn, 1) := by decide +kernel
theorem dX11_process_12 : decode cX11_process 12 = .ok (.iload_n 2, 1) := by decide +kernel
theorem dX11_process_13 : decode cX11_process 13 = .ok (.lookupswitch 48 #[(0, 27), (1, 39)], 27) := by decide +kernel
theorem dX11_process_40 : decode cX11_process 40 = .ok (.aload_n 0, 1) := by decide +kernel
theorem dX11_process_41 : decode cX11_process 41 = .ok (.getfield 18, 3) := by decide +kernel
theorem dX11_process_44 : decode cX11_process 44 = .ok (.getfield 166, 3) := by decide +kernel
theorem dX11_process_47 : decode cX11_process 47 = .ok (.iload_n 1, 1) := by decide +kernel
theorem dX11_process_48 : decode cX11_process 48 = .ok (.invokevirtual 169, 3) := by decide +kernel
theorem dX11_process_51 : decode cX11_process 51 = .ok (.ireturn, 1) := by decide +kernel
theorem dX11_process_52 : decode cX11_process 52 = .ok (.aload_n 0, 1) := by decide +kernel
theorem dX11_process_53 : decode cX11_process 53 = .ok (.getfield 18, 3) := by decide +kernel
theorem dX11_process_56 : decode cX11_process 56 = .ok (.iload_n 1, 1) := by decide +kernel
theorem dX11_process_57 : decode cX11_process 57 = .ok (.invokevirtual 173, 3) := by decide +kernel
theorem dX11_process_60 : decode cX11_process 60 = .ok (.ireturn, 1) := by decide +kernel
theorem dX11_process_61 : decode cX11_process 61 = .ok (.iconst (-1), 1) := by decide +kernel
theorem dX11_process_62 : decode cX11_process 62 = .ok (.ireturn, 1) := by decide +kernel
theorem dX11_job_0 : decode cX11_job 0 = .ok (.aload_n 0, 1) := by decide +kernel
theorem dX11_job_1 : decode cX11_job 1 = .ok (.getfield 24, 3) := by decide +kernel
theorem dX11_job_4 : decode cX11_job 4 = .ok (.iload_n 1, 1) := by decide +kernel
theorem dX11_job_5 : decode cX11_job 5 = .ok (.invokestatic 135, 3) := by decide +kernel
theorem dX11_job_8 : decode cX11_job 8 = .ok (.astore_n 3, 1) := by decide +kernel
theorem dX11_job_9 : decode cX11_job 9 = .ok (.aload_n 3, 1) := by decide +kernel
theorem dX11_job_10 : decode cX11_job 10 = .ok (.ifnonnull 7, 3) := by decide +kernel
theorem dX11_job_13 : decode cX11_job 13 = .ok (.iconst (-1), 1) := by decide +kernel
theorem dX11_job_14 : decode cX11_job 14 = .ok (.goto 8, 3) := by decide +kernel
theorem dX11_job_17 : decode cX11_job 17 = .ok (.aload_n 3, 1) := by decide +kernel
theorem dX11_job_18 : decode cX11_job 18 = .ok (.iload_n 2, 1) := by decide +kernel
theorem dX11_job_19 : decode cX11_job 19 = .ok (.invokevirtual 176, 3) := by decide +kernel
theorem dX11_job_22 : decode cX11_job 22 = .ok (.ireturn, 1) := by decide +kernel
theorem dX11_paper_0 : decode cX11_paper 0 = .ok (.aload_n 0, 1) := by decide +kernel
theorem dX11_paper_1 : decode cX11_paper 1 = .ok (.getfield 24, 3) := by decide +kernel
theorem dX11_paper_4 : decode cX11_paper 4 = .ok (.iload_n 1, 1) := by decide +kernel
theorem dX11_paper_5 : decode cX11_paper 5 = .ok (.invokestatic 135, 3) := by decide +kernel
theorem dX11_paper_8 : decode cX11_paper 8 = .ok (.astore_n 3, 1) := by decide +kernel
theorem dX11_paper_9 : decode cX11_paper 9 = .ok (.aload_n 3, 1) := by decide +kernel
theorem dX11_paper_10 : decode cX11_paper 10 = .ok (.ifnonnull 7, 3) := by decide +kernel
theorem dX11_paper_13 : decode cX11_paper 13 = .ok (.iconst 0, 1) := by decide +kernel
theorem dX11_paper_14 : decode cX11_paper 14 = .ok (.goto 12, 3) := by decide +kernel
theorem dX11_paper_17 : decode cX11_paper 17 = .ok (.aload_n 0, 1) := by decide +kernel
theorem dX11_paper_18 : decode cX11_paper 18 = .ok (.getfield 59, 3) := by decide +kernel
theorem dX11_paper_21 : decode cX11_paper 21 = .ok (.aload_n 3, 1) := by decide +kernel
theorem dX11_paper_22 : decode cX11_paper 22 = .ok (.iload_n 2, 1) := by decide +kernel
theorem dX11_paper_23 : decode cX11_paper 23 = .ok (.invokevirtual 179, 3) := by decide +kernel
theorem dX11_paper_26 : decode cX11_paper 26 = .ok (.ireturn, 1) := by decide +kernel
theorem dX11_word_0 : decode cX11_word 0 = .ok (.aload_n 0, 1) := by decide +kernel
theorem dX11_word_1 : decode cX11_word 1 = .ok (.getfield 24, 3) := by decide +kernel
theorem dX11_word_4 : decode cX11_word 4 = .ok (.iload_n 1, 1) := by decide +kernel
theorem dX11_word_5 : decode cX11_word 5 = .ok (.invokestatic 135, 3) := by decide +kernel
theorem dX11_word_8 : decode cX11_word 8 = .ok (.astore_n 3, 1) := by decide +kernel
theorem dX11_word_9 : decode cX11_word 9 = .ok (.aload_n 3, 1) := by decide +kernel
theorem dX11_word_10 : decode cX11_word 10 = .ok (.ifnull 26, 3) := by decide +kernel
theorem dX11_word_13 : decode cX11_word 13 = .ok (.aload_n 3, 1) := by decide +kernel
theorem dX11_word_14 : decode cX11_word 14 = .ok (.getfield 183, 3) := by decide +kernel
theorem dX11_word_17 : decode cX11_word 17 = .ok (.ifCond .eq 19, 3) := by decide +kernel
theorem dX11_word_20 : decode cX11_word 20 = .ok (.aload_n 3, 1) := by decide +kernel
theorem dX11_word_21 : decode cX11_word 21 = .ok (.getfield 183, 3) := by decide +kernel
theorem dX11_word_24 : decode cX11_word 24 = .ok (.iconst 3, 1) := by decide +kernel
theorem dX11_word_25 : decode cX11_word 25 = .ok (.if_icmp .eq 11, 3) := by decide +kernel
theorem dX11_word_28 : decode cX11_word 28 = .ok (.aload_n 3, 1) := by decide +kernel
theorem dX11_word_29 : decode cX11_word 29 = .ok (.iload_n 2, 1) := by decide +kernel
theorem dX11_word_30 : decode cX11_word 30 = .ok (.invokevirtual 186, 3) := by decide +kernel
theorem dX11_word_33 : decode cX11_word 33 = .ok (.ifCond .ne 5, 3) := by decide +kernel
theorem dX11_word_36 : decode cX11_word 36 = .ok (.iconst 0, 1) := by decide +kernel
theorem dX11_word_37 : decode cX11_word 37 = .ok (.ireturn, 1) := by decide +kernel
theorem dX11_word_38 : decode cX11_word 38 = .ok (.aload_n 0, 1) := by decide +kernel
theorem dX11_word_39 : decode cX11_word 39 = .ok (.getfield 41, 3) := by decide +kernel
theorem dX11_word_42 : decode cX11_word 42 = .ok (.aload_n 3, 1) := by decide +kernel
theorem dX11_word_43 : decode cX11_word 43 = .ok (.iload_n 2, 1) := by decide +kernel
theorem dX11_word_44 : decode cX11_word 44 = .ok (.bipush 16, 2) := by decide +kernel
theorem dX11_word_46 : decode cX11_word 46 = .ok (.idiv, 1) := by decide +kernel
theorem dX11_word_47 : decode cX11_word 47 = .ok (.invokevirtual 189, 3) := by decide +kernel
theorem dX11_word_50 : decode cX11_word 50 = .ok (.astore 4, 2) := by decide +kernel
theorem dX11_word_52 : decode cX11_word 52 = .ok (.aload 4, 2) := by decide +kernel
theorem dX11_word_54 : decode cX11_word 54 = .ok (.ifnonnull 11, 3) := by decide +kernel
theorem dX11_word_57 : decode cX11_word 57 = .ok (.aload_n 3, 1) := by decide +kernel
theorem dX11_word_58 : decode cX11_word 58 = .ok (.iload_n 2, 1) := by decide +kernel
theorem dX11_word_59 : decode cX11_word 59 = .ok (.invokevirtual 193, 3) := by decide +kernel
theorem dX11_word_62 : decode cX11_word 62 = .ok (.goto 9, 3) := by decide +kernel
theorem dX11_word_65 : decode cX11_word 65 = .ok (.aload 4, 2) := by decide +kernel
theorem dX11_word_67 : decode cX11_word 67 = .ok (.iload_n 2, 1) := by decide +kernel
theorem dX11_word_68 : decode cX11_word 68 = .ok (.invokevirtual 196, 3) := by decide +kernel
theorem dX11_word_71 : decode cX11_word 71 = .ok (.ireturn, 1) := by decide +kernel
theorem dX11_frame_0 : decode cX11_frame 0 = .ok (.aload_n 0, 1) := by decide +kernel
theorem dX11_frame_1 : decode cX11_frame 1 = .ok (.getfield 32, 3) := by decide +kernel
theorem dX11_frame_4 : decode cX11_frame 4 = .ok (.iload_n 1, 1) := by decide +kernel
theorem dX11_frame_5 : decode cX11_frame 5 = .ok (.iload_n 2, 1) := by decide +kernel
theorem dX11_frame_6 : decode cX11_frame 6 = .ok (.invokevirtual 201, 3) := by decide +kernel
theorem dX11_frame_9 : decode cX11_frame 9 = .ok (.ireturn, 1) := by decide +kernel
theorem dX11_about_0 : decode cX11_about 0 = .ok (.iload_n 1, 1) := by decide +kernel
theorem dX11_about_1 : decode cX11_about 1 = .ok (.tableswitch 156 0 10 #[59, 67, 75, 86, 97, 106, 115, 124, 132, 140, 148], 59) := by decide +kernel
theorem dX11_about_60 : decode cX11_about 60 = .ok (.aload_n 0, 1) := by decide +kernel
theorem dX11_about_61 : decode cX11_about 61 = .ok (.getfield 18, 3) := by decide +kernel
theorem dX11_about_64 : decode cX11_about 64 = .ok (.getfield 149, 3) := by decide +kernel
theorem dX11_about_67 : decode cX11_about 67 = .ok (.ireturn, 1) := by decide +kernel
theorem dX11_about_68 : decode cX11_about 68 = .ok (.aload_n 0, 1) := by decide +kernel
theorem dX11_about_69 : decode cX11_about 69 = .ok (.getfield 41, 3) := by decide +kernel
theorem dX11_about_72 : decode cX11_about 72 = .ok (.getfield 204, 3) := by decide +kernel
theorem dX11_about_75 : decode cX11_about 75 = .ok (.ireturn, 1) := by decide +kernel
theorem dX11_about_76 : decode cX11_about 76 = .ok (.aload_n 0, 1) := by decide +kernel
theorem dX11_about_77 : decode cX11_about 77 = .ok (.getfield 59, 3) := by decide +kernel
theorem dX11_about_80 : decode cX11_about 80 = .ok (.getfield 207, 3) := by decide +kernel
theorem dX11_about_83 : decode cX11_about 83 = .ok (.invokestatic 211, 3) := by decide +kernel
theorem dX11_about_86 : decode cX11_about 86 = .ok (.ireturn, 1) := by decide +kernel
theorem dX11_about_87 : decode cX11_about 87 = .ok (.aload_n 0, 1) := by decide +kernel
theorem dX11_about_88 : decode cX11_about 88 = .ok (.getfield 59, 3) := by decide +kernel
theorem dX11_about_91 : decode cX11_about 91 = .ok (.getfield 215, 3) := by decide +kernel
theorem dX11_about_94 : decode cX11_about 94 = .ok (.invokestatic 211, 3) := by decide +kernel
theorem dX11_about_97 : decode cX11_about 97 = .ok (.ireturn, 1) := by decide +kernel
theorem dX11_about_98 : decode cX11_about 98 = .ok (.aload_n 0, 1) := by decide +kernel
theorem dX11_about_99 : decode cX11_about 99 = .ok (.getfield 50, 3) := by decide +kernel
theorem dX11_about_102 : decode cX11_about 102 = .ok (.iconst 0, 1) := by decide +kernel
theorem dX11_about_103 : decode cX11_about 103 = .ok (.invokevirtual 218, 3) := by decide +kernel
theorem dX11_about_106 : decode cX11_about 106 = .ok (.ireturn, 1) := by decide +kernel
theorem dX11_about_107 : decode cX11_about 107 = .ok (.aload_n 0, 1) := by decide +kernel
theorem dX11_about_108 : decode cX11_about 108 = .ok (.getfield 50, 3) := by decide +kernel
theorem dX11_about_111 : decode cX11_about 111 = .ok (.iconst 1, 1) := by decide +kernel
theorem dX11_about_112 : decode cX11_about 112 = .ok (.invokevirtual 218, 3) := by decide +kernel
theorem dX11_about_115 : decode cX11_about 115 = .ok (.ireturn, 1) := by decide +kernel
theorem dX11_about_116 : decode cX11_about 116 = .ok (.aload_n 0, 1) := by decide +kernel
theorem dX11_about_117 : decode cX11_about 117 = .ok (.getfield 50, 3) := by decide +kernel
theorem dX11_about_120 : decode cX11_about 120 = .ok (.iconst 2, 1) := by decide +kernel
theorem dX11_about_121 : decode cX11_about 121 = .ok (.invokevirtual 218, 3) := by decide +kernel
theorem dX11_about_124 : decode cX11_about 124 = .ok (.ireturn, 1) := by decide +kernel
theorem dX11_about_125 : decode cX11_about 125 = .ok (.aload_n 0, 1) := by decide +kernel
theorem dX11_about_126 : decode cX11_about 126 = .ok (.getfield 68, 3) := by decide +kernel
theorem dX11_about_129 : decode cX11_about 129 = .ok (.getfield 221, 3) := by decide +kernel
theorem dX11_about_132 : decode cX11_about 132 = .ok (.ireturn, 1) := by decide +kernel
theorem dX11_about_133 : decode cX11_about 133 = .ok (.aload_n 0, 1) := by decide +kernel
theorem dX11_about_134 : decode cX11_about 134 = .ok (.getfield 50, 3) := by decide +kernel
theorem dX11_about_137 : decode cX11_about 137 = .ok (.invokevirtual 224, 3) := by decide +kernel
theorem dX11_about_140 : decode cX11_about 140 = .ok (.ireturn, 1) := by decide +kernel
theorem dX11_about_141 : decode cX11_about 141 = .ok (.aload_n 0, 1) := by decide +kernel
theorem dX11_about_142 : decode cX11_about 142 = .ok (.getfield 41, 3) := by decide +kernel
theorem dX11_about_145 : decode cX11_about 145 = .ok (.getfield 227, 3) := by decide +kernel
theorem dX11_about_148 : decode cX11_about 148 = .ok (.ireturn, 1) := by decide +kernel
theorem dX11_about_149 : decode cX11_about 149 = .ok (.aload_n 0, 1) := by decide +kernel
theorem dX11_about_150 : decode cX11_about 150 = .ok (.getfield 68, 3) := by decide +kernel
theorem dX11_about_153 : decode cX11_about 153 = .ok (.getfield 230, 3) := by decide +kernel
theorem dX11_about_156 : decode cX11_about 156 = .ok (.ireturn, 1) := by decide +kernel
theorem dX11_about_157 : decode cX11_about 157 = .ok (.iconst (-1), 1) := by decide +kernel
theorem dX11_about_158 : decode cX11_about 158 = .ok (.ireturn, 1) := by decide +kernel
theorem dX11_octet_0 : decode cX11_octet 0 = .ok (.aload_n 0, 1) := by decide +kernel
theorem dX11_octet_1 : decode cX11_octet 1 = .ok (.getfield 68, 3) := by decide +kernel
theorem dX11_octet_4 : decode cX11_octet 4 = .ok (.iload_n 1, 1) := by decide +kernel
theorem dX11_octet_5 : decode cX11_octet 5 = .ok (.invokevirtual 233, 3) := by decide +kernel
theorem dX11_octet_8 : decode cX11_octet 8 = .ok (.ireturn, 1) := by decide +kernel
theorem dX11_systemStep_0 : decode cX11_systemStep 0 = .ok (.iload_n 1, 1) := by decide +kernel
theorem dX11_systemStep_1 : decode cX11_systemStep 1 = .ok (.tableswitch 71 6 9 #[31, 41, 51, 61], 31) := by decide +kernel
theorem dX11_systemStep_32 : decode cX11_systemStep 32 = .ok (.aload_n 0, 1) := by decide +kernel
theorem dX11_systemStep_33 : decode cX11_systemStep 33 = .ok (.getfield 41, 3) := by decide +kernel
theorem dX11_systemStep_36 : decode cX11_systemStep 36 = .ok (.invokevirtual 236, 3) := by decide +kernel
theorem dX11_systemStep_39 : decode cX11_systemStep 39 = .ok (.goto 33, 3) := by decide +kernel
theorem dX11_systemStep_42 : decode cX11_systemStep 42 = .ok (.aload_n 0, 1) := by decide +kernel
theorem dX11_systemStep_43 : decode cX11_systemStep 43 = .ok (.getfield 59, 3) := by decide +kernel
theorem dX11_systemStep_46 : decode cX11_systemStep 46 = .ok (.invokevirtual 238, 3) := by decide +kernel
theorem dX11_systemStep_49 : decode cX11_systemStep 49 = .ok (.goto 23, 3) := by decide +kernel
theorem dX11_systemStep_52 : decode cX11_systemStep 52 = .ok (.aload_n 0, 1) := by decide +kernel
theorem dX11_systemStep_53 : decode cX11_systemStep 53 = .ok (.getfield 59, 3) := by decide +kernel
theorem dX11_systemStep_56 : decode cX11_systemStep 56 = .ok (.invokevirtual 241, 3) := by decide +kernel
theorem dX11_systemStep_59 : decode cX11_systemStep 59 = .ok (.goto 13, 3) := by decide +kernel
theorem dX11_systemStep_62 : decode cX11_systemStep 62 = .ok (.aload_n 0, 1) := by decide +kernel
theorem dX11_systemStep_63 : decode cX11_systemStep 63 = .ok (.getfield 68, 3) := by decide +kernel
theorem dX11_systemStep_66 : decode cX11_systemStep 66 = .ok (.invokevirtual 244, 3) := by decide +kernel
theorem dX11_systemStep_69 : decode cX11_systemStep 69 = .ok (.goto 3, 3) := by decide +kernel
theorem dX11_systemStep_72 : decode cX11_systemStep 72 = .ok (.return_, 1) := by decide +kernel
theorem dX11_vacantJob_0 : decode cX11_vacantJob 0 = .ok (.iconst 0, 1) := by decide +kernel
theorem dX11_vacantJob_1 : decode cX11_vacantJob 1 = .ok (.istore_n 1, 1) := by decide +kernel
theorem dX11_vacantJob_2 : decode cX11_vacantJob 2 = .ok (.iload_n 1, 1) := by decide +kernel
theorem dX11_vacantJob_3 : decode cX11_vacantJob 3 = .ok (.aload_n 0, 1) := by decide +kernel
theorem dX11_vacantJob_4 : decode cX11_vacantJob 4 = .ok (.getfield 24, 3) := by decide +kernel
theorem dX11_vacantJob_7 : decode cX11_vacantJob 7 = .ok (.arraylength, 1) := by decide +kernel
theorem dX11_vacantJob_8 : decode cX11_vacantJob 8 = .ok (.if_icmp .ge 41, 3) := by decide +kernel
theorem dX11_vacantJob_11 : decode cX11_vacantJob 11 = .ok (.aload_n 0, 1) := by decide +kernel
theorem dX11_vacantJob_12 : decode cX11_vacantJob 12 = .ok (.getfield 24, 3) := by decide +kernel
theorem dX11_vacantJob_15 : decode cX11_vacantJob 15 = .ok (.iload_n 1, 1) := by decide +kernel
theorem dX11_vacantJob_16 : decode cX11_vacantJob 16 = .ok (.aaload, 1) := by decide +kernel
theorem dX11_vacantJob_17 : decode cX11_vacantJob 17 = .ok (.getfield 183, 3) := by decide +kernel
theorem dX11_vacantJob_20 : decode cX11_vacantJob 20 = .ok (.ifCond .eq 16, 3) := by decide +kernel
theorem dX11_vacantJob_23 : decode cX11_vacantJob 23 = .ok (.aload_n 0, 1) := by decide +kernel
theorem dX11_vacantJob_24 : decode cX11_vacantJob 24 = .ok (.getfield 24, 3) := by decide +kernel
theorem dX11_vacantJob_27 : decode cX11_vacantJob 27 = .ok (.iload_n 1, 1) := by decide +kernel
theorem dX11_vacantJob_28 : decode cX11_vacantJob 28 = .ok (.aaload, 1) := by decide +kernel
theorem dX11_vacantJob_29 : decode cX11_vacantJob 29 = .ok (.getfield 183, 3) := by decide +kernel
theorem dX11_vacantJob_32 : decode cX11_vacantJob 32 = .ok (.iconst 3, 1) := by decide +kernel
theorem dX11_vacantJob_33 : decode cX11_vacantJob 33 = .ok (.if_icmp .ne 10, 3) := by decide +kernel
theorem dX11_vacantJob_36 : decode cX11_vacantJob 36 = .ok (.aload_n 0, 1) := by decide +kernel
theorem dX11_vacantJob_37 : decode cX11_vacantJob 37 = .ok (.getfield 24, 3) := by decide +kernel
theorem dX11_vacantJob_40 : decode cX11_vacantJob 40 = .ok (.iload_n 1, 1) := by decide +kernel
theorem dX11_vacantJob_41 : decode cX11_vacantJob 41 = .ok (.aaload, 1) := by decide +kernel
theorem dX11_vacantJob_42 : decode cX11_vacantJob 42 = .ok (.areturn, 1) := by decide +kernel
theorem dX11_vacantJob_43 : decode cX11_vacantJob 43 = .ok (.iinc 1 1, 3) := by decide +kernel
theorem dX11_vacantJob_46 : decode cX11_vacantJob 46 = .ok (.goto (-44), 3) := by decide +kernel
theorem dX11_vacantJob_49 : decode cX11_vacantJob 49 = .ok (.aconst_null, 1) := by decide +kernel
theorem dX11_vacantJob_50 : decode cX11_vacantJob 50 = .ok (.areturn, 1) := by decide +kernel
theorem dX11_isDeck_0 : decode cX11_isDeck 0 = .ok (.iload_n 3, 1) := by decide +kernel
theorem dX11_isDeck_1 : decode cX11_isDeck 1 = .ok (.iconst 1, 1) := by decide +kernel
theorem dX11_isDeck_2 : decode cX11_isDeck 2 = .ok (.if_icmp .lt 48, 3) := by decide +kernel
theorem dX11_isDeck_5 : decode cX11_isDeck 5 = .ok (.iload_n 3, 1) := by decide +kernel
theorem dX11_isDeck_6 : decode cX11_isDeck 6 = .ok (.bipush 8, 2) := by decide +kernel
theorem dX11_isDeck_8 : decode cX11_isDeck 8 = .ok (.if_icmp .gt 42, 3) := by decide +kernel
theorem dX11_isDeck_11 : decode cX11_isDeck 11 = .ok (.iload_n 1, 1) := by decide +kernel
theorem dX11_isDeck_12 : decode cX11_isDeck 12 = .ok (.ifCond .lt 38, 3) := by decide +kernel
theorem dX11_isDeck_15 : decode cX11_isDeck 15 = .ok (.iload_n 1, 1) := by decide +kernel
theorem dX11_isDeck_16 : decode cX11_isDeck 16 = .ok (.iload_n 3, 1) := by decide +kernel
theorem dX11_isDeck_17 : decode cX11_isDeck 17 = .ok (.bipush 16, 2) := by decide +kernel
theorem dX11_isDeck_19 : decode cX11_isDeck 19 = .ok (.imul, 1) := by decide +kernel
theorem dX11_isDeck_20 : decode cX11_isDeck 20 = .ok (.if_icmp .gt 30, 3) := by decide +kernel
theorem dX11_isDeck_23 : decode cX11_isDeck 23 = .ok (.iload_n 2, 1) := by decide +kernel
theorem dX11_isDeck_24 : decode cX11_isDeck 24 = .ok (.ifCond .lt 26, 3) := by decide +kernel
theorem dX11_isDeck_27 : decode cX11_isDeck 27 = .ok (.iload_n 2, 1) := by decide +kernel
theorem dX11_isDeck_28 : decode cX11_isDeck 28 = .ok (.bipush 40, 2) := by decide +kernel
theorem dX11_isDeck_30 : decode cX11_isDeck 30 = .ok (.if_icmp .gt 20, 3) := by decide +kernel
theorem dX11_isDeck_33 : decode cX11_isDeck 33 = .ok (.iload_n 1, 1) := by decide +kernel
theorem dX11_isDeck_34 : decode cX11_isDeck 34 = .ok (.iload_n 2, 1) := by decide +kernel
theorem dX11_isDeck_35 : decode cX11_isDeck 35 = .ok (.iadd, 1) := by decide +kernel
theorem dX11_isDeck_36 : decode cX11_isDeck 36 = .ok (.aload_n 0, 1) := by decide +kernel
theorem dX11_isDeck_37 : decode cX11_isDeck 37 = .ok (.getfield 84, 3) := by decide +kernel
theorem dX11_isDeck_40 : decode cX11_isDeck 40 = .ok (.invokevirtual 88, 3) := by decide +kernel
theorem dX11_isDeck_43 : decode cX11_isDeck 43 = .ok (.if_icmp .gt 7, 3) := by decide +kernel
theorem dX11_isDeck_46 : decode cX11_isDeck 46 = .ok (.iconst 1, 1) := by decide +kernel
theorem dX11_isDeck_47 : decode cX11_isDeck 47 = .ok (.goto 4, 3) := by decide +kernel
theorem dX11_isDeck_50 : decode cX11_isDeck 50 = .ok (.iconst 0, 1) := by decide +kernel
theorem dX11_isDeck_51 : decode cX11_isDeck 51 = .ok (.ireturn, 1) := by decide +kernel
theorem dX11_jobAt_0 : decode cX11_jobAt 0 = .ok (.iload_n 1, 1) := by decide +kernel
theorem dX11_jobAt_1 : decode cX11_jobAt 1 = .ok (.ifCond .lt 15, 3) := by decide +kernel
theorem dX11_jobAt_4 : decode cX11_jobAt 4 = .ok (.iload_n 1, 1) := by decide +kernel
theorem dX11_jobAt_5 : decode cX11_jobAt 5 = .ok (.aload_n 0, 1) := by decide +kernel
theorem dX11_jobAt_6 : decode cX11_jobAt 6 = .ok (.arraylength, 1) := by decide +kernel
theorem dX11_jobAt_7 : decode cX11_jobAt 7 = .ok (.if_icmp .ge 9, 3) := by decide +kernel
theorem dX11_jobAt_10 : decode cX11_jobAt 10 = .ok (.aload_n 0, 1) := by decide +kernel
theorem dX11_jobAt_11 : decode cX11_jobAt 11 = .ok (.iload_n 1, 1) := by decide +kernel
theorem dX11_jobAt_12 : decode cX11_jobAt 12 = .ok (.aaload, 1) := by decide +kernel
theorem dX11_jobAt_13 : decode cX11_jobAt 13 = .ok (.goto 4, 3) := by decide +kernel
theorem dX11_jobAt_16 : decode cX11_jobAt 16 = .ok (.aconst_null, 1) := by decide +kernel
theorem dX11_jobAt_17 : decode cX11_jobAt 17 = .ok (.areturn, 1) := by decide +kernel
theorem dX11_within_0 : decode cX11_within 0 = .ok (.iload_n 1, 1) := by decide +kernel
theorem dX11_within_1 : decode cX11_within 1 = .ok (.iload_n 2, 1) := by decide +kernel
theorem dX11_within_2 : decode cX11_within 2 = .ok (.iload_n 0, 1) := by decide +kernel
theorem dX11_within_3 : decode cX11_within 3 = .ok (.invokestatic 245, 3) := by decide +kernel
theorem dX11_within_6 : decode cX11_within 6 = .ok (.invokestatic 250, 3) := by decide +kernel
theorem dX11_within_9 : decode cX11_within 9 = .ok (.ireturn, 1) := by decide +kernel
theorem dX11_asNumber_0 : decode cX11_asNumber 0 = .ok (.iload_n 0, 1) := by decide +kernel
theorem dX11_asNumber_1 : decode cX11_asNumber 1 = .ok (.ifCond .eq 7, 3) := by decide +kernel
theorem dX11_asNumber_4 : decode cX11_asNumber 4 = .ok (.iconst 1, 1) := by decide +kernel
theorem dX11_asNumber_5 : decode cX11_asNumber 5 = .ok (.goto 4, 3) := by decide +kernel
theorem dX11_asNumber_8 : decode cX11_asNumber 8 = .ok (.iconst 0, 1) := by decide +kernel
theorem dX11_asNumber_9 : decode cX11_asNumber 9 = .ok (.ireturn, 1) := by decide +kernel
theorem dX12_init_0 : decode cX12_init 0 = .ok (.aload_n 0, 1) := by decide +kernel
theorem dX12_init_1 : decode cX12_init 1 = .ok (.invokespecial 1, 3) := by decide +kernel
theorem dX12_init_4 : decode cX12_init 4 = .ok (.aload_n 0, 1) := by decide +kernel
theorem dX12_init_5 : decode cX12_init 5 = .ok (.sipush 200, 3) := by decide +kernel
theorem dX12_init_8 : decode cX12_init 8 = .ok (.newarray .int, 2) := by decide +kernel
theorem dX12_init_10 : decode cX12_init 10 = .ok (.putfield 7, 3) := by decide +kernel
theorem dX12_init_13 : decode cX12_init 13 = .ok (.aload_n 0, 1) := by decide +kernel
theorem dX12_init_14 : decode cX12_init 14 = .ok (.bipush 10, 2) := by decide +kernel
theorem dX12_init_16 : decode cX12_init 16 = .ok (.newarray .int, 2) := by decide +kernel
theorem dX12_init_18 : decode cX12_init 18 = .ok (.putfield 13, 3) := by decide +kernel
theorem dX12_init_21 : decode cX12_init 21 = .ok (.aload_n 0, 1) := by decide +kernel
theorem dX12_init_22 : decode cX12_init 22 = .ok (.bipush 10, 2) := by decide +kernel
theorem dX12_init_24 : decode cX12_init 24 = .ok (.newarray .boolean, 2) := by decide +kernel
theorem dX12_init_26 : decode cX12_init 26 = .ok (.putfield 16, 3) := by decide +kernel
theorem dX12_init_29 : decode cX12_init 29 = .ok (.aload_n 0, 1) := by decide +kernel
theorem dX12_init_30 : decode cX12_init 30 = .ok (.bipush 10, 2) := by decide +kernel
theorem dX12_init_32 : decode cX12_init 32 = .ok (.newarray .int, 2) := by decide +kernel
theorem dX12_init_34 : decode cX12_init 34 = .ok (.putfield 20, 3) := by decide +kernel
theorem dX12_init_37 : decode cX12_init 37 = .ok (.aload_n 0, 1) := by decide +kernel
theorem dX12_init_38 : decode cX12_init 38 = .ok (.bipush 10, 2) := by decide +kernel
theorem dX12_init_40 : decode cX12_init 40 = .ok (.newarray .int, 2) := by decide +kernel
theorem dX12_init_42 : decode cX12_init 42 = .ok (.putfield 23, 3) := by decide +kernel
theorem dX12_init_45 : decode cX12_init 45 = .ok (.aload_n 0, 1) := by decide +kernel
theorem dX12_init_46 : decode cX12_init 46 = .ok (.bipush 10, 2) := by decide +kernel
theorem dX12_init_48 : decode cX12_init 48 = .ok (.newarray .int, 2) := by decide +kernel
theorem dX12_init_50 : decode cX12_init 50 = .ok (.putfield 26, 3) := by decide +kernel
theorem dX12_init_53 : decode cX12_init 53 = .ok (.aload_n 0, 1) := by decide +kernel
theorem dX12_init_54 : decode cX12_init 54 = .ok (.bipush 7, 2) := by decide +kernel
theorem dX12_init_56 : decode cX12_init 56 = .ok (.newarray .int, 2) := by decide +kernel
theorem dX12_init_58 : decode cX12_init 58 = .ok (.putfield 29, 3) := by decide +kernel
theorem dX12_init_61 : decode cX12_init 61 = .ok (.aload_n 0, 1) := by decide +kernel
theorem dX12_init_62 : decode cX12_init 62 = .ok (.bipush 6, 2) := by decide +kernel
theorem dX12_init_64 : decode cX12_init 64 = .ok (.newarray .int, 2) := by decide +kernel
theorem dX12_init_66 : decode cX12_init 66 = .ok (.putfield 32, 3) := by decide +kernel
theorem dX12_init_69 : decode cX12_init 69 = .ok (.aload_n 0, 1) := by decide +kernel
theorem dX12_init_70 : decode cX12_init 70 = .ok (.bipush 6, 2) := by decide +kernel
theorem dX12_init_72 : decode cX12_init 72 = .ok (.newarray .int, 2) := by decide +kernel
theorem dX12_init_74 : decode cX12_init 74 = .ok (.putfield 35, 3) := by decide +kernel
theorem dX12_init_77 : decode cX12_init 77 = .ok (.aload_n 0, 1) := by decide +kernel
theorem dX12_init_78 : decode cX12_init 78 = .ok (.bipush 6, 2) := by decide +kernel
theorem dX12_init_80 : decode cX12_init 80 = .ok (.newarray .int, 2) := by decide +kernel
theorem dX12_init_82 : decode cX12_init 82 = .ok (.putfield 38, 3) := by decide +kernel
theorem dX12_init_85 : decode cX12_init 85 = .ok (.aload_n 0, 1) := by decide +kernel
theorem dX12_init_86 : decode cX12_init 86 = .ok (.bipush 6, 2) := by decide +kernel
theorem dX12_init_88 : decode cX12_init 88 = .ok (.newarray .int, 2) := by decide +kernel
theorem dX12_init_90 : decode cX12_init 90 = .ok (.putfield 41, 3) := by decide +kernel
theorem dX12_init_93 : decode cX12_init 93 = .ok (.aload_n 0, 1) := by decide +kernel
theorem dX12_init_94 : decode cX12_init 94 = .ok (.bipush 6, 2) := by decide +kernel
theorem dX12_init_96 : decode cX12_init 96 = .ok (.newarray .int, 2) := by decide +kernel
theorem dX12_init_98 : decode cX12_init 98 = .ok (.putfield 44, 3) := by decide +kernel
theorem dX12_init_101 : decode cX12_init 101 = .ok (.aload_n 0, 1) := by decide +kernel
theorem dX12_init_102 : decode cX12_init 102 = .ok (.bipush 6, 2) := by decide +kernel
theorem dX12_init_104 : decode cX12_init 104 = .ok (.newarray .int, 2) := by decide +kernel
theorem dX12_init_106 : decode cX12_init 106 = .ok (.putfield 47, 3) := by decide +kernel
theorem dX12_init_109 : decode cX12_init 109 = .ok (.aload_n 0, 1) := by decide +kernel
theorem dX12_init_110 : decode cX12_init 110 = .ok (.bipush 6, 2) := by decide +kernel
theorem dX12_init_112 : decode cX12_init 112 = .ok (.newarray .int, 2) := by decide +kernel
theorem dX12_init_114 : decode cX12_init 114 = .ok (.putfield 50, 3) := by decide +kernel
theorem dX12_init_117 : decode cX12_init 117 = .ok (.aload_n 0, 1) := by decide +kernel
theorem dX12_init_118 : decode cX12_init 118 = .ok (.bipush 6, 2) := by decide +kernel
theorem dX12_init_120 : decode cX12_init 120 = .ok (.newarray .int, 2) := by decide +kernel
theorem dX12_init_122 : decode cX12_init 122 = .ok (.putfield 53, 3) := by decide +kernel
theorem dX12_init_125 : decode cX12_init 125 = .ok (.aload_n 0, 1) := by decide +kernel
theorem dX12_init_126 : decode cX12_init 126 = .ok (.bipush 6, 2) := by decide +kernel
theorem dX12_init_128 : decode cX12_init 128 = .ok (.newarray .int, 2) := by decide +kernel
theorem dX12_init_130 : decode cX12_init 130 = .ok (.putfield 56, 3) := by decide +kernel
theorem dX12_init_133 : decode cX12_init 133 = .ok (.aload_n 0, 1) := by decide +kernel
theorem dX12_init_134 : decode cX12_init 134 = .ok (.bipush 6, 2) := by decide +kernel
theorem dX12_init_136 : decode cX12_init 136 = .ok (.newarray .int, 2) := by decide +kernel
theorem dX12_init_138 : decode cX12_init 138 = .ok (.putfield 59, 3) := by decide +kernel
theorem dX12_init_141 : decode cX12_init 141 = .ok (.aload_n 0, 1) := by decide +kernel
theorem dX12_init_142 : decode cX12_init 142 = .ok (.bipush 6, 2) := by decide +kernel
theorem dX12_init_144 : decode cX12_init 144 = .ok (.newarray .boolean, 2) := by decide +kernel
theorem dX12_init_146 : decode cX12_init 146 = .ok (.putfield 62, 3) := by decide +kernel
theorem dX12_init_149 : decode cX12_init 149 = .ok (.aload_n 0, 1) := by decide +kernel
theorem dX12_init_150 : decode cX12_init 150 = .ok (.bipush 18, 2) := by decide +kernel
theorem dX12_init_152 : decode cX12_init 152 = .ok (.newarray .int, 2) := by decide +kernel
theorem dX12_init_154 : decode cX12_init 154 = .ok (.putfield 65, 3) := by decide +kernel
theorem dX12_init_157 : decode cX12_init 157 = .ok (.aload_n 0, 1) := by decide +kernel
theorem dX12_init_158 : decode cX12_init 158 = .ok (.bipush 18, 2) := by decide +kernel
theorem dX12_init_160 : decode cX12_init 160 = .ok (.newarray .int, 2) := by decide +kernel
theorem dX12_init_162 : decode cX12_init 162 = .ok (.putfield 68, 3) := by decide +kernel
theorem dX12_init_165 : decode cX12_init 165 = .ok (.aload_n 0, 1) := by decide +kernel
theorem dX12_init_166 : decode cX12_init 166 = .ok (.iconst 3, 1) := by decide +kernel
theorem dX12_init_167 : decode cX12_init 167 = .ok (.newarray .int, 2) := by decide +kernel
theorem dX12_init_169 : decode cX12_init 169 = .ok (.putfield 71, 3) := by decide +kernel
theorem dX12_init_172 : decode cX12_init 172 = .ok (.aload_n 0, 1) := by decide +kernel
theorem dX12_init_173 : decode cX12_init 173 = .ok (.bipush 6, 2) := by decide +kernel
theorem dX12_init_175 : decode cX12_init 175 = .ok (.newarray .int, 2) := by decide +kernel
theorem dX12_init_177 : decode cX12_init 177 = .ok (.putfield 74, 3) := by decide +kernel
theorem dX12_init_180 : decode cX12_init 180 = .ok (.aload_n 0, 1) := by decide +kernel
theorem dX12_init_181 : decode cX12_init 181 = .ok (.sipush 240, 3) := by decide +kernel
theorem dX12_init_184 : decode cX12_init 184 = .ok (.newarray .int, 2) := by decide +kernel
theorem dX12_init_186 : decode cX12_init 186 = .ok (.putfield 77, 3) := by decide +kernel
theorem dX12_init_189 : decode cX12_init 189 = .ok (.aload_n 0, 1) := by decide +kernel
theorem dX12_init_190 : decode cX12_init 190 = .ok (.bipush 6, 2) := by decide +kernel
theorem dX12_init_192 : decode cX12_init 192 = .ok (.newarray .int, 2) := by decide +kernel
theorem dX12_init_194 : decode cX12_init 194 = .ok (.putfield 80, 3) := by decide +kernel
theorem dX12_init_197 : decode cX12_init 197 = .ok (.aload_n 0, 1) := by decide +kernel
theorem dX12_init_198 : decode cX12_init 198 = .ok (.bipush 6, 2) := by decide +kernel
theorem dX12_init_200 : decode cX12_init 200 = .ok (.newarray .int, 2) := by decide +kernel
theorem dX12_init_202 : decode cX12_init 202 = .ok (.putfield 83, 3) := by decide +kernel
theorem dX12_init_205 : decode cX12_init 205 = .ok (.aload_n 0, 1) := by decide +kernel
theorem dX12_init_206 : decode cX12_init 206 = .ok (.sipush 144, 3) := by decide +kernel
theorem dX12_init_209 : decode cX12_init 209 = .ok (.newarray .int, 2) := by decide +kernel
theorem dX12_init_211 : decode cX12_init 211 = .ok (.putfield 86, 3) := by decide +kernel
theorem dX12_init_214 : decode cX12_init 214 = .ok (.aload_n 0, 1) := by decide +kernel
theorem dX12_init_215 : decode cX12_init 215 = .ok (.bipush 6, 2) := by decide +kernel
theorem dX12_init_217 : decode cX12_init 217 = .ok (.newarray .int, 2) := by decide +kernel
theorem dX12_init_219 : decode cX12_init 219 = .ok (.putfield 89, 3) := by decide +kernel
theorem dX12_init_222 : decode cX12_init 222 = .ok (.aload_n 0, 1) := by decide +kernel
theorem dX12_init_223 : decode cX12_init 223 = .ok (.sipush 30000, 3) := by decide +kernel
theorem dX12_init_226 : decode cX12_init 226 = .ok (.newarray .int, 2) := by decide +kernel
theorem dX12_init_228 : decode cX12_init 228 = .ok (.putfield 92, 3) := by decide +kernel
theorem dX12_init_231 : decode cX12_init 231 = .ok (.aload_n 0, 1) := by decide +kernel
theorem dX12_init_232 : decode cX12_init 232 = .ok (.bipush 6, 2) := by decide +kernel
theorem dX12_init_234 : decode cX12_init 234 = .ok (.newarray .int, 2) := by decide +kernel
theorem dX12_init_236 : decode cX12_init 236 = .ok (.putfield 95, 3) := by decide +kernel
theorem dX12_init_239 : decode cX12_init 239 = .ok (.aload_n 0, 1) := by decide +kernel
theorem dX12_init_240 : decode cX12_init 240 = .ok (.sipush 768, 3) := by decide +kernel
theorem dX12_init_243 : decode cX12_init 243 = .ok (.newarray .int, 2) := by decide +kernel
theorem dX12_init_245 : decode cX12_init 245 = .ok (.putfield 98, 3) := by decide +kernel
theorem dX12_init_248 : decode cX12_init 248 = .ok (.aload_n 0, 1) := by decide +kernel
theorem dX12_init_249 : decode cX12_init 249 = .ok (.sipush 192, 3) := by decide +kernel
theorem dX12_init_252 : decode cX12_init 252 = .ok (.newarray .int, 2) := by decide +kernel
theorem dX12_init_254 : decode cX12_init 254 = .ok (.putfield 101, 3) := by decide +kernel
theorem dX12_init_257 : decode cX12_init 257 = .ok (.aload_n 0, 1) := by decide +kernel
theorem dX12_init_258 : decode cX12_init 258 = .ok (.bipush 12, 2) := by decide +kernel
theorem dX12_init_260 : decode cX12_init 260 = .ok (.newarray .int, 2) := by decide +kernel
theorem dX12_init_262 : decode cX12_init 262 = .ok (.putfield 104, 3) := by decide +kernel
theorem dX12_init_265 : decode cX12_init 265 = .ok (.aload_n 0, 1) := by decide +kernel
theorem dX12_init_266 : decode cX12_init 266 = .ok (.bipush 12, 2) := by decide +kernel
theorem dX12_init_268 : decode cX12_init 268 = .ok (.newarray .int, 2) := by decide +kernel
theorem dX12_init_270 : decode cX12_init 270 = .ok (.putfield 107, 3) := by decide +kernel
theorem dX12_init_273 : decode cX12_init 273 = .ok (.aload_n 0, 1) := by decide +kernel
theorem dX12_init_274 : decode cX12_init 274 = .ok (.bipush 12, 2) := by decide +kernel
theorem dX12_init_276 : decode cX12_init 276 = .ok (.newarray .int, 2) := by decide +kernel
theorem dX12_init_278 : decode cX12_init 278 = .ok (.putfield 110, 3) := by decide +kernel
theorem dX12_init_281 : decode cX12_init 281 = .ok (.aload_n 0, 1) := by decide +kernel
theorem dX12_init_282 : decode cX12_init 282 = .ok (.bipush 12, 2) := by decide +kernel
theorem dX12_init_284 : decode cX12_init 284 = .ok (.newarray .boolean, 2) := by decide +kernel
theorem dX12_init_286 : decode cX12_init 286 = .ok (.putfield 113, 3) := by decide +kernel
theorem dX12_init_289 : decode cX12_init 289 = .ok (.aload_n 0, 1) := by decide +kernel
theorem dX12_init_290 : decode cX12_init 290 = .ok (.bipush 12, 2) := by decide +kernel
theorem dX12_init_292 : decode cX12_init 292 = .ok (.newarray .boolean, 2) := by decide +kernel
theorem dX12_init_294 : decode cX12_init 294 = .ok (.putfield 116, 3) := by decide +kernel
theorem dX12_init_297 : decode cX12_init 297 = .ok (.aload_n 0, 1) := by decide +kernel
theorem dX12_init_298 : decode cX12_init 298 = .ok (.bipush 6, 2) := by decide +kernel
theorem dX12_init_300 : decode cX12_init 300 = .ok (.newarray .int, 2) := by decide +kernel
theorem dX12_init_302 : decode cX12_init 302 = .ok (.putfield 119, 3) := by decide +kernel
theorem dX12_init_305 : decode cX12_init 305 = .ok (.aload_n 0, 1) := by decide +kernel
theorem dX12_init_306 : decode cX12_init 306 = .ok (.bipush 6, 2) := by decide +kernel
theorem dX12_init_308 : decode cX12_init 308 = .ok (.newarray .int, 2) := by decide +kernel
theorem dX12_init_310 : decode cX12_init 310 = .ok (.putfield 122, 3) := by decide +kernel
theorem dX12_init_313 : decode cX12_init 313 = .ok (.aload_n 0, 1) := by decide +kernel
theorem dX12_init_314 : decode cX12_init 314 = .ok (.bipush 6, 2) := by decide +kernel
theorem dX12_init_316 : decode cX12_init 316 = .ok (.newarray .int, 2) := by decide +kernel
theorem dX12_init_318 : decode cX12_init 318 = .ok (.putfield 125, 3) := by decide +kernel
theorem dX12_init_321 : decode cX12_init 321 = .ok (.aload_n 0, 1) := by decide +kernel
theorem dX12_init_322 : decode cX12_init 322 = .ok (.bipush 6, 2) := by decide +kernel
theorem dX12_init_324 : decode cX12_init 324 = .ok (.newarray .int, 2) := by decide +kernel
theorem dX12_init_326 : decode cX12_init 326 = .ok (.putfield 128, 3) := by decide +kernel
theorem dX12_init_329 : decode cX12_init 329 = .ok (.aload_n 0, 1) := by decide +kernel
theorem dX12_init_330 : decode cX12_init 330 = .ok (.bipush 20, 2) := by decide +kernel
theorem dX12_init_332 : decode cX12_init 332 = .ok (.newarray .int, 2) := by decide +kernel
theorem dX12_init_334 : decode cX12_init 334 = .ok (.putfield 131, 3) := by decide +kernel
theorem dX12_init_337 : decode cX12_init 337 = .ok (.aload_n 0, 1) := by decide +kernel
theorem dX12_init_338 : decode cX12_init 338 = .ok (.sipush 160, 3) := by decide +kernel
theorem dX12_init_341 : decode cX12_init 341 = .ok (.newarray .int, 2) := by decide +kernel
theorem dX12_init_343 : decode cX12_init 343 = .ok (.putfield 134, 3) := by decide +kernel
theorem dX12_init_346 : decode cX12_init 346 = .ok (.aload_n 0, 1) := by decide +kernel
theorem dX12_init_347 : decode cX12_init 347 = .ok (.bipush 8, 2) := by decide +kernel
theorem dX12_init_349 : decode cX12_init 349 = .ok (.newarray .int, 2) := by decide +kernel
theorem dX12_init_351 : decode cX12_init 351 = .ok (.putfield 137, 3) := by decide +kernel
theorem dX12_init_354 : decode cX12_init 354 = .ok (.aload_n 0, 1) := by decide +kernel
theorem dX12_init_355 : decode cX12_init 355 = .ok (.sipush 600, 3) := by decide +kernel
theorem dX12_init_358 : decode cX12_init 358 = .ok (.newarray .int, 2) := by decide +kernel
theorem dX12_init_360 : decode cX12_init 360 = .ok (.putfield 140, 3) := by decide +kernel
theorem dX12_init_363 : decode cX12_init 363 = .ok (.aload_n 0, 1) := by decide +kernel
theorem dX12_init_364 : decode cX12_init 364 = .ok (.bipush 64, 2) := by decide +kernel
theorem dX12_init_366 : decode cX12_init 366 = .ok (.newarray .boolean, 2) := by decide +kernel
theorem dX12_init_368 : decode cX12_init 368 = .ok (.putfield 143, 3) := by decide +kernel
theorem dX12_init_371 : decode cX12_init 371 = .ok (.aload_n 0, 1) := by decide +kernel
theorem dX12_init_372 : decode cX12_init 372 = .ok (.iload_n 1, 1) := by decide +kernel
theorem dX12_init_373 : decode cX12_init 373 = .ok (.iconst 4, 1) := by decide +kernel
theorem dX12_init_374 : decode cX12_init 374 = .ok (.bipush 12, 2) := by decide +kernel
theorem dX12_init_376 : decode cX12_init 376 = .ok (.invokestatic 146, 3) := by decide +kernel
theorem dX12_init_379 : decode cX12_init 379 = .ok (.putfield 150, 3) := by decide +kernel
theorem dX12_init_382 : decode cX12_init 382 = .ok (.aload_n 0, 1) := by decide +kernel
theorem dX12_init_383 : decode cX12_init 383 = .ok (.iload_n 2, 1) := by decide +kernel
theorem dX12_init_384 : decode cX12_init 384 = .ok (.iconst 1, 1) := by decide +kernel
theorem dX12_init_385 : decode cX12_init 385 = .ok (.bipush 6, 2) := by decide +kernel
theorem dX12_init_387 : decode cX12_init 387 = .ok (.invokestatic 146, 3) := by decide +kernel
theorem dX12_init_390 : decode cX12_init 390 = .ok (.putfield 154, 3) := by decide +kernel
theorem dX12_init_393 : decode cX12_init 393 = .ok (.aload_n 0, 1) := by decide +kernel
theorem dX12_init_394 : decode cX12_init 394 = .ok (.iload_n 3, 1) := by decide +kernel
theorem dX12_init_395 : decode cX12_init 395 = .ok (.iconst 1, 1) := by decide +kernel
theorem dX12_init_396 : decode cX12_init 396 = .ok (.bipush 9, 2) := by decide +kernel
theorem dX12_init_398 : decode cX12_init 398 = .ok (.invokestatic 146, 3) := by decide +kernel
theorem dX12_init_401 : decode cX12_init 401 = .ok (.putfield 157, 3) := by decide +kernel
theorem dX12_init_404 : decode cX12_init 404 = .ok (.iconst 0, 1) := by decide +kernel
theorem dX12_init_405 : decode cX12_init 405 = .ok (.istore 4, 2) := by decide +kernel
theorem dX12_init_407 : decode cX12_init 407 = .ok (.iload 4, 2) := by decide +kernel
theorem dX12_init_409 : decode cX12_init 409 = .ok (.bipush 12, 2) := by decide +kernel
theorem dX12_init_411 : decode cX12_init 411 = .ok (.if_icmp .ge 17, 3) := by decide +kernel
theorem dX12_init_414 : decode cX12_init 414 = .ok (.aload_n 0, 1) := by decide +kernel
theorem dX12_init_415 : decode cX12_init 415 = .ok (.getfield 104, 3) := by decide +kernel
theorem dX12_init_418 : decode cX12_init 418 = .ok (.iload 4, 2) := by decide +kernel
theorem dX12_init_420 : decode cX12_init 420 = .ok (.iconst (-1), 1) := by decide +kernel
theorem dX12_init_421 : decode cX12_init 421 = .ok (.iastore, 1) := by decide +kernel
theorem dX12_init_422 : decode cX12_init 422 = .ok (.iinc 4 1, 3) := by decide +kernel
theorem dX12_init_425 : decode cX12_init 425 = .ok (.goto (-18), 3) := by decide +kernel
theorem dX12_init_428 : decode cX12_init 428 = .ok (.iconst 0, 1) := by decide +kernel
theorem dX12_init_429 : decode cX12_init 429 = .ok (.istore 4, 2) := by decide +kernel
theorem dX12_init_431 : decode cX12_init 431 = .ok (.iload 4, 2) := by decide +kernel
theorem dX12_init_433 : decode cX12_init 433 = .ok (.bipush 10, 2) := by decide +kernel
theorem dX12_init_435 : decode cX12_init 435 = .ok (.if_icmp .ge 25, 3) := by decide +kernel
theorem dX12_init_438 : decode cX12_init 438 = .ok (.aload_n 0, 1) := by decide +kernel
theorem dX12_init_439 : decode cX12_init 439 = .ok (.getfield 16, 3) := by decide +kernel
theorem dX12_init_442 : decode cX12_init 442 = .ok (.iload 4, 2) := by decide +kernel
theorem dX12_init_444 : decode cX12_init 444 = .ok (.iconst 1, 1) := by decide +kernel
theorem dX12_init_445 : decode cX12_init 445 = .ok (.bastore, 1) := by decide +kernel
theorem dX12_init_446 : decode cX12_init 446 = .ok (.aload_n 0, 1) := by decide +kernel
theorem dX12_init_447 : decode cX12_init 447 = .ok (.getfield 23, 3) := by decide +kernel
theorem dX12_init_450 : decode cX12_init 450 = .ok (.iload 4, 2) := by decide +kernel
theorem dX12_init_452 : decode cX12_init 452 = .ok (.iconst (-1), 1) := by decide +kernel
theorem dX12_init_453 : decode cX12_init 453 = .ok (.iastore, 1) := by decide +kernel
theorem dX12_init_454 : decode cX12_init 454 = .ok (.iinc 4 1, 3) := by decide +kernel
theorem dX12_init_457 : decode cX12_init 457 = .ok (.goto (-26), 3) := by decide +kernel
theorem dX12_init_460 : decode cX12_init 460 = .ok (.aload_n 0, 1) := by decide +kernel
theorem dX12_init_461 : decode cX12_init 461 = .ok (.getfield 23, 3) := by decide +kernel
theorem dX12_init_464 : decode cX12_init 464 = .ok (.bipush 6, 2) := by decide +kernel
theorem dX12_init_466 : decode cX12_init 466 = .ok (.iconst 0, 1) := by decide +kernel
theorem dX12_init_467 : decode cX12_init 467 = .ok (.iastore, 1) := by decide +kernel
theorem dX12_init_468 : decode cX12_init 468 = .ok (.aload_n 0, 1) := by decide +kernel
theorem dX12_init_469 : decode cX12_init 469 = .ok (.getfield 23, 3) := by decide +kernel
theorem dX12_init_472 : decode cX12_init 472 = .ok (.bipush 7, 2) := by decide +kernel
theorem dX12_init_474 : decode cX12_init 474 = .ok (.iconst 2, 1) := by decide +kernel
theorem dX12_init_475 : decode cX12_init 475 = .ok (.iastore, 1) := by decide +kernel
theorem dX12_init_476 : decode cX12_init 476 = .ok (.aload_n 0, 1) := by decide +kernel
theorem dX12_init_477 : decode cX12_init 477 = .ok (.getfield 23, 3) := by decide +kernel
theorem dX12_init_480 : decode cX12_init 480 = .ok (.bipush 8, 2) := by decide +kernel
theorem dX12_init_482 : decode cX12_init 482 = .ok (.iconst 4, 1) := by decide +kernel
theorem dX12_init_483 : decode cX12_init 483 = .ok (.iastore, 1) := by decide +kernel
theorem dX12_init_484 : decode cX12_init 484 = .ok (.aload_n 0, 1) := by decide +kernel
theorem dX12_init_485 : decode cX12_init 485 = .ok (.getfield 23, 3) := by decide +kernel
theorem dX12_init_488 : decode cX12_init 488 = .ok (.bipush 9, 2) := by decide +kernel
