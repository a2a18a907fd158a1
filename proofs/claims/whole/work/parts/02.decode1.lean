theorem dX0_init_0 : decode cX0_init 0 = .ok (.aload_n 0, 1) := by decide +kernel
theorem dX0_init_1 : decode cX0_init 1 = .ok (.invokespecial 3, 3) := by decide +kernel
theorem dX0_init_4 : decode cX0_init 4 = .ok (.aload_n 0, 1) := by decide +kernel
theorem dX0_init_5 : decode cX0_init 5 = .ok (.iconst 3, 1) := by decide +kernel
theorem dX0_init_6 : decode cX0_init 6 = .ok (.newarray .int, 2) := by decide +kernel
theorem dX0_init_8 : decode cX0_init 8 = .ok (.putfield 9, 3) := by decide +kernel
theorem dX0_init_11 : decode cX0_init 11 = .ok (.aload_n 0, 1) := by decide +kernel
theorem dX0_init_12 : decode cX0_init 12 = .ok (.new 15, 3) := by decide +kernel
theorem dX0_init_15 : decode cX0_init 15 = .ok (.dup, 1) := by decide +kernel
theorem dX0_init_16 : decode cX0_init 16 = .ok (.invokespecial 17, 3) := by decide +kernel
theorem dX0_init_19 : decode cX0_init 19 = .ok (.putfield 18, 3) := by decide +kernel
theorem dX0_init_22 : decode cX0_init 22 = .ok (.aload_n 0, 1) := by decide +kernel
theorem dX0_init_23 : decode cX0_init 23 = .ok (.iconst 3, 1) := by decide +kernel
theorem dX0_init_24 : decode cX0_init 24 = .ok (.newarray .int, 2) := by decide +kernel
theorem dX0_init_26 : decode cX0_init 26 = .ok (.putfield 22, 3) := by decide +kernel
theorem dX0_init_29 : decode cX0_init 29 = .ok (.aload_n 0, 1) := by decide +kernel
theorem dX0_init_30 : decode cX0_init 30 = .ok (.bipush 6, 2) := by decide +kernel
theorem dX0_init_32 : decode cX0_init 32 = .ok (.newarray .boolean, 2) := by decide +kernel
theorem dX0_init_34 : decode cX0_init 34 = .ok (.putfield 25, 3) := by decide +kernel
theorem dX0_init_37 : decode cX0_init 37 = .ok (.aload_n 0, 1) := by decide +kernel
theorem dX0_init_38 : decode cX0_init 38 = .ok (.aload_n 1, 1) := by decide +kernel
theorem dX0_init_39 : decode cX0_init 39 = .ok (.putfield 29, 3) := by decide +kernel
theorem dX0_init_42 : decode cX0_init 42 = .ok (.aload_n 0, 1) := by decide +kernel
theorem dX0_init_43 : decode cX0_init 43 = .ok (.aload_n 2, 1) := by decide +kernel
theorem dX0_init_44 : decode cX0_init 44 = .ok (.putfield 33, 3) := by decide +kernel
theorem dX0_init_47 : decode cX0_init 47 = .ok (.aload_n 0, 1) := by decide +kernel
theorem dX0_init_48 : decode cX0_init 48 = .ok (.aload_n 3, 1) := by decide +kernel
theorem dX0_init_49 : decode cX0_init 49 = .ok (.putfield 37, 3) := by decide +kernel
theorem dX0_init_52 : decode cX0_init 52 = .ok (.aload_n 0, 1) := by decide +kernel
theorem dX0_init_53 : decode cX0_init 53 = .ok (.iload 4, 2) := by decide +kernel
theorem dX0_init_55 : decode cX0_init 55 = .ok (.putfield 41, 3) := by decide +kernel
theorem dX0_init_58 : decode cX0_init 58 = .ok (.aload_n 0, 1) := by decide +kernel
theorem dX0_init_59 : decode cX0_init 59 = .ok (.getfield 9, 3) := by decide +kernel
theorem dX0_init_62 : decode cX0_init 62 = .ok (.iconst 0, 1) := by decide +kernel
theorem dX0_init_63 : decode cX0_init 63 = .ok (.iconst 1, 1) := by decide +kernel
theorem dX0_init_64 : decode cX0_init 64 = .ok (.iastore, 1) := by decide +kernel
theorem dX0_init_65 : decode cX0_init 65 = .ok (.aload_n 0, 1) := by decide +kernel
theorem dX0_init_66 : decode cX0_init 66 = .ok (.getfield 9, 3) := by decide +kernel
theorem dX0_init_69 : decode cX0_init 69 = .ok (.iconst 1, 1) := by decide +kernel
theorem dX0_init_70 : decode cX0_init 70 = .ok (.iconst 1, 1) := by decide +kernel
theorem dX0_init_71 : decode cX0_init 71 = .ok (.iastore, 1) := by decide +kernel
theorem dX0_init_72 : decode cX0_init 72 = .ok (.aload_n 0, 1) := by decide +kernel
theorem dX0_init_73 : decode cX0_init 73 = .ok (.getfield 9, 3) := by decide +kernel
theorem dX0_init_76 : decode cX0_init 76 = .ok (.iconst 2, 1) := by decide +kernel
theorem dX0_init_77 : decode cX0_init 77 = .ok (.iload 4, 2) := by decide +kernel
theorem dX0_init_79 : decode cX0_init 79 = .ok (.iastore, 1) := by decide +kernel
theorem dX0_init_80 : decode cX0_init 80 = .ok (.return_, 1) := by decide +kernel
theorem dX0_freeOf_0 : decode cX0_freeOf 0 = .ok (.iload_n 1, 1) := by decide +kernel
theorem dX0_freeOf_1 : decode cX0_freeOf 1 = .ok (.ifCond .lt 21, 3) := by decide +kernel
theorem dX0_freeOf_4 : decode cX0_freeOf 4 = .ok (.iload_n 1, 1) := by decide +kernel
theorem dX0_freeOf_5 : decode cX0_freeOf 5 = .ok (.aload_n 0, 1) := by decide +kernel
theorem dX0_freeOf_6 : decode cX0_freeOf 6 = .ok (.getfield 9, 3) := by decide +kernel
theorem dX0_freeOf_9 : decode cX0_freeOf 9 = .ok (.arraylength, 1) := by decide +kernel
theorem dX0_freeOf_10 : decode cX0_freeOf 10 = .ok (.if_icmp .ge 12, 3) := by decide +kernel
theorem dX0_freeOf_13 : decode cX0_freeOf 13 = .ok (.aload_n 0, 1) := by decide +kernel
theorem dX0_freeOf_14 : decode cX0_freeOf 14 = .ok (.getfield 9, 3) := by decide +kernel
theorem dX0_freeOf_17 : decode cX0_freeOf 17 = .ok (.iload_n 1, 1) := by decide +kernel
theorem dX0_freeOf_18 : decode cX0_freeOf 18 = .ok (.iaload, 1) := by decide +kernel
theorem dX0_freeOf_19 : decode cX0_freeOf 19 = .ok (.goto 4, 3) := by decide +kernel
theorem dX0_freeOf_22 : decode cX0_freeOf 22 = .ok (.iconst 0, 1) := by decide +kernel
theorem dX0_freeOf_23 : decode cX0_freeOf 23 = .ok (.ireturn, 1) := by decide +kernel
theorem dX0_admitted_0 : decode cX0_admitted 0 = .ok (.iconst 0, 1) := by decide +kernel
theorem dX0_admitted_1 : decode cX0_admitted 1 = .ok (.istore_n 1, 1) := by decide +kernel
theorem dX0_admitted_2 : decode cX0_admitted 2 = .ok (.aload_n 0, 1) := by decide +kernel
theorem dX0_admitted_3 : decode cX0_admitted 3 = .ok (.getfield 37, 3) := by decide +kernel
theorem dX0_admitted_6 : decode cX0_admitted 6 = .ok (.astore_n 2, 1) := by decide +kernel
theorem dX0_admitted_7 : decode cX0_admitted 7 = .ok (.aload_n 2, 1) := by decide +kernel
theorem dX0_admitted_8 : decode cX0_admitted 8 = .ok (.arraylength, 1) := by decide +kernel
theorem dX0_admitted_9 : decode cX0_admitted 9 = .ok (.istore_n 3, 1) := by decide +kernel
theorem dX0_admitted_10 : decode cX0_admitted 10 = .ok (.iconst 0, 1) := by decide +kernel
theorem dX0_admitted_11 : decode cX0_admitted 11 = .ok (.istore 4, 2) := by decide +kernel
theorem dX0_admitted_13 : decode cX0_admitted 13 = .ok (.iload 4, 2) := by decide +kernel
theorem dX0_admitted_15 : decode cX0_admitted 15 = .ok (.iload_n 3, 1) := by decide +kernel
theorem dX0_admitted_16 : decode cX0_admitted 16 = .ok (.if_icmp .ge 27, 3) := by decide +kernel
theorem dX0_admitted_19 : decode cX0_admitted 19 = .ok (.aload_n 2, 1) := by decide +kernel
theorem dX0_admitted_20 : decode cX0_admitted 20 = .ok (.iload 4, 2) := by decide +kernel
theorem dX0_admitted_22 : decode cX0_admitted 22 = .ok (.aaload, 1) := by decide +kernel
theorem dX0_admitted_23 : decode cX0_admitted 23 = .ok (.astore 5, 2) := by decide +kernel
theorem dX0_admitted_25 : decode cX0_admitted 25 = .ok (.aload 5, 2) := by decide +kernel
theorem dX0_admitted_27 : decode cX0_admitted 27 = .ok (.getfield 45, 3) := by decide +kernel
theorem dX0_admitted_30 : decode cX0_admitted 30 = .ok (.iconst 2, 1) := by decide +kernel
theorem dX0_admitted_31 : decode cX0_admitted 31 = .ok (.if_icmp .ne 6, 3) := by decide +kernel
theorem dX0_admitted_34 : decode cX0_admitted 34 = .ok (.iinc 1 1, 3) := by decide +kernel
theorem dX0_admitted_37 : decode cX0_admitted 37 = .ok (.iinc 4 1, 3) := by decide +kernel
theorem dX0_admitted_40 : decode cX0_admitted 40 = .ok (.goto (-27), 3) := by decide +kernel
theorem dX0_admitted_43 : decode cX0_admitted 43 = .ok (.iload_n 1, 1) := by decide +kernel
theorem dX0_admitted_44 : decode cX0_admitted 44 = .ok (.ireturn, 1) := by decide +kernel
theorem dX0_holderOfPrinter_0 : decode cX0_holderOfPrinter 0 = .ok (.aload_n 0, 1) := by decide +kernel
theorem dX0_holderOfPrinter_1 : decode cX0_holderOfPrinter 1 = .ok (.getfield 37, 3) := by decide +kernel
theorem dX0_holderOfPrinter_4 : decode cX0_holderOfPrinter 4 = .ok (.astore_n 1, 1) := by decide +kernel
theorem dX0_holderOfPrinter_5 : decode cX0_holderOfPrinter 5 = .ok (.aload_n 1, 1) := by decide +kernel
theorem dX0_holderOfPrinter_6 : decode cX0_holderOfPrinter 6 = .ok (.arraylength, 1) := by decide +kernel
theorem dX0_holderOfPrinter_7 : decode cX0_holderOfPrinter 7 = .ok (.istore_n 2, 1) := by decide +kernel
theorem dX0_holderOfPrinter_8 : decode cX0_holderOfPrinter 8 = .ok (.iconst 0, 1) := by decide +kernel
theorem dX0_holderOfPrinter_9 : decode cX0_holderOfPrinter 9 = .ok (.istore_n 3, 1) := by decide +kernel
theorem dX0_holderOfPrinter_10 : decode cX0_holderOfPrinter 10 = .ok (.iload_n 3, 1) := by decide +kernel
theorem dX0_holderOfPrinter_11 : decode cX0_holderOfPrinter 11 = .ok (.iload_n 2, 1) := by decide +kernel
theorem dX0_holderOfPrinter_12 : decode cX0_holderOfPrinter 12 = .ok (.if_icmp .ge 35, 3) := by decide +kernel
theorem dX0_holderOfPrinter_15 : decode cX0_holderOfPrinter 15 = .ok (.aload_n 1, 1) := by decide +kernel
theorem dX0_holderOfPrinter_16 : decode cX0_holderOfPrinter 16 = .ok (.iload_n 3, 1) := by decide +kernel
theorem dX0_holderOfPrinter_17 : decode cX0_holderOfPrinter 17 = .ok (.aaload, 1) := by decide +kernel
theorem dX0_holderOfPrinter_18 : decode cX0_holderOfPrinter 18 = .ok (.astore 4, 2) := by decide +kernel
theorem dX0_holderOfPrinter_20 : decode cX0_holderOfPrinter 20 = .ok (.aload 4, 2) := by decide +kernel
theorem dX0_holderOfPrinter_22 : decode cX0_holderOfPrinter 22 = .ok (.getfield 45, 3) := by decide +kernel
theorem dX0_holderOfPrinter_25 : decode cX0_holderOfPrinter 25 = .ok (.iconst 2, 1) := by decide +kernel
theorem dX0_holderOfPrinter_26 : decode cX0_holderOfPrinter 26 = .ok (.if_icmp .ne 15, 3) := by decide +kernel
theorem dX0_holderOfPrinter_29 : decode cX0_holderOfPrinter 29 = .ok (.aload 4, 2) := by decide +kernel
theorem dX0_holderOfPrinter_31 : decode cX0_holderOfPrinter 31 = .ok (.iconst 1, 1) := by decide +kernel
theorem dX0_holderOfPrinter_32 : decode cX0_holderOfPrinter 32 = .ok (.invokevirtual 50, 3) := by decide +kernel
theorem dX0_holderOfPrinter_35 : decode cX0_holderOfPrinter 35 = .ok (.ifCond .le 6, 3) := by decide +kernel
theorem dX0_holderOfPrinter_38 : decode cX0_holderOfPrinter 38 = .ok (.aload 4, 2) := by decide +kernel
theorem dX0_holderOfPrinter_40 : decode cX0_holderOfPrinter 40 = .ok (.areturn, 1) := by decide +kernel
theorem dX0_holderOfPrinter_41 : decode cX0_holderOfPrinter 41 = .ok (.iinc 3 1, 3) := by decide +kernel
theorem dX0_holderOfPrinter_44 : decode cX0_holderOfPrinter 44 = .ok (.goto (-34), 3) := by decide +kernel
theorem dX0_holderOfPrinter_47 : decode cX0_holderOfPrinter 47 = .ok (.aconst_null, 1) := by decide +kernel
theorem dX0_holderOfPrinter_48 : decode cX0_holderOfPrinter 48 = .ok (.areturn, 1) := by decide +kernel
theorem dX0_get_0 : decode cX0_get 0 = .ok (.iload_n 2, 1) := by decide +kernel
theorem dX0_get_1 : decode cX0_get 1 = .ok (.ifCond .lt 8, 3) := by decide +kernel
theorem dX0_get_4 : decode cX0_get 4 = .ok (.iload_n 2, 1) := by decide +kernel
theorem dX0_get_5 : decode cX0_get 5 = .ok (.iconst 3, 1) := by decide +kernel
theorem dX0_get_6 : decode cX0_get 6 = .ok (.if_icmp .lt 11, 3) := by decide +kernel
theorem dX0_get_9 : decode cX0_get 9 = .ok (.aload_n 1, 1) := by decide +kernel
theorem dX0_get_10 : decode cX0_get 10 = .ok (.iconst 4, 1) := by decide +kernel
theorem dX0_get_11 : decode cX0_get 11 = .ok (.putfield 54, 3) := by decide +kernel
theorem dX0_get_14 : decode cX0_get 14 = .ok (.goto 77, 3) := by decide +kernel
theorem dX0_get_17 : decode cX0_get 17 = .ok (.aload_n 1, 1) := by decide +kernel
theorem dX0_get_18 : decode cX0_get 18 = .ok (.iload_n 2, 1) := by decide +kernel
theorem dX0_get_19 : decode cX0_get 19 = .ok (.invokevirtual 50, 3) := by decide +kernel
theorem dX0_get_22 : decode cX0_get 22 = .ok (.aload_n 1, 1) := by decide +kernel
theorem dX0_get_23 : decode cX0_get 23 = .ok (.iload_n 2, 1) := by decide +kernel
theorem dX0_get_24 : decode cX0_get 24 = .ok (.invokevirtual 57, 3) := by decide +kernel
theorem dX0_get_27 : decode cX0_get 27 = .ok (.if_icmp .lt 11, 3) := by decide +kernel
theorem dX0_get_30 : decode cX0_get 30 = .ok (.aload_n 1, 1) := by decide +kernel
theorem dX0_get_31 : decode cX0_get 31 = .ok (.iconst 3, 1) := by decide +kernel
theorem dX0_get_32 : decode cX0_get 32 = .ok (.putfield 54, 3) := by decide +kernel
theorem dX0_get_35 : decode cX0_get 35 = .ok (.goto 56, 3) := by decide +kernel
theorem dX0_get_38 : decode cX0_get 38 = .ok (.aload_n 0, 1) := by decide +kernel
theorem dX0_get_39 : decode cX0_get 39 = .ok (.aload_n 1, 1) := by decide +kernel
theorem dX0_get_40 : decode cX0_get 40 = .ok (.iload_n 2, 1) := by decide +kernel
theorem dX0_get_41 : decode cX0_get 41 = .ok (.invokevirtual 60, 3) := by decide +kernel
theorem dX0_get_44 : decode cX0_get 44 = .ok (.ifCond .eq 20, 3) := by decide +kernel
theorem dX0_get_47 : decode cX0_get 47 = .ok (.aload_n 0, 1) := by decide +kernel
theorem dX0_get_48 : decode cX0_get 48 = .ok (.getfield 33, 3) := by decide +kernel
theorem dX0_get_51 : decode cX0_get 51 = .ok (.aload_n 1, 1) := by decide +kernel
theorem dX0_get_52 : decode cX0_get 52 = .ok (.aload_n 1, 1) := by decide +kernel
theorem dX0_get_53 : decode cX0_get 53 = .ok (.getfield 64, 3) := by decide +kernel
theorem dX0_get_56 : decode cX0_get 56 = .ok (.iconst 1, 1) := by decide +kernel
theorem dX0_get_57 : decode cX0_get 57 = .ok (.iadd, 1) := by decide +kernel
theorem dX0_get_58 : decode cX0_get 58 = .ok (.invokevirtual 67, 3) := by decide +kernel
theorem dX0_get_61 : decode cX0_get 61 = .ok (.goto 30, 3) := by decide +kernel
theorem dX0_get_64 : decode cX0_get 64 = .ok (.aload_n 1, 1) := by decide +kernel
theorem dX0_get_65 : decode cX0_get 65 = .ok (.iload_n 2, 1) := by decide +kernel
theorem dX0_get_66 : decode cX0_get 66 = .ok (.putfield 73, 3) := by decide +kernel
theorem dX0_get_69 : decode cX0_get 69 = .ok (.aload_n 0, 1) := by decide +kernel
theorem dX0_get_70 : decode cX0_get 70 = .ok (.getfield 18, 3) := by decide +kernel
theorem dX0_get_73 : decode cX0_get 73 = .ok (.aload_n 1, 1) := by decide +kernel
theorem dX0_get_74 : decode cX0_get 74 = .ok (.invokevirtual 76, 3) := by decide +kernel
theorem dX0_get_77 : decode cX0_get 77 = .ok (.pop, 1) := by decide +kernel
theorem dX0_get_78 : decode cX0_get 78 = .ok (.aload_n 0, 1) := by decide +kernel
theorem dX0_get_79 : decode cX0_get 79 = .ok (.getfield 29, 3) := by decide +kernel
theorem dX0_get_82 : decode cX0_get 82 = .ok (.aload_n 1, 1) := by decide +kernel
theorem dX0_get_83 : decode cX0_get 83 = .ok (.getfield 80, 3) := by decide +kernel
theorem dX0_get_86 : decode cX0_get 86 = .ok (.bipush 6, 2) := by decide +kernel
theorem dX0_get_88 : decode cX0_get 88 = .ok (.invokevirtual 83, 3) := by decide +kernel
theorem dX0_get_91 : decode cX0_get 91 = .ok (.return_, 1) := by decide +kernel
theorem dX0_takesBack_0 : decode cX0_takesBack 0 = .ok (.iload_n 2, 1) := by decide +kernel
theorem dX0_takesBack_1 : decode cX0_takesBack 1 = .ok (.ifCond .lt 16, 3) := by decide +kernel
theorem dX0_takesBack_4 : decode cX0_takesBack 4 = .ok (.iload_n 2, 1) := by decide +kernel
theorem dX0_takesBack_5 : decode cX0_takesBack 5 = .ok (.iconst 3, 1) := by decide +kernel
theorem dX0_takesBack_6 : decode cX0_takesBack 6 = .ok (.if_icmp .ge 11, 3) := by decide +kernel
theorem dX0_takesBack_9 : decode cX0_takesBack 9 = .ok (.aload_n 1, 1) := by decide +kernel
theorem dX0_takesBack_10 : decode cX0_takesBack 10 = .ok (.iload_n 2, 1) := by decide +kernel
theorem dX0_takesBack_11 : decode cX0_takesBack 11 = .ok (.invokevirtual 50, 3) := by decide +kernel
theorem dX0_takesBack_14 : decode cX0_takesBack 14 = .ok (.ifCond .gt 10, 3) := by decide +kernel
theorem dX0_takesBack_17 : decode cX0_takesBack 17 = .ok (.aload_n 1, 1) := by decide +kernel
theorem dX0_takesBack_18 : decode cX0_takesBack 18 = .ok (.iconst 4, 1) := by decide +kernel
theorem dX0_takesBack_19 : decode cX0_takesBack 19 = .ok (.putfield 54, 3) := by decide +kernel
theorem dX0_takesBack_22 : decode cX0_takesBack 22 = .ok (.iconst 0, 1) := by decide +kernel
theorem dX0_takesBack_23 : decode cX0_takesBack 23 = .ok (.ireturn, 1) := by decide +kernel
theorem dX0_takesBack_24 : decode cX0_takesBack 24 = .ok (.iload_n 2, 1) := by decide +kernel
theorem dX0_takesBack_25 : decode cX0_takesBack 25 = .ok (.ifCond .eq 27, 3) := by decide +kernel
theorem dX0_takesBack_28 : decode cX0_takesBack 28 = .ok (.aload_n 1, 1) := by decide +kernel
theorem dX0_takesBack_29 : decode cX0_takesBack 29 = .ok (.getfield 89, 3) := by decide +kernel
theorem dX0_takesBack_32 : decode cX0_takesBack 32 = .ok (.invokevirtual 93, 3) := by decide +kernel
theorem dX0_takesBack_35 : decode cX0_takesBack 35 = .ok (.ifCond .le 17, 3) := by decide +kernel
theorem dX0_takesBack_38 : decode cX0_takesBack 38 = .ok (.aload_n 0, 1) := by decide +kernel
theorem dX0_takesBack_39 : decode cX0_takesBack 39 = .ok (.getfield 29, 3) := by decide +kernel
theorem dX0_takesBack_42 : decode cX0_takesBack 42 = .ok (.aload_n 1, 1) := by decide +kernel
theorem dX0_takesBack_43 : decode cX0_takesBack 43 = .ok (.getfield 80, 3) := by decide +kernel
theorem dX0_takesBack_46 : decode cX0_takesBack 46 = .ok (.iconst 4, 1) := by decide +kernel
theorem dX0_takesBack_47 : decode cX0_takesBack 47 = .ok (.invokevirtual 83, 3) := by decide +kernel
theorem dX0_takesBack_50 : decode cX0_takesBack 50 = .ok (.iconst 0, 1) := by decide +kernel
theorem dX0_takesBack_51 : decode cX0_takesBack 51 = .ok (.ireturn, 1) := by decide +kernel
theorem dX0_takesBack_52 : decode cX0_takesBack 52 = .ok (.aload_n 0, 1) := by decide +kernel
theorem dX0_takesBack_53 : decode cX0_takesBack 53 = .ok (.aload_n 1, 1) := by decide +kernel
theorem dX0_takesBack_54 : decode cX0_takesBack 54 = .ok (.iload_n 2, 1) := by decide +kernel
theorem dX0_takesBack_55 : decode cX0_takesBack 55 = .ok (.iconst (-1), 1) := by decide +kernel
theorem dX0_takesBack_56 : decode cX0_takesBack 56 = .ok (.invokevirtual 99, 3) := by decide +kernel
theorem dX0_takesBack_59 : decode cX0_takesBack 59 = .ok (.aload_n 0, 1) := by decide +kernel
theorem dX0_takesBack_60 : decode cX0_takesBack 60 = .ok (.getfield 33, 3) := by decide +kernel
theorem dX0_takesBack_63 : decode cX0_takesBack 63 = .ok (.aload_n 1, 1) := by decide +kernel
theorem dX0_takesBack_64 : decode cX0_takesBack 64 = .ok (.aload_n 1, 1) := by decide +kernel
theorem dX0_takesBack_65 : decode cX0_takesBack 65 = .ok (.getfield 64, 3) := by decide +kernel
theorem dX0_takesBack_68 : decode cX0_takesBack 68 = .ok (.iconst 1, 1) := by decide +kernel
theorem dX0_takesBack_69 : decode cX0_takesBack 69 = .ok (.iadd, 1) := by decide +kernel
theorem dX0_takesBack_70 : decode cX0_takesBack 70 = .ok (.invokevirtual 67, 3) := by decide +kernel
theorem dX0_takesBack_73 : decode cX0_takesBack 73 = .ok (.iconst 1, 1) := by decide +kernel
theorem dX0_takesBack_74 : decode cX0_takesBack 74 = .ok (.ireturn, 1) := by decide +kernel
theorem dX0_giveAllBack_0 : decode cX0_giveAllBack 0 = .ok (.iconst 0, 1) := by decide +kernel
theorem dX0_giveAllBack_1 : decode cX0_giveAllBack 1 = .ok (.istore_n 2, 1) := by decide +kernel
theorem dX0_giveAllBack_2 : decode cX0_giveAllBack 2 = .ok (.iload_n 2, 1) := by decide +kernel
theorem dX0_giveAllBack_3 : decode cX0_giveAllBack 3 = .ok (.iconst 3, 1) := by decide +kernel
theorem dX0_giveAllBack_4 : decode cX0_giveAllBack 4 = .ok (.if_icmp .ge 32, 3) := by decide +kernel
theorem dX0_giveAllBack_7 : decode cX0_giveAllBack 7 = .ok (.iload_n 2, 1) := by decide +kernel
theorem dX0_giveAllBack_8 : decode cX0_giveAllBack 8 = .ok (.aload_n 0, 1) := by decide +kernel
theorem dX0_giveAllBack_9 : decode cX0_giveAllBack 9 = .ok (.getfield 9, 3) := by decide +kernel
theorem dX0_giveAllBack_12 : decode cX0_giveAllBack 12 = .ok (.arraylength, 1) := by decide +kernel
theorem dX0_giveAllBack_13 : decode cX0_giveAllBack 13 = .ok (.if_icmp .ge 23, 3) := by decide +kernel
theorem dX0_giveAllBack_16 : decode cX0_giveAllBack 16 = .ok (.aload_n 0, 1) := by decide +kernel
theorem dX0_giveAllBack_17 : decode cX0_giveAllBack 17 = .ok (.getfield 9, 3) := by decide +kernel
theorem dX0_giveAllBack_20 : decode cX0_giveAllBack 20 = .ok (.iload_n 2, 1) := by decide +kernel
theorem dX0_giveAllBack_21 : decode cX0_giveAllBack 21 = .ok (.dup2, 1) := by decide +kernel
theorem dX0_giveAllBack_22 : decode cX0_giveAllBack 22 = .ok (.iaload, 1) := by decide +kernel
theorem dX0_giveAllBack_23 : decode cX0_giveAllBack 23 = .ok (.aload_n 1, 1) := by decide +kernel
theorem dX0_giveAllBack_24 : decode cX0_giveAllBack 24 = .ok (.iload_n 2, 1) := by decide +kernel
theorem dX0_giveAllBack_25 : decode cX0_giveAllBack 25 = .ok (.invokevirtual 50, 3) := by decide +kernel
theorem dX0_giveAllBack_28 : decode cX0_giveAllBack 28 = .ok (.iadd, 1) := by decide +kernel
theorem dX0_giveAllBack_29 : decode cX0_giveAllBack 29 = .ok (.iastore, 1) := by decide +kernel
theorem dX0_giveAllBack_30 : decode cX0_giveAllBack 30 = .ok (.iinc 2 1, 3) := by decide +kernel
theorem dX0_giveAllBack_33 : decode cX0_giveAllBack 33 = .ok (.goto (-31), 3) := by decide +kernel
theorem dX0_giveAllBack_36 : decode cX0_giveAllBack 36 = .ok (.return_, 1) := by decide +kernel
theorem dX0_grantWaiting_0 : decode cX0_grantWaiting 0 = .ok (.iconst 0, 1) := by decide +kernel
theorem dX0_grantWaiting_1 : decode cX0_grantWaiting 1 = .ok (.istore_n 1, 1) := by decide +kernel
theorem dX0_grantWaiting_2 : decode cX0_grantWaiting 2 = .ok (.aload_n 0, 1) := by decide +kernel
theorem dX0_grantWaiting_3 : decode cX0_grantWaiting 3 = .ok (.getfield 18, 3) := by decide +kernel
theorem dX0_grantWaiting_6 : decode cX0_grantWaiting 6 = .ok (.invokevirtual 103, 3) := by decide +kernel
theorem dX0_grantWaiting_9 : decode cX0_grantWaiting 9 = .ok (.istore_n 2, 1) := by decide +kernel
theorem dX0_grantWaiting_10 : decode cX0_grantWaiting 10 = .ok (.iconst 0, 1) := by decide +kernel
theorem dX0_grantWaiting_11 : decode cX0_grantWaiting 11 = .ok (.istore_n 3, 1) := by decide +kernel
theorem dX0_grantWaiting_12 : decode cX0_grantWaiting 12 = .ok (.iload_n 3, 1) := by decide +kernel
theorem dX0_grantWaiting_13 : decode cX0_grantWaiting 13 = .ok (.iload_n 2, 1) := by decide +kernel
theorem dX0_grantWaiting_14 : decode cX0_grantWaiting 14 = .ok (.if_icmp .ge 90, 3) := by decide +kernel
theorem dX0_grantWaiting_17 : decode cX0_grantWaiting 17 = .ok (.iload_n 1, 1) := by decide +kernel
theorem dX0_grantWaiting_18 : decode cX0_grantWaiting 18 = .ok (.aload_n 0, 1) := by decide +kernel
theorem dX0_grantWaiting_19 : decode cX0_grantWaiting 19 = .ok (.getfield 18, 3) := by decide +kernel
theorem dX0_grantWaiting_22 : decode cX0_grantWaiting 22 = .ok (.invokevirtual 103, 3) := by decide +kernel
theorem dX0_grantWaiting_25 : decode cX0_grantWaiting 25 = .ok (.if_icmp .ge 79, 3) := by decide +kernel
theorem dX0_grantWaiting_28 : decode cX0_grantWaiting 28 = .ok (.aload_n 0, 1) := by decide +kernel
theorem dX0_grantWaiting_29 : decode cX0_grantWaiting 29 = .ok (.getfield 18, 3) := by decide +kernel
theorem dX0_grantWaiting_32 : decode cX0_grantWaiting 32 = .ok (.iload_n 1, 1) := by decide +kernel
theorem dX0_grantWaiting_33 : decode cX0_grantWaiting 33 = .ok (.invokevirtual 104, 3) := by decide +kernel
theorem dX0_grantWaiting_36 : decode cX0_grantWaiting 36 = .ok (.checkcast 46, 3) := by decide +kernel
theorem dX0_grantWaiting_39 : decode cX0_grantWaiting 39 = .ok (.astore 4, 2) := by decide +kernel
theorem dX0_grantWaiting_41 : decode cX0_grantWaiting 41 = .ok (.aload_n 0, 1) := by decide +kernel
theorem dX0_grantWaiting_42 : decode cX0_grantWaiting 42 = .ok (.aload 4, 2) := by decide +kernel
theorem dX0_grantWaiting_44 : decode cX0_grantWaiting 44 = .ok (.aload 4, 2) := by decide +kernel
theorem dX0_grantWaiting_46 : decode cX0_grantWaiting 46 = .ok (.getfield 73, 3) := by decide +kernel
theorem dX0_grantWaiting_49 : decode cX0_grantWaiting 49 = .ok (.invokevirtual 60, 3) := by decide +kernel
theorem dX0_grantWaiting_52 : decode cX0_grantWaiting 52 = .ok (.ifCond .eq 43, 3) := by decide +kernel
theorem dX0_grantWaiting_55 : decode cX0_grantWaiting 55 = .ok (.aload_n 0, 1) := by decide +kernel
theorem dX0_grantWaiting_56 : decode cX0_grantWaiting 56 = .ok (.getfield 18, 3) := by decide +kernel
theorem dX0_grantWaiting_59 : decode cX0_grantWaiting 59 = .ok (.iload_n 1, 1) := by decide +kernel
theorem dX0_grantWaiting_60 : decode cX0_grantWaiting 60 = .ok (.invokevirtual 108, 3) := by decide +kernel
theorem dX0_grantWaiting_63 : decode cX0_grantWaiting 63 = .ok (.pop, 1) := by decide +kernel
theorem dX0_grantWaiting_64 : decode cX0_grantWaiting 64 = .ok (.aload_n 0, 1) := by decide +kernel
theorem dX0_grantWaiting_65 : decode cX0_grantWaiting 65 = .ok (.getfield 33, 3) := by decide +kernel
theorem dX0_grantWaiting_68 : decode cX0_grantWaiting 68 = .ok (.aload 4, 2) := by decide +kernel
theorem dX0_grantWaiting_70 : decode cX0_grantWaiting 70 = .ok (.aload 4, 2) := by decide +kernel
theorem dX0_grantWaiting_72 : decode cX0_grantWaiting 72 = .ok (.getfield 64, 3) := by decide +kernel
theorem dX0_grantWaiting_75 : decode cX0_grantWaiting 75 = .ok (.iconst 1, 1) := by decide +kernel
theorem dX0_grantWaiting_76 : decode cX0_grantWaiting 76 = .ok (.iadd, 1) := by decide +kernel
theorem dX0_grantWaiting_77 : decode cX0_grantWaiting 77 = .ok (.invokevirtual 67, 3) := by decide +kernel
theorem dX0_grantWaiting_80 : decode cX0_grantWaiting 80 = .ok (.aload_n 0, 1) := by decide +kernel
theorem dX0_grantWaiting_81 : decode cX0_grantWaiting 81 = .ok (.getfield 29, 3) := by decide +kernel
theorem dX0_grantWaiting_84 : decode cX0_grantWaiting 84 = .ok (.aload 4, 2) := by decide +kernel
theorem dX0_grantWaiting_86 : decode cX0_grantWaiting 86 = .ok (.getfield 80, 3) := by decide +kernel
theorem dX0_grantWaiting_89 : decode cX0_grantWaiting 89 = .ok (.invokevirtual 111, 3) := by decide +kernel
theorem dX0_grantWaiting_92 : decode cX0_grantWaiting 92 = .ok (.goto 6, 3) := by decide +kernel
theorem dX0_grantWaiting_95 : decode cX0_grantWaiting 95 = .ok (.iinc 1 1, 3) := by decide +kernel
theorem dX0_grantWaiting_98 : decode cX0_grantWaiting 98 = .ok (.iinc 3 1, 3) := by decide +kernel
theorem dX0_grantWaiting_101 : decode cX0_grantWaiting 101 = .ok (.goto (-89), 3) := by decide +kernel
theorem dX0_grantWaiting_104 : decode cX0_grantWaiting 104 = .ok (.return_, 1) := by decide +kernel
theorem dX0_leaveRow_0 : decode cX0_leaveRow 0 = .ok (.iconst 0, 1) := by decide +kernel
theorem dX0_leaveRow_1 : decode cX0_leaveRow 1 = .ok (.istore_n 2, 1) := by decide +kernel
theorem dX0_leaveRow_2 : decode cX0_leaveRow 2 = .ok (.iload_n 2, 1) := by decide +kernel
theorem dX0_leaveRow_3 : decode cX0_leaveRow 3 = .ok (.aload_n 0, 1) := by decide +kernel
theorem dX0_leaveRow_4 : decode cX0_leaveRow 4 = .ok (.getfield 18, 3) := by decide +kernel
theorem dX0_leaveRow_7 : decode cX0_leaveRow 7 = .ok (.invokevirtual 103, 3) := by decide +kernel
theorem dX0_leaveRow_10 : decode cX0_leaveRow 10 = .ok (.if_icmp .ge 31, 3) := by decide +kernel
theorem dX0_leaveRow_13 : decode cX0_leaveRow 13 = .ok (.aload_n 0, 1) := by decide +kernel
theorem dX0_leaveRow_14 : decode cX0_leaveRow 14 = .ok (.getfield 18, 3) := by decide +kernel
theorem dX0_leaveRow_17 : decode cX0_leaveRow 17 = .ok (.iload_n 2, 1) := by decide +kernel
theorem dX0_leaveRow_18 : decode cX0_leaveRow 18 = .ok (.invokevirtual 104, 3) := by decide +kernel
theorem dX0_leaveRow_21 : decode cX0_leaveRow 21 = .ok (.aload_n 1, 1) := by decide +kernel
theorem dX0_leaveRow_22 : decode cX0_leaveRow 22 = .ok (.if_acmp .ne 13, 3) := by decide +kernel
theorem dX0_leaveRow_25 : decode cX0_leaveRow 25 = .ok (.aload_n 0, 1) := by decide +kernel
theorem dX0_leaveRow_26 : decode cX0_leaveRow 26 = .ok (.getfield 18, 3) := by decide +kernel
theorem dX0_leaveRow_29 : decode cX0_leaveRow 29 = .ok (.iload_n 2, 1) := by decide +kernel
theorem dX0_leaveRow_30 : decode cX0_leaveRow 30 = .ok (.invokevirtual 108, 3) := by decide +kernel
theorem dX0_leaveRow_33 : decode cX0_leaveRow 33 = .ok (.pop, 1) := by decide +kernel
theorem dX0_leaveRow_34 : decode cX0_leaveRow 34 = .ok (.return_, 1) := by decide +kernel
theorem dX0_leaveRow_35 : decode cX0_leaveRow 35 = .ok (.iinc 2 1, 3) := by decide +kernel
theorem dX0_leaveRow_38 : decode cX0_leaveRow 38 = .ok (.goto (-36), 3) := by decide +kernel
theorem dX0_leaveRow_41 : decode cX0_leaveRow 41 = .ok (.return_, 1) := by decide +kernel
theorem dX0_grants_0 : decode cX0_grants 0 = .ok (.aload_n 0, 1) := by decide +kernel
theorem dX0_grants_1 : decode cX0_grants 1 = .ok (.iload_n 2, 1) := by decide +kernel
theorem dX0_grants_2 : decode cX0_grants 2 = .ok (.invokevirtual 115, 3) := by decide +kernel
theorem dX0_grants_5 : decode cX0_grants 5 = .ok (.ifCond .gt 5, 3) := by decide +kernel
theorem dX0_grants_8 : decode cX0_grants 8 = .ok (.iconst 0, 1) := by decide +kernel
theorem dX0_grants_9 : decode cX0_grants 9 = .ok (.ireturn, 1) := by decide +kernel
theorem dX0_grants_10 : decode cX0_grants 10 = .ok (.aload_n 0, 1) := by decide +kernel
theorem dX0_grants_11 : decode cX0_grants 11 = .ok (.aload_n 1, 1) := by decide +kernel
theorem dX0_grants_12 : decode cX0_grants 12 = .ok (.iload_n 2, 1) := by decide +kernel
theorem dX0_grants_13 : decode cX0_grants 13 = .ok (.iconst 1, 1) := by decide +kernel
theorem dX0_grants_14 : decode cX0_grants 14 = .ok (.invokevirtual 99, 3) := by decide +kernel
theorem dX0_grants_17 : decode cX0_grants 17 = .ok (.aload_n 0, 1) := by decide +kernel
theorem dX0_grants_18 : decode cX0_grants 18 = .ok (.invokevirtual 118, 3) := by decide +kernel
theorem dX0_grants_21 : decode cX0_grants 21 = .ok (.ifCond .eq 5, 3) := by decide +kernel
theorem dX0_grants_24 : decode cX0_grants 24 = .ok (.iconst 1, 1) := by decide +kernel
theorem dX0_grants_25 : decode cX0_grants 25 = .ok (.ireturn, 1) := by decide +kernel
theorem dX0_grants_26 : decode cX0_grants 26 = .ok (.aload_n 0, 1) := by decide +kernel
theorem dX0_grants_27 : decode cX0_grants 27 = .ok (.aload_n 1, 1) := by decide +kernel
theorem dX0_grants_28 : decode cX0_grants 28 = .ok (.iload_n 2, 1) := by decide +kernel
theorem dX0_grants_29 : decode cX0_grants 29 = .ok (.iconst (-1), 1) := by decide +kernel
theorem dX0_grants_30 : decode cX0_grants 30 = .ok (.invokevirtual 99, 3) := by decide +kernel
theorem dX0_grants_33 : decode cX0_grants 33 = .ok (.iconst 0, 1) := by decide +kernel
theorem dX0_grants_34 : decode cX0_grants 34 = .ok (.ireturn, 1) := by decide +kernel
theorem dX0_move_0 : decode cX0_move 0 = .ok (.iload_n 2, 1) := by decide +kernel
theorem dX0_move_1 : decode cX0_move 1 = .ok (.ifCond .lt 41, 3) := by decide +kernel
theorem dX0_move_4 : decode cX0_move 4 = .ok (.iload_n 2, 1) := by decide +kernel
theorem dX0_move_5 : decode cX0_move 5 = .ok (.aload_n 0, 1) := by decide +kernel
theorem dX0_move_6 : decode cX0_move 6 = .ok (.getfield 9, 3) := by decide +kernel
theorem dX0_move_9 : decode cX0_move 9 = .ok (.arraylength, 1) := by decide +kernel
theorem dX0_move_10 : decode cX0_move 10 = .ok (.if_icmp .ge 32, 3) := by decide +kernel
theorem dX0_move_13 : decode cX0_move 13 = .ok (.iload_n 2, 1) := by decide +kernel
theorem dX0_move_14 : decode cX0_move 14 = .ok (.aload_n 1, 1) := by decide +kernel
theorem dX0_move_15 : decode cX0_move 15 = .ok (.getfield 122, 3) := by decide +kernel
theorem dX0_move_18 : decode cX0_move 18 = .ok (.arraylength, 1) := by decide +kernel
theorem dX0_move_19 : decode cX0_move 19 = .ok (.if_icmp .ge 23, 3) := by decide +kernel
theorem dX0_move_22 : decode cX0_move 22 = .ok (.aload_n 0, 1) := by decide +kernel
theorem dX0_move_23 : decode cX0_move 23 = .ok (.getfield 9, 3) := by decide +kernel
theorem dX0_move_26 : decode cX0_move 26 = .ok (.iload_n 2, 1) := by decide +kernel
theorem dX0_move_27 : decode cX0_move 27 = .ok (.dup2, 1) := by decide +kernel
theorem dX0_move_28 : decode cX0_move 28 = .ok (.iaload, 1) := by decide +kernel
theorem dX0_move_29 : decode cX0_move 29 = .ok (.iload_n 3, 1) := by decide +kernel
theorem dX0_move_30 : decode cX0_move 30 = .ok (.isub, 1) := by decide +kernel
theorem dX0_move_31 : decode cX0_move 31 = .ok (.iastore, 1) := by decide +kernel
theorem dX0_move_32 : decode cX0_move 32 = .ok (.aload_n 1, 1) := by decide +kernel
theorem dX0_move_33 : decode cX0_move 33 = .ok (.getfield 122, 3) := by decide +kernel
theorem dX0_move_36 : decode cX0_move 36 = .ok (.iload_n 2, 1) := by decide +kernel
theorem dX0_move_37 : decode cX0_move 37 = .ok (.dup2, 1) := by decide +kernel
theorem dX0_move_38 : decode cX0_move 38 = .ok (.iaload, 1) := by decide +kernel
theorem dX0_move_39 : decode cX0_move 39 = .ok (.iload_n 3, 1) := by decide +kernel
theorem dX0_move_40 : decode cX0_move 40 = .ok (.iadd, 1) := by decide +kernel
theorem dX0_move_41 : decode cX0_move 41 = .ok (.iastore, 1) := by decide +kernel
theorem dX0_move_42 : decode cX0_move 42 = .ok (.return_, 1) := by decide +kernel
theorem dX0_allCanEnd_0 : decode cX0_allCanEnd 0 = .ok (.iconst 0, 1) := by decide +kernel
theorem dX0_allCanEnd_1 : decode cX0_allCanEnd 1 = .ok (.istore_n 1, 1) := by decide +kernel
theorem dX0_allCanEnd_2 : decode cX0_allCanEnd 2 = .ok (.iload_n 1, 1) := by decide +kernel
theorem dX0_allCanEnd_3 : decode cX0_allCanEnd 3 = .ok (.iconst 3, 1) := by decide +kernel
theorem dX0_allCanEnd_4 : decode cX0_allCanEnd 4 = .ok (.if_icmp .ge 21, 3) := by decide +kernel
theorem dX0_allCanEnd_7 : decode cX0_allCanEnd 7 = .ok (.aload_n 0, 1) := by decide +kernel
theorem dX0_allCanEnd_8 : decode cX0_allCanEnd 8 = .ok (.getfield 22, 3) := by decide +kernel
theorem dX0_allCanEnd_11 : decode cX0_allCanEnd 11 = .ok (.iload_n 1, 1) := by decide +kernel
theorem dX0_allCanEnd_12 : decode cX0_allCanEnd 12 = .ok (.aload_n 0, 1) := by decide +kernel
theorem dX0_allCanEnd_13 : decode cX0_allCanEnd 13 = .ok (.getfield 9, 3) := by decide +kernel
theorem dX0_allCanEnd_16 : decode cX0_allCanEnd 16 = .ok (.iload_n 1, 1) := by decide +kernel
theorem dX0_allCanEnd_17 : decode cX0_allCanEnd 17 = .ok (.iaload, 1) := by decide +kernel
theorem dX0_allCanEnd_18 : decode cX0_allCanEnd 18 = .ok (.iastore, 1) := by decide +kernel
theorem dX0_allCanEnd_19 : decode cX0_allCanEnd 19 = .ok (.iinc 1 1, 3) := by decide +kernel
theorem dX0_allCanEnd_22 : decode cX0_allCanEnd 22 = .ok (.goto (-20), 3) := by decide +kernel
theorem dX0_allCanEnd_25 : decode cX0_allCanEnd 25 = .ok (.iconst 0, 1) := by decide +kernel
theorem dX0_allCanEnd_26 : decode cX0_allCanEnd 26 = .ok (.istore_n 1, 1) := by decide +kernel
theorem dX0_allCanEnd_27 : decode cX0_allCanEnd 27 = .ok (.iconst 0, 1) := by decide +kernel
theorem dX0_allCanEnd_28 : decode cX0_allCanEnd 28 = .ok (.istore_n 2, 1) := by decide +kernel
theorem dX0_allCanEnd_29 : decode cX0_allCanEnd 29 = .ok (.iload_n 2, 1) := by decide +kernel
theorem dX0_allCanEnd_30 : decode cX0_allCanEnd 30 = .ok (.bipush 6, 2) := by decide +kernel
theorem dX0_allCanEnd_32 : decode cX0_allCanEnd 32 = .ok (.if_icmp .ge 59, 3) := by decide +kernel
theorem dX0_allCanEnd_35 : decode cX0_allCanEnd 35 = .ok (.iload_n 2, 1) := by decide +kernel
theorem dX0_allCanEnd_36 : decode cX0_allCanEnd 36 = .ok (.aload_n 0, 1) := by decide +kernel
theorem dX0_allCanEnd_37 : decode cX0_allCanEnd 37 = .ok (.getfield 37, 3) := by decide +kernel
theorem dX0_allCanEnd_40 : decode cX0_allCanEnd 40 = .ok (.arraylength, 1) := by decide +kernel
theorem dX0_allCanEnd_41 : decode cX0_allCanEnd 41 = .ok (.if_icmp .ge 50, 3) := by decide +kernel
theorem dX0_allCanEnd_44 : decode cX0_allCanEnd 44 = .ok (.aload_n 0, 1) := by decide +kernel
theorem dX0_allCanEnd_45 : decode cX0_allCanEnd 45 = .ok (.getfield 25, 3) := by decide +kernel
theorem dX0_allCanEnd_48 : decode cX0_allCanEnd 48 = .ok (.iload_n 2, 1) := by decide +kernel
theorem dX0_allCanEnd_49 : decode cX0_allCanEnd 49 = .ok (.aload_n 0, 1) := by decide +kernel
theorem dX0_allCanEnd_50 : decode cX0_allCanEnd 50 = .ok (.getfield 37, 3) := by decide +kernel
theorem dX0_allCanEnd_53 : decode cX0_allCanEnd 53 = .ok (.iload_n 2, 1) := by decide +kernel
theorem dX0_allCanEnd_54 : decode cX0_allCanEnd 54 = .ok (.aaload, 1) := by decide +kernel
theorem dX0_allCanEnd_55 : decode cX0_allCanEnd 55 = .ok (.getfield 45, 3) := by decide +kernel
theorem dX0_allCanEnd_58 : decode cX0_allCanEnd 58 = .ok (.iconst 2, 1) := by decide +kernel
theorem dX0_allCanEnd_59 : decode cX0_allCanEnd 59 = .ok (.if_icmp .eq 7, 3) := by decide +kernel
theorem dX0_allCanEnd_62 : decode cX0_allCanEnd 62 = .ok (.iconst 1, 1) := by decide +kernel
theorem dX0_allCanEnd_63 : decode cX0_allCanEnd 63 = .ok (.goto 4, 3) := by decide +kernel
theorem dX0_allCanEnd_66 : decode cX0_allCanEnd 66 = .ok (.iconst 0, 1) := by decide +kernel
theorem dX0_allCanEnd_67 : decode cX0_allCanEnd 67 = .ok (.bastore, 1) := by decide +kernel
theorem dX0_allCanEnd_68 : decode cX0_allCanEnd 68 = .ok (.iload_n 1, 1) := by decide +kernel
theorem dX0_allCanEnd_69 : decode cX0_allCanEnd 69 = .ok (.aload_n 0, 1) := by decide +kernel
theorem dX0_allCanEnd_70 : decode cX0_allCanEnd 70 = .ok (.getfield 25, 3) := by decide +kernel
theorem dX0_allCanEnd_73 : decode cX0_allCanEnd 73 = .ok (.iload_n 2, 1) := by decide +kernel
theorem dX0_allCanEnd_74 : decode cX0_allCanEnd 74 = .ok (.baload, 1) := by decide +kernel
theorem dX0_allCanEnd_75 : decode cX0_allCanEnd 75 = .ok (.ifCond .eq 7, 3) := by decide +kernel
theorem dX0_allCanEnd_78 : decode cX0_allCanEnd 78 = .ok (.iconst 0, 1) := by decide +kernel
theorem dX0_allCanEnd_79 : decode cX0_allCanEnd 79 = .ok (.goto 4, 3) := by decide +kernel
theorem dX0_allCanEnd_82 : decode cX0_allCanEnd 82 = .ok (.iconst 1, 1) := by decide +kernel
theorem dX0_allCanEnd_83 : decode cX0_allCanEnd 83 = .ok (.iadd, 1) := by decide +kernel
theorem dX0_allCanEnd_84 : decode cX0_allCanEnd 84 = .ok (.istore_n 1, 1) := by decide +kernel
theorem dX0_allCanEnd_85 : decode cX0_allCanEnd 85 = .ok (.iinc 2 1, 3) := by decide +kernel
theorem dX0_allCanEnd_88 : decode cX0_allCanEnd 88 = .ok (.goto (-59), 3) := by decide +kernel
theorem dX0_allCanEnd_91 : decode cX0_allCanEnd 91 = .ok (.iconst 0, 1) := by decide +kernel
theorem dX0_allCanEnd_92 : decode cX0_allCanEnd 92 = .ok (.istore_n 2, 1) := by decide +kernel
theorem dX0_allCanEnd_93 : decode cX0_allCanEnd 93 = .ok (.iload_n 2, 1) := by decide +kernel
theorem dX0_allCanEnd_94 : decode cX0_allCanEnd 94 = .ok (.bipush 6, 2) := by decide +kernel
theorem dX0_allCanEnd_96 : decode cX0_allCanEnd 96 = .ok (.if_icmp .ge 78, 3) := by decide +kernel
theorem dX0_allCanEnd_99 : decode cX0_allCanEnd 99 = .ok (.iload_n 1, 1) := by decide +kernel
theorem dX0_allCanEnd_100 : decode cX0_allCanEnd 100 = .ok (.ifCond .le 74, 3) := by decide +kernel
theorem dX0_allCanEnd_103 : decode cX0_allCanEnd 103 = .ok (.iconst 0, 1) := by decide +kernel
theorem dX0_allCanEnd_104 : decode cX0_allCanEnd 104 = .ok (.istore_n 3, 1) := by decide +kernel
theorem dX0_allCanEnd_105 : decode cX0_allCanEnd 105 = .ok (.iload_n 3, 1) := by decide +kernel
theorem dX0_allCanEnd_106 : decode cX0_allCanEnd 106 = .ok (.bipush 6, 2) := by decide +kernel
theorem dX0_allCanEnd_108 : decode cX0_allCanEnd 108 = .ok (.if_icmp .ge 60, 3) := by decide +kernel
theorem dX0_allCanEnd_111 : decode cX0_allCanEnd 111 = .ok (.iload_n 3, 1) := by decide +kernel
theorem dX0_allCanEnd_112 : decode cX0_allCanEnd 112 = .ok (.aload_n 0, 1) := by decide +kernel
theorem dX0_allCanEnd_113 : decode cX0_allCanEnd 113 = .ok (.getfield 37, 3) := by decide +kernel
theorem dX0_allCanEnd_116 : decode cX0_allCanEnd 116 = .ok (.arraylength, 1) := by decide +kernel
theorem dX0_allCanEnd_117 : decode cX0_allCanEnd 117 = .ok (.if_icmp .ge 51, 3) := by decide +kernel
theorem dX0_allCanEnd_120 : decode cX0_allCanEnd 120 = .ok (.aload_n 0, 1) := by decide +kernel
theorem dX0_allCanEnd_121 : decode cX0_allCanEnd 121 = .ok (.getfield 25, 3) := by decide +kernel
theorem dX0_allCanEnd_124 : decode cX0_allCanEnd 124 = .ok (.iload_n 3, 1) := by decide +kernel
theorem dX0_allCanEnd_125 : decode cX0_allCanEnd 125 = .ok (.baload, 1) := by decide +kernel
theorem dX0_allCanEnd_126 : decode cX0_allCanEnd 126 = .ok (.ifCond .ne 36, 3) := by decide +kernel
theorem dX0_allCanEnd_129 : decode cX0_allCanEnd 129 = .ok (.aload_n 0, 1) := by decide +kernel
theorem dX0_allCanEnd_130 : decode cX0_allCanEnd 130 = .ok (.aload_n 0, 1) := by decide +kernel
theorem dX0_allCanEnd_131 : decode cX0_allCanEnd 131 = .ok (.getfield 37, 3) := by decide +kernel
theorem dX0_allCanEnd_134 : decode cX0_allCanEnd 134 = .ok (.iload_n 3, 1) := by decide +kernel
theorem dX0_allCanEnd_135 : decode cX0_allCanEnd 135 = .ok (.aaload, 1) := by decide +kernel
theorem dX0_allCanEnd_136 : decode cX0_allCanEnd 136 = .ok (.invokevirtual 125, 3) := by decide +kernel
theorem dX0_allCanEnd_139 : decode cX0_allCanEnd 139 = .ok (.ifCond .eq 23, 3) := by decide +kernel
theorem dX0_allCanEnd_142 : decode cX0_allCanEnd 142 = .ok (.aload_n 0, 1) := by decide +kernel
theorem dX0_allCanEnd_143 : decode cX0_allCanEnd 143 = .ok (.getfield 25, 3) := by decide +kernel
theorem dX0_allCanEnd_146 : decode cX0_allCanEnd 146 = .ok (.iload_n 3, 1) := by decide +kernel
theorem dX0_allCanEnd_147 : decode cX0_allCanEnd 147 = .ok (.iconst 1, 1) := by decide +kernel
theorem dX0_allCanEnd_148 : decode cX0_allCanEnd 148 = .ok (.bastore, 1) := by decide +kernel
theorem dX0_allCanEnd_149 : decode cX0_allCanEnd 149 = .ok (.iinc 1 (-1), 3) := by decide +kernel
theorem dX0_allCanEnd_152 : decode cX0_allCanEnd 152 = .ok (.aload_n 0, 1) := by decide +kernel
theorem dX0_allCanEnd_153 : decode cX0_allCanEnd 153 = .ok (.aload_n 0, 1) := by decide +kernel
theorem dX0_allCanEnd_154 : decode cX0_allCanEnd 154 = .ok (.getfield 37, 3) := by decide +kernel
theorem dX0_allCanEnd_157 : decode cX0_allCanEnd 157 = .ok (.iload_n 3, 1) := by decide +kernel
theorem dX0_allCanEnd_158 : decode cX0_allCanEnd 158 = .ok (.aaload, 1) := by decide +kernel
theorem dX0_allCanEnd_159 : decode cX0_allCanEnd 159 = .ok (.invokevirtual 129, 3) := by decide +kernel
theorem dX0_allCanEnd_162 : decode cX0_allCanEnd 162 = .ok (.iinc 3 1, 3) := by decide +kernel
theorem dX0_allCanEnd_165 : decode cX0_allCanEnd 165 = .ok (.goto (-60), 3) := by decide +kernel
theorem dX0_allCanEnd_168 : decode cX0_allCanEnd 168 = .ok (.iinc 2 1, 3) := by decide +kernel
theorem dX0_allCanEnd_171 : decode cX0_allCanEnd 171 = .ok (.goto (-78), 3) := by decide +kernel
theorem dX0_allCanEnd_174 : decode cX0_allCanEnd 174 = .ok (.iload_n 1, 1) := by decide +kernel
theorem dX0_allCanEnd_175 : decode cX0_allCanEnd 175 = .ok (.ifCond .ne 7, 3) := by decide +kernel
theorem dX0_allCanEnd_178 : decode cX0_allCanEnd 178 = .ok (.iconst 1, 1) := by decide +kernel
theorem dX0_allCanEnd_179 : decode cX0_allCanEnd 179 = .ok (.goto 4, 3) := by decide +kernel
theorem dX0_allCanEnd_182 : decode cX0_allCanEnd 182 = .ok (.iconst 0, 1) := by decide +kernel
theorem dX0_allCanEnd_183 : decode cX0_allCanEnd 183 = .ok (.ireturn, 1) := by decide +kernel
theorem dX0_hasRoomFor_0 : decode cX0_hasRoomFor 0 = .ok (.iconst 0, 1) := by decide +kernel
theorem dX0_hasRoomFor_1 : decode cX0_hasRoomFor 1 = .ok (.istore_n 2, 1) := by decide +kernel
theorem dX0_hasRoomFor_2 : decode cX0_hasRoomFor 2 = .ok (.iload_n 2, 1) := by decide +kernel
theorem dX0_hasRoomFor_3 : decode cX0_hasRoomFor 3 = .ok (.iconst 3, 1) := by decide +kernel
theorem dX0_hasRoomFor_4 : decode cX0_hasRoomFor 4 = .ok (.if_icmp .ge 33, 3) := by decide +kernel
theorem dX0_hasRoomFor_7 : decode cX0_hasRoomFor 7 = .ok (.aload_n 1, 1) := by decide +kernel
theorem dX0_hasRoomFor_8 : decode cX0_hasRoomFor 8 = .ok (.getfield 133, 3) := by decide +kernel
theorem dX0_hasRoomFor_11 : decode cX0_hasRoomFor 11 = .ok (.iload_n 2, 1) := by decide +kernel
theorem dX0_hasRoomFor_12 : decode cX0_hasRoomFor 12 = .ok (.iaload, 1) := by decide +kernel
theorem dX0_hasRoomFor_13 : decode cX0_hasRoomFor 13 = .ok (.aload_n 1, 1) := by decide +kernel
theorem dX0_hasRoomFor_14 : decode cX0_hasRoomFor 14 = .ok (.getfield 122, 3) := by decide +kernel
theorem dX0_hasRoomFor_17 : decode cX0_hasRoomFor 17 = .ok (.iload_n 2, 1) := by decide +kernel
theorem dX0_hasRoomFor_18 : decode cX0_hasRoomFor 18 = .ok (.iaload, 1) := by decide +kernel
theorem dX0_hasRoomFor_19 : decode cX0_hasRoomFor 19 = .ok (.isub, 1) := by decide +kernel
theorem dX0_hasRoomFor_20 : decode cX0_hasRoomFor 20 = .ok (.aload_n 0, 1) := by decide +kernel
theorem dX0_hasRoomFor_21 : decode cX0_hasRoomFor 21 = .ok (.getfield 22, 3) := by decide +kernel
theorem dX0_hasRoomFor_24 : decode cX0_hasRoomFor 24 = .ok (.iload_n 2, 1) := by decide +kernel
theorem dX0_hasRoomFor_25 : decode cX0_hasRoomFor 25 = .ok (.iaload, 1) := by decide +kernel
theorem dX0_hasRoomFor_26 : decode cX0_hasRoomFor 26 = .ok (.if_icmp .le 5, 3) := by decide +kernel
theorem dX0_hasRoomFor_29 : decode cX0_hasRoomFor 29 = .ok (.iconst 0, 1) := by decide +kernel
theorem dX0_hasRoomFor_30 : decode cX0_hasRoomFor 30 = .ok (.ireturn, 1) := by decide +kernel
theorem dX0_hasRoomFor_31 : decode cX0_hasRoomFor 31 = .ok (.iinc 2 1, 3) := by decide +kernel
theorem dX0_hasRoomFor_34 : decode cX0_hasRoomFor 34 = .ok (.goto (-32), 3) := by decide +kernel
theorem dX0_hasRoomFor_37 : decode cX0_hasRoomFor 37 = .ok (.iconst 1, 1) := by decide +kernel
theorem dX0_hasRoomFor_38 : decode cX0_hasRoomFor 38 = .ok (.ireturn, 1) := by decide +kernel
theorem dX0_addToRoom_0 : decode cX0_addToRoom 0 = .ok (.iconst 0, 1) := by decide +kernel
theorem dX0_addToRoom_1 : decode cX0_addToRoom 1 = .ok (.istore_n 2, 1) := by decide +kernel
theorem dX0_addToRoom_2 : decode cX0_addToRoom 2 = .ok (.iload_n 2, 1) := by decide +kernel
theorem dX0_addToRoom_3 : decode cX0_addToRoom 3 = .ok (.iconst 3, 1) := by decide +kernel
theorem dX0_addToRoom_4 : decode cX0_addToRoom 4 = .ok (.if_icmp .ge 24, 3) := by decide +kernel
theorem dX0_addToRoom_7 : decode cX0_addToRoom 7 = .ok (.aload_n 0, 1) := by decide +kernel
theorem dX0_addToRoom_8 : decode cX0_addToRoom 8 = .ok (.getfield 22, 3) := by decide +kernel
theorem dX0_addToRoom_11 : decode cX0_addToRoom 11 = .ok (.iload_n 2, 1) := by decide +kernel
theorem dX0_addToRoom_12 : decode cX0_addToRoom 12 = .ok (.dup2, 1) := by decide +kernel
theorem dX0_addToRoom_13 : decode cX0_addToRoom 13 = .ok (.iaload, 1) := by decide +kernel
theorem dX0_addToRoom_14 : decode cX0_addToRoom 14 = .ok (.aload_n 1, 1) := by decide +kernel
theorem dX0_addToRoom_15 : decode cX0_addToRoom 15 = .ok (.getfield 122, 3) := by decide +kernel
theorem dX0_addToRoom_18 : decode cX0_addToRoom 18 = .ok (.iload_n 2, 1) := by decide +kernel
theorem dX0_addToRoom_19 : decode cX0_addToRoom 19 = .ok (.iaload, 1) := by decide +kernel
theorem dX0_addToRoom_20 : decode cX0_addToRoom 20 = .ok (.iadd, 1) := by decide +kernel
theorem dX0_addToRoom_21 : decode cX0_addToRoom 21 = .ok (.iastore, 1) := by decide +kernel
theorem dX0_addToRoom_22 : decode cX0_addToRoom 22 = .ok (.iinc 2 1, 3) := by decide +kernel
theorem dX0_addToRoom_25 : decode cX0_addToRoom 25 = .ok (.goto (-23), 3) := by decide +kernel
theorem dX0_addToRoom_28 : decode cX0_addToRoom 28 = .ok (.return_, 1) := by decide +kernel
theorem dX1_init_0 : decode cX1_init 0 = .ok (.aload_n 0, 1) := by decide +kernel
theorem dX1_init_1 : decode cX1_init 1 = .ok (.invokespecial 3, 3) := by decide +kernel
theorem dX1_init_4 : decode cX1_init 4 = .ok (.aload_n 0, 1) := by decide +kernel
theorem dX1_init_5 : decode cX1_init 5 = .ok (.sipush 600, 3) := by decide +kernel
theorem dX1_init_8 : decode cX1_init 8 = .ok (.newarray .byte, 2) := by decide +kernel
theorem dX1_init_10 : decode cX1_init 10 = .ok (.putfield 9, 3) := by decide +kernel
theorem dX1_init_13 : decode cX1_init 13 = .ok (.aload_n 0, 1) := by decide +kernel
theorem dX1_init_14 : decode cX1_init 14 = .ok (.bipush 20, 2) := by decide +kernel
theorem dX1_init_16 : decode cX1_init 16 = .ok (.newarray .byte, 2) := by decide +kernel
theorem dX1_init_18 : decode cX1_init 18 = .ok (.putfield 15, 3) := by decide +kernel
theorem dX1_init_21 : decode cX1_init 21 = .ok (.aload_n 0, 1) := by decide +kernel
theorem dX1_init_22 : decode cX1_init 22 = .ok (.bipush 8, 2) := by decide +kernel
theorem dX1_init_24 : decode cX1_init 24 = .ok (.bipush 20, 2) := by decide +kernel
theorem dX1_init_26 : decode cX1_init 26 = .ok (.multianewarray 18 2, 4) := by decide +kernel
theorem dX1_init_30 : decode cX1_init 30 = .ok (.putfield 20, 3) := by decide +kernel
theorem dX1_init_33 : decode cX1_init 33 = .ok (.aload_n 0, 1) := by decide +kernel
theorem dX1_init_34 : decode cX1_init 34 = .ok (.bipush 8, 2) := by decide +kernel
theorem dX1_init_36 : decode cX1_init 36 = .ok (.newarray .int, 2) := by decide +kernel
theorem dX1_init_38 : decode cX1_init 38 = .ok (.putfield 23, 3) := by decide +kernel
theorem dX1_init_41 : decode cX1_init 41 = .ok (.aload_n 0, 1) := by decide +kernel
theorem dX1_init_42 : decode cX1_init 42 = .ok (.aload_n 1, 1) := by decide +kernel
theorem dX1_init_43 : decode cX1_init 43 = .ok (.putfield 27, 3) := by decide +kernel
theorem dX1_init_46 : decode cX1_init 46 = .ok (.aload_n 0, 1) := by decide +kernel
theorem dX1_init_47 : decode cX1_init 47 = .ok (.aload_n 2, 1) := by decide +kernel
theorem dX1_init_48 : decode cX1_init 48 = .ok (.putfield 31, 3) := by decide +kernel
theorem dX1_init_51 : decode cX1_init 51 = .ok (.aload_n 0, 1) := by decide +kernel
theorem dX1_init_52 : decode cX1_init 52 = .ok (.aload_n 3, 1) := by decide +kernel
theorem dX1_init_53 : decode cX1_init 53 = .ok (.putfield 35, 3) := by decide +kernel
theorem dX1_init_56 : decode cX1_init 56 = .ok (.aload_n 0, 1) := by decide +kernel
theorem dX1_init_57 : decode cX1_init 57 = .ok (.aload 4, 2) := by decide +kernel
theorem dX1_init_59 : decode cX1_init 59 = .ok (.putfield 39, 3) := by decide +kernel
theorem dX1_init_62 : decode cX1_init 62 = .ok (.aload_n 0, 1) := by decide +kernel
theorem dX1_init_63 : decode cX1_init 63 = .ok (.new 43, 3) := by decide +kernel
theorem dX1_init_66 : decode cX1_init 66 = .ok (.dup, 1) := by decide +kernel
theorem dX1_init_67 : decode cX1_init 67 = .ok (.aload_n 1, 1) := by decide +kernel
theorem dX1_init_68 : decode cX1_init 68 = .ok (.bipush 9, 2) := by decide +kernel
theorem dX1_init_70 : decode cX1_init 70 = .ok (.bipush 7, 2) := by decide +kernel
theorem dX1_init_72 : decode cX1_init 72 = .ok (.invokespecial 45, 3) := by decide +kernel
theorem dX1_init_75 : decode cX1_init 75 = .ok (.putfield 48, 3) := by decide +kernel
theorem dX1_init_78 : decode cX1_init 78 = .ok (.aload_n 0, 1) := by decide +kernel
theorem dX1_init_79 : decode cX1_init 79 = .ok (.getfield 48, 3) := by decide +kernel
theorem dX1_init_82 : decode cX1_init 82 = .ok (.invokevirtual 52, 3) := by decide +kernel
theorem dX1_init_85 : decode cX1_init 85 = .ok (.return_, 1) := by decide +kernel
theorem dX1_accept_0 : decode cX1_accept 0 = .ok (.iload_n 1, 1) := by decide +kernel
theorem dX1_accept_1 : decode cX1_accept 1 = .ok (.bipush 10, 2) := by decide +kernel
theorem dX1_accept_3 : decode cX1_accept 3 = .ok (.if_icmp .ne 8, 3) := by decide +kernel
theorem dX1_accept_6 : decode cX1_accept 6 = .ok (.aload_n 0, 1) := by decide +kernel
theorem dX1_accept_7 : decode cX1_accept 7 = .ok (.invokevirtual 55, 3) := by decide +kernel
theorem dX1_accept_10 : decode cX1_accept 10 = .ok (.ireturn, 1) := by decide +kernel
theorem dX1_accept_11 : decode cX1_accept 11 = .ok (.iload_n 1, 1) := by decide +kernel
theorem dX1_accept_12 : decode cX1_accept 12 = .ok (.bipush 32, 2) := by decide +kernel
theorem dX1_accept_14 : decode cX1_accept 14 = .ok (.if_icmp .lt 29, 3) := by decide +kernel
theorem dX1_accept_17 : decode cX1_accept 17 = .ok (.iload_n 1, 1) := by decide +kernel
theorem dX1_accept_18 : decode cX1_accept 18 = .ok (.bipush 126, 2) := by decide +kernel
theorem dX1_accept_20 : decode cX1_accept 20 = .ok (.if_icmp .gt 23, 3) := by decide +kernel
theorem dX1_accept_23 : decode cX1_accept 23 = .ok (.aload_n 0, 1) := by decide +kernel
theorem dX1_accept_24 : decode cX1_accept 24 = .ok (.getfield 59, 3) := by decide +kernel
theorem dX1_accept_27 : decode cX1_accept 27 = .ok (.ifCond .lt 16, 3) := by decide +kernel
theorem dX1_accept_30 : decode cX1_accept 30 = .ok (.aload_n 0, 1) := by decide +kernel
theorem dX1_accept_31 : decode cX1_accept 31 = .ok (.getfield 59, 3) := by decide +kernel
theorem dX1_accept_34 : decode cX1_accept 34 = .ok (.bipush 20, 2) := by decide +kernel
theorem dX1_accept_36 : decode cX1_accept 36 = .ok (.if_icmp .ge 7, 3) := by decide +kernel
theorem dX1_accept_39 : decode cX1_accept 39 = .ok (.iconst 1, 1) := by decide +kernel
theorem dX1_accept_40 : decode cX1_accept 40 = .ok (.goto 4, 3) := by decide +kernel
theorem dX1_accept_43 : decode cX1_accept 43 = .ok (.iconst 0, 1) := by decide +kernel
theorem dX1_accept_44 : decode cX1_accept 44 = .ok (.istore_n 2, 1) := by decide +kernel
theorem dX1_accept_45 : decode cX1_accept 45 = .ok (.iload_n 2, 1) := by decide +kernel
theorem dX1_accept_46 : decode cX1_accept 46 = .ok (.ifCond .eq 24, 3) := by decide +kernel
theorem dX1_accept_49 : decode cX1_accept 49 = .ok (.aload_n 0, 1) := by decide +kernel
theorem dX1_accept_50 : decode cX1_accept 50 = .ok (.getfield 15, 3) := by decide +kernel
theorem dX1_accept_53 : decode cX1_accept 53 = .ok (.aload_n 0, 1) := by decide +kernel
theorem dX1_accept_54 : decode cX1_accept 54 = .ok (.getfield 59, 3) := by decide +kernel
theorem dX1_accept_57 : decode cX1_accept 57 = .ok (.iload_n 1, 1) := by decide +kernel
theorem dX1_accept_58 : decode cX1_accept 58 = .ok (.i2b, 1) := by decide +kernel
theorem dX1_accept_59 : decode cX1_accept 59 = .ok (.bastore, 1) := by decide +kernel
theorem dX1_accept_60 : decode cX1_accept 60 = .ok (.aload_n 0, 1) := by decide +kernel
theorem dX1_accept_61 : decode cX1_accept 61 = .ok (.dup, 1) := by decide +kernel
theorem dX1_accept_62 : decode cX1_accept 62 = .ok (.getfield 59, 3) := by decide +kernel
theorem dX1_accept_65 : decode cX1_accept 65 = .ok (.iconst 1, 1) := by decide +kernel
theorem dX1_accept_66 : decode cX1_accept 66 = .ok (.iadd, 1) := by decide +kernel
theorem dX1_accept_67 : decode cX1_accept 67 = .ok (.putfield 59, 3) := by decide +kernel
theorem dX1_accept_70 : decode cX1_accept 70 = .ok (.iload_n 2, 1) := by decide +kernel
theorem dX1_accept_71 : decode cX1_accept 71 = .ok (.ireturn, 1) := by decide +kernel
theorem dX1_acceptLine_0 : decode cX1_acceptLine 0 = .ok (.aload_n 0, 1) := by decide +kernel
theorem dX1_acceptLine_1 : decode cX1_acceptLine 1 = .ok (.getfield 63, 3) := by decide +kernel
theorem dX1_acceptLine_4 : decode cX1_acceptLine 4 = .ok (.ifCond .lt 12, 3) := by decide +kernel
theorem dX1_acceptLine_7 : decode cX1_acceptLine 7 = .ok (.aload_n 0, 1) := by decide +kernel
theorem dX1_acceptLine_8 : decode cX1_acceptLine 8 = .ok (.getfield 63, 3) := by decide +kernel
theorem dX1_acceptLine_11 : decode cX1_acceptLine 11 = .ok (.bipush 8, 2) := by decide +kernel
theorem dX1_acceptLine_13 : decode cX1_acceptLine 13 = .ok (.if_icmp .lt 5, 3) := by decide +kernel
theorem dX1_acceptLine_16 : decode cX1_acceptLine 16 = .ok (.iconst 0, 1) := by decide +kernel
theorem dX1_acceptLine_17 : decode cX1_acceptLine 17 = .ok (.ireturn, 1) := by decide +kernel
theorem dX1_acceptLine_18 : decode cX1_acceptLine 18 = .ok (.iconst 0, 1) := by decide +kernel
theorem dX1_acceptLine_19 : decode cX1_acceptLine 19 = .ok (.istore_n 1, 1) := by decide +kernel
theorem dX1_acceptLine_20 : decode cX1_acceptLine 20 = .ok (.iload_n 1, 1) := by decide +kernel
theorem dX1_acceptLine_21 : decode cX1_acceptLine 21 = .ok (.aload_n 0, 1) := by decide +kernel
theorem dX1_acceptLine_22 : decode cX1_acceptLine 22 = .ok (.getfield 59, 3) := by decide +kernel
theorem dX1_acceptLine_25 : decode cX1_acceptLine 25 = .ok (.if_icmp .ge 32, 3) := by decide +kernel
theorem dX1_acceptLine_28 : decode cX1_acceptLine 28 = .ok (.iload_n 1, 1) := by decide +kernel
theorem dX1_acceptLine_29 : decode cX1_acceptLine 29 = .ok (.bipush 20, 2) := by decide +kernel
theorem dX1_acceptLine_31 : decode cX1_acceptLine 31 = .ok (.if_icmp .ge 26, 3) := by decide +kernel
theorem dX1_acceptLine_34 : decode cX1_acceptLine 34 = .ok (.aload_n 0, 1) := by decide +kernel
theorem dX1_acceptLine_35 : decode cX1_acceptLine 35 = .ok (.getfield 20, 3) := by decide +kernel
theorem dX1_acceptLine_38 : decode cX1_acceptLine 38 = .ok (.aload_n 0, 1) := by decide +kernel
theorem dX1_acceptLine_39 : decode cX1_acceptLine 39 = .ok (.getfield 63, 3) := by decide +kernel
theorem dX1_acceptLine_42 : decode cX1_acceptLine 42 = .ok (.aaload, 1) := by decide +kernel
theorem dX1_acceptLine_43 : decode cX1_acceptLine 43 = .ok (.iload_n 1, 1) := by decide +kernel
theorem dX1_acceptLine_44 : decode cX1_acceptLine 44 = .ok (.aload_n 0, 1) := by decide +kernel
theorem dX1_acceptLine_45 : decode cX1_acceptLine 45 = .ok (.getfield 15, 3) := by decide +kernel
theorem dX1_acceptLine_48 : decode cX1_acceptLine 48 = .ok (.iload_n 1, 1) := by decide +kernel
theorem dX1_acceptLine_49 : decode cX1_acceptLine 49 = .ok (.baload, 1) := by decide +kernel
theorem dX1_acceptLine_50 : decode cX1_acceptLine 50 = .ok (.bastore, 1) := by decide +kernel
theorem dX1_acceptLine_51 : decode cX1_acceptLine 51 = .ok (.iinc 1 1, 3) := by decide +kernel
theorem dX1_acceptLine_54 : decode cX1_acceptLine 54 = .ok (.goto (-34), 3) := by decide +kernel
theorem dX1_acceptLine_57 : decode cX1_acceptLine 57 = .ok (.aload_n 0, 1) := by decide +kernel
theorem dX1_acceptLine_58 : decode cX1_acceptLine 58 = .ok (.getfield 23, 3) := by decide +kernel
theorem dX1_acceptLine_61 : decode cX1_acceptLine 61 = .ok (.aload_n 0, 1) := by decide +kernel
theorem dX1_acceptLine_62 : decode cX1_acceptLine 62 = .ok (.getfield 63, 3) := by decide +kernel
theorem dX1_acceptLine_65 : decode cX1_acceptLine 65 = .ok (.aload_n 0, 1) := by decide +kernel
theorem dX1_acceptLine_66 : decode cX1_acceptLine 66 = .ok (.getfield 59, 3) := by decide +kernel
theorem dX1_acceptLine_69 : decode cX1_acceptLine 69 = .ok (.iastore, 1) := by decide +kernel
theorem dX1_acceptLine_70 : decode cX1_acceptLine 70 = .ok (.aload_n 0, 1) := by decide +kernel
theorem dX1_acceptLine_71 : decode cX1_acceptLine 71 = .ok (.iconst 0, 1) := by decide +kernel
theorem dX1_acceptLine_72 : decode cX1_acceptLine 72 = .ok (.putfield 59, 3) := by decide +kernel
theorem dX1_acceptLine_75 : decode cX1_acceptLine 75 = .ok (.aload_n 0, 1) := by decide +kernel
theorem dX1_acceptLine_76 : decode cX1_acceptLine 76 = .ok (.dup, 1) := by decide +kernel
theorem dX1_acceptLine_77 : decode cX1_acceptLine 77 = .ok (.getfield 63, 3) := by decide +kernel
theorem dX1_acceptLine_80 : decode cX1_acceptLine 80 = .ok (.iconst 1, 1) := by decide +kernel
theorem dX1_acceptLine_81 : decode cX1_acceptLine 81 = .ok (.iadd, 1) := by decide +kernel
theorem dX1_acceptLine_82 : decode cX1_acceptLine 82 = .ok (.putfield 63, 3) := by decide +kernel
theorem dX1_acceptLine_85 : decode cX1_acceptLine 85 = .ok (.aload_n 0, 1) := by decide +kernel
theorem dX1_acceptLine_86 : decode cX1_acceptLine 86 = .ok (.getfield 48, 3) := by decide +kernel
theorem dX1_acceptLine_89 : decode cX1_acceptLine 89 = .ok (.invokevirtual 66, 3) := by decide +kernel
theorem dX1_acceptLine_92 : decode cX1_acceptLine 92 = .ok (.iconst 1, 1) := by decide +kernel
theorem dX1_acceptLine_93 : decode cX1_acceptLine 93 = .ok (.ireturn, 1) := by decide +kernel
theorem dX1_step_0 : decode cX1_step 0 = .ok (.aload_n 0, 1) := by decide +kernel
theorem dX1_step_1 : decode cX1_step 1 = .ok (.getfield 63, 3) := by decide +kernel
theorem dX1_step_4 : decode cX1_step 4 = .ok (.ifCond .le 26, 3) := by decide +kernel
theorem dX1_step_7 : decode cX1_step 7 = .ok (.aload_n 0, 1) := by decide +kernel
theorem dX1_step_8 : decode cX1_step 8 = .ok (.invokevirtual 69, 3) := by decide +kernel
theorem dX1_step_11 : decode cX1_step 11 = .ok (.ifCond .ne 15, 3) := by decide +kernel
theorem dX1_step_14 : decode cX1_step 14 = .ok (.aload_n 0, 1) := by decide +kernel
theorem dX1_step_15 : decode cX1_step 15 = .ok (.bipush 63, 2) := by decide +kernel
theorem dX1_step_17 : decode cX1_step 17 = .ok (.invokevirtual 72, 3) := by decide +kernel
theorem dX1_step_20 : decode cX1_step 20 = .ok (.aload_n 0, 1) := by decide +kernel
theorem dX1_step_21 : decode cX1_step 21 = .ok (.bipush 10, 2) := by decide +kernel
theorem dX1_step_23 : decode cX1_step 23 = .ok (.invokevirtual 72, 3) := by decide +kernel
theorem dX1_step_26 : decode cX1_step 26 = .ok (.aload_n 0, 1) := by decide +kernel
theorem dX1_step_27 : decode cX1_step 27 = .ok (.invokevirtual 76, 3) := by decide +kernel
theorem dX1_step_30 : decode cX1_step 30 = .ok (.aload_n 0, 1) := by decide +kernel
theorem dX1_step_31 : decode cX1_step 31 = .ok (.getfield 48, 3) := by decide +kernel
theorem dX1_step_34 : decode cX1_step 34 = .ok (.invokevirtual 52, 3) := by decide +kernel
theorem dX1_step_37 : decode cX1_step 37 = .ok (.return_, 1) := by decide +kernel
theorem dX1_dropFirst_0 : decode cX1_dropFirst 0 = .ok (.iconst 1, 1) := by decide +kernel
theorem dX1_dropFirst_1 : decode cX1_dropFirst 1 = .ok (.istore_n 1, 1) := by decide +kernel
theorem dX1_dropFirst_2 : decode cX1_dropFirst 2 = .ok (.iload_n 1, 1) := by decide +kernel
theorem dX1_dropFirst_3 : decode cX1_dropFirst 3 = .ok (.aload_n 0, 1) := by decide +kernel
theorem dX1_dropFirst_4 : decode cX1_dropFirst 4 = .ok (.getfield 63, 3) := by decide +kernel
theorem dX1_dropFirst_7 : decode cX1_dropFirst 7 = .ok (.if_icmp .ge 61, 3) := by decide +kernel
theorem dX1_dropFirst_10 : decode cX1_dropFirst 10 = .ok (.iload_n 1, 1) := by decide +kernel
theorem dX1_dropFirst_11 : decode cX1_dropFirst 11 = .ok (.bipush 8, 2) := by decide +kernel
theorem dX1_dropFirst_13 : decode cX1_dropFirst 13 = .ok (.if_icmp .ge 55, 3) := by decide +kernel
theorem dX1_dropFirst_16 : decode cX1_dropFirst 16 = .ok (.iconst 0, 1) := by decide +kernel
theorem dX1_dropFirst_17 : decode cX1_dropFirst 17 = .ok (.istore_n 2, 1) := by decide +kernel
theorem dX1_dropFirst_18 : decode cX1_dropFirst 18 = .ok (.iload_n 2, 1) := by decide +kernel
theorem dX1_dropFirst_19 : decode cX1_dropFirst 19 = .ok (.bipush 20, 2) := by decide +kernel
theorem dX1_dropFirst_21 : decode cX1_dropFirst 21 = .ok (.if_icmp .ge 27, 3) := by decide +kernel
theorem dX1_dropFirst_24 : decode cX1_dropFirst 24 = .ok (.aload_n 0, 1) := by decide +kernel
theorem dX1_dropFirst_25 : decode cX1_dropFirst 25 = .ok (.getfield 20, 3) := by decide +kernel
theorem dX1_dropFirst_28 : decode cX1_dropFirst 28 = .ok (.iload_n 1, 1) := by decide +kernel
theorem dX1_dropFirst_29 : decode cX1_dropFirst 29 = .ok (.iconst 1, 1) := by decide +kernel
theorem dX1_dropFirst_30 : decode cX1_dropFirst 30 = .ok (.isub, 1) := by decide +kernel
theorem dX1_dropFirst_31 : decode cX1_dropFirst 31 = .ok (.aaload, 1) := by decide +kernel
theorem dX1_dropFirst_32 : decode cX1_dropFirst 32 = .ok (.iload_n 2, 1) := by decide +kernel
theorem dX1_dropFirst_33 : decode cX1_dropFirst 33 = .ok (.aload_n 0, 1) := by decide +kernel
theorem dX1_dropFirst_34 : decode cX1_dropFirst 34 = .ok (.getfield 20, 3) := by decide +kernel
theorem dX1_dropFirst_37 : decode cX1_dropFirst 37 = .ok (.iload_n 1, 1) := by decide +kernel
theorem dX1_dropFirst_38 : decode cX1_dropFirst 38 = .ok (.aaload, 1) := by decide +kernel
theorem dX1_dropFirst_39 : decode cX1_dropFirst 39 = .ok (.iload_n 2, 1) := by decide +kernel
theorem dX1_dropFirst_40 : decode cX1_dropFirst 40 = .ok (.baload, 1) := by decide +kernel
theorem dX1_dropFirst_41 : decode cX1_dropFirst 41 = .ok (.bastore, 1) := by decide +kernel
theorem dX1_dropFirst_42 : decode cX1_dropFirst 42 = .ok (.iinc 2 1, 3) := by decide +kernel
theorem dX1_dropFirst_45 : decode cX1_dropFirst 45 = .ok (.goto (-27), 3) := by decide +kernel
theorem dX1_dropFirst_48 : decode cX1_dropFirst 48 = .ok (.aload_n 0, 1) := by decide +kernel
theorem dX1_dropFirst_49 : decode cX1_dropFirst 49 = .ok (.getfield 23, 3) := by decide +kernel
theorem dX1_dropFirst_52 : decode cX1_dropFirst 52 = .ok (.iload_n 1, 1) := by decide +kernel
theorem dX1_dropFirst_53 : decode cX1_dropFirst 53 = .ok (.iconst 1, 1) := by decide +kernel
theorem dX1_dropFirst_54 : decode cX1_dropFirst 54 = .ok (.isub, 1) := by decide +kernel
theorem dX1_dropFirst_55 : decode cX1_dropFirst 55 = .ok (.aload_n 0, 1) := by decide +kernel
theorem dX1_dropFirst_56 : decode cX1_dropFirst 56 = .ok (.getfield 23, 3) := by decide +kernel
theorem dX1_dropFirst_59 : decode cX1_dropFirst 59 = .ok (.iload_n 1, 1) := by decide +kernel
theorem dX1_dropFirst_60 : decode cX1_dropFirst 60 = .ok (.iaload, 1) := by decide +kernel
theorem dX1_dropFirst_61 : decode cX1_dropFirst 61 = .ok (.iastore, 1) := by decide +kernel
theorem dX1_dropFirst_62 : decode cX1_dropFirst 62 = .ok (.iinc 1 1, 3) := by decide +kernel
theorem dX1_dropFirst_65 : decode cX1_dropFirst 65 = .ok (.goto (-63), 3) := by decide +kernel
theorem dX1_dropFirst_68 : decode cX1_dropFirst 68 = .ok (.aload_n 0, 1) := by decide +kernel
theorem dX1_dropFirst_69 : decode cX1_dropFirst 69 = .ok (.dup, 1) := by decide +kernel
theorem dX1_dropFirst_70 : decode cX1_dropFirst 70 = .ok (.getfield 63, 3) := by decide +kernel
theorem dX1_dropFirst_73 : decode cX1_dropFirst 73 = .ok (.iconst 1, 1) := by decide +kernel
theorem dX1_dropFirst_74 : decode cX1_dropFirst 74 = .ok (.isub, 1) := by decide +kernel
theorem dX1_dropFirst_75 : decode cX1_dropFirst 75 = .ok (.putfield 63, 3) := by decide +kernel
theorem dX1_dropFirst_78 : decode cX1_dropFirst 78 = .ok (.return_, 1) := by decide +kernel
theorem dX1_obeys_0 : decode cX1_obeys 0 = .ok (.aload_n 0, 1) := by decide +kernel
theorem dX1_obeys_1 : decode cX1_obeys 1 = .ok (.getfield 39, 3) := by decide +kernel
theorem dX1_obeys_4 : decode cX1_obeys 4 = .ok (.aload_n 0, 1) := by decide +kernel
theorem dX1_obeys_5 : decode cX1_obeys 5 = .ok (.iconst 1, 1) := by decide +kernel
theorem dX1_obeys_6 : decode cX1_obeys 6 = .ok (.invokevirtual 79, 3) := by decide +kernel
theorem dX1_obeys_9 : decode cX1_obeys 9 = .ok (.invokestatic 83, 3) := by decide +kernel
theorem dX1_obeys_12 : decode cX1_obeys 12 = .ok (.astore_n 1, 1) := by decide +kernel
theorem dX1_obeys_13 : decode cX1_obeys 13 = .ok (.aload_n 1, 1) := by decide +kernel
theorem dX1_obeys_14 : decode cX1_obeys 14 = .ok (.ifnonnull 5, 3) := by decide +kernel
theorem dX1_obeys_17 : decode cX1_obeys 17 = .ok (.iconst 0, 1) := by decide +kernel
theorem dX1_obeys_18 : decode cX1_obeys 18 = .ok (.ireturn, 1) := by decide +kernel
theorem dX1_obeys_19 : decode cX1_obeys 19 = .ok (.aload_n 0, 1) := by decide +kernel
theorem dX1_obeys_20 : decode cX1_obeys 20 = .ok (.getfield 23, 3) := by decide +kernel
theorem dX1_obeys_23 : decode cX1_obeys 23 = .ok (.iconst 0, 1) := by decide +kernel
theorem dX1_obeys_24 : decode cX1_obeys 24 = .ok (.iaload, 1) := by decide +kernel
theorem dX1_obeys_25 : decode cX1_obeys 25 = .ok (.iconst 2, 1) := by decide +kernel
theorem dX1_obeys_26 : decode cX1_obeys 26 = .ok (.if_icmp .ne 7, 3) := by decide +kernel
theorem dX1_obeys_29 : decode cX1_obeys 29 = .ok (.iconst 1, 1) := by decide +kernel
theorem dX1_obeys_30 : decode cX1_obeys 30 = .ok (.goto 4, 3) := by decide +kernel
theorem dX1_obeys_33 : decode cX1_obeys 33 = .ok (.iconst 0, 1) := by decide +kernel
theorem dX1_obeys_34 : decode cX1_obeys 34 = .ok (.istore_n 2, 1) := by decide +kernel
theorem dX1_obeys_35 : decode cX1_obeys 35 = .ok (.aload_n 0, 1) := by decide +kernel
theorem dX1_obeys_36 : decode cX1_obeys 36 = .ok (.iconst 0, 1) := by decide +kernel
theorem dX1_obeys_37 : decode cX1_obeys 37 = .ok (.invokevirtual 87, 3) := by decide +kernel
theorem dX1_obeys_40 : decode cX1_obeys 40 = .ok (.lookupswitch 78 #[(65, 36), (67, 54), (82, 72)], 36) := by decide +kernel
theorem dX1_obeys_76 : decode cX1_obeys 76 = .ok (.iload_n 2, 1) := by decide +kernel
theorem dX1_obeys_77 : decode cX1_obeys 77 = .ok (.ifCond .eq 15, 3) := by decide +kernel
theorem dX1_obeys_80 : decode cX1_obeys 80 = .ok (.aload_n 0, 1) := by decide +kernel
theorem dX1_obeys_81 : decode cX1_obeys 81 = .ok (.aload_n 1, 1) := by decide +kernel
theorem dX1_obeys_82 : decode cX1_obeys 82 = .ok (.invokevirtual 90, 3) := by decide +kernel
theorem dX1_obeys_85 : decode cX1_obeys 85 = .ok (.ifCond .eq 7, 3) := by decide +kernel
theorem dX1_obeys_88 : decode cX1_obeys 88 = .ok (.iconst 1, 1) := by decide +kernel
theorem dX1_obeys_89 : decode cX1_obeys 89 = .ok (.goto 4, 3) := by decide +kernel
theorem dX1_obeys_92 : decode cX1_obeys 92 = .ok (.iconst 0, 1) := by decide +kernel
theorem dX1_obeys_93 : decode cX1_obeys 93 = .ok (.ireturn, 1) := by decide +kernel
theorem dX1_obeys_94 : decode cX1_obeys 94 = .ok (.iload_n 2, 1) := by decide +kernel
theorem dX1_obeys_95 : decode cX1_obeys 95 = .ok (.ifCond .eq 15, 3) := by decide +kernel
theorem dX1_obeys_98 : decode cX1_obeys 98 = .ok (.aload_n 0, 1) := by decide +kernel
theorem dX1_obeys_99 : decode cX1_obeys 99 = .ok (.aload_n 1, 1) := by decide +kernel
theorem dX1_obeys_100 : decode cX1_obeys 100 = .ok (.invokevirtual 94, 3) := by decide +kernel
theorem dX1_obeys_103 : decode cX1_obeys 103 = .ok (.ifCond .eq 7, 3) := by decide +kernel
theorem dX1_obeys_106 : decode cX1_obeys 106 = .ok (.iconst 1, 1) := by decide +kernel
theorem dX1_obeys_107 : decode cX1_obeys 107 = .ok (.goto 4, 3) := by decide +kernel
theorem dX1_obeys_110 : decode cX1_obeys 110 = .ok (.iconst 0, 1) := by decide +kernel
theorem dX1_obeys_111 : decode cX1_obeys 111 = .ok (.ireturn, 1) := by decide +kernel
theorem dX1_obeys_112 : decode cX1_obeys 112 = .ok (.aload_n 0, 1) := by decide +kernel
theorem dX1_obeys_113 : decode cX1_obeys 113 = .ok (.aload_n 1, 1) := by decide +kernel
theorem dX1_obeys_114 : decode cX1_obeys 114 = .ok (.invokevirtual 97, 3) := by decide +kernel
theorem dX1_obeys_117 : decode cX1_obeys 117 = .ok (.ireturn, 1) := by decide +kernel
theorem dX1_obeys_118 : decode cX1_obeys 118 = .ok (.iconst 0, 1) := by decide +kernel
theorem dX1_obeys_119 : decode cX1_obeys 119 = .ok (.ireturn, 1) := by decide +kernel
theorem dX1_admits_0 : decode cX1_admits 0 = .ok (.aload_n 1, 1) := by decide +kernel
theorem dX1_admits_1 : decode cX1_admits 1 = .ok (.getfield 100, 3) := by decide +kernel
theorem dX1_admits_4 : decode cX1_admits 4 = .ok (.iconst 1, 1) := by decide +kernel
theorem dX1_admits_5 : decode cX1_admits 5 = .ok (.if_icmp .ne 25, 3) := by decide +kernel
theorem dX1_admits_8 : decode cX1_admits 8 = .ok (.iconst 2, 1) := by decide +kernel
theorem dX1_admits_9 : decode cX1_admits 9 = .ok (.aload_n 0, 1) := by decide +kernel
theorem dX1_admits_10 : decode cX1_admits 10 = .ok (.getfield 35, 3) := by decide +kernel
theorem dX1_admits_13 : decode cX1_admits 13 = .ok (.invokevirtual 105, 3) := by decide +kernel
theorem dX1_admits_16 : decode cX1_admits 16 = .ok (.iconst 1, 1) := by decide +kernel
theorem dX1_admits_17 : decode cX1_admits 17 = .ok (.iadd, 1) := by decide +kernel
theorem dX1_admits_18 : decode cX1_admits 18 = .ok (.imul, 1) := by decide +kernel
theorem dX1_admits_19 : decode cX1_admits 19 = .ok (.aload_n 0, 1) := by decide +kernel
theorem dX1_admits_20 : decode cX1_admits 20 = .ok (.getfield 31, 3) := by decide +kernel
theorem dX1_admits_23 : decode cX1_admits 23 = .ok (.getfield 111, 3) := by decide +kernel
theorem dX1_admits_26 : decode cX1_admits 26 = .ok (.arraylength, 1) := by decide +kernel
theorem dX1_admits_27 : decode cX1_admits 27 = .ok (.if_icmp .le 5, 3) := by decide +kernel
theorem dX1_admits_30 : decode cX1_admits 30 = .ok (.iconst 0, 1) := by decide +kernel
theorem dX1_admits_31 : decode cX1_admits 31 = .ok (.ireturn, 1) := by decide +kernel
theorem dX1_admits_32 : decode cX1_admits 32 = .ok (.aload_n 1, 1) := by decide +kernel
theorem dX1_admits_33 : decode cX1_admits 33 = .ok (.iconst 2, 1) := by decide +kernel
theorem dX1_admits_34 : decode cX1_admits 34 = .ok (.putfield 100, 3) := by decide +kernel
theorem dX1_admits_37 : decode cX1_admits 37 = .ok (.aload_n 0, 1) := by decide +kernel
theorem dX1_admits_38 : decode cX1_admits 38 = .ok (.getfield 27, 3) := by decide +kernel
theorem dX1_admits_41 : decode cX1_admits 41 = .ok (.aload_n 1, 1) := by decide +kernel
theorem dX1_admits_42 : decode cX1_admits 42 = .ok (.getfield 117, 3) := by decide +kernel
theorem dX1_admits_45 : decode cX1_admits 45 = .ok (.invokevirtual 120, 3) := by decide +kernel
theorem dX1_admits_48 : decode cX1_admits 48 = .ok (.iconst 1, 1) := by decide +kernel
theorem dX1_admits_49 : decode cX1_admits 49 = .ok (.ireturn, 1) := by decide +kernel
theorem dX1_cancels_0 : decode cX1_cancels 0 = .ok (.aload_n 1, 1) := by decide +kernel
theorem dX1_cancels_1 : decode cX1_cancels 1 = .ok (.getfield 100, 3) := by decide +kernel
theorem dX1_cancels_4 : decode cX1_cancels 4 = .ok (.iconst 2, 1) := by decide +kernel
theorem dX1_cancels_5 : decode cX1_cancels 5 = .ok (.if_icmp .eq 5, 3) := by decide +kernel
theorem dX1_cancels_8 : decode cX1_cancels 8 = .ok (.iconst 0, 1) := by decide +kernel
theorem dX1_cancels_9 : decode cX1_cancels 9 = .ok (.ireturn, 1) := by decide +kernel
theorem dX1_cancels_10 : decode cX1_cancels 10 = .ok (.aload_n 1, 1) := by decide +kernel
theorem dX1_cancels_11 : decode cX1_cancels 11 = .ok (.iconst 1, 1) := by decide +kernel
theorem dX1_cancels_12 : decode cX1_cancels 12 = .ok (.putfield 125, 3) := by decide +kernel
theorem dX1_cancels_15 : decode cX1_cancels 15 = .ok (.aload_n 0, 1) := by decide +kernel
theorem dX1_cancels_16 : decode cX1_cancels 16 = .ok (.getfield 27, 3) := by decide +kernel
theorem dX1_cancels_19 : decode cX1_cancels 19 = .ok (.aload_n 1, 1) := by decide +kernel
theorem dX1_cancels_20 : decode cX1_cancels 20 = .ok (.getfield 117, 3) := by decide +kernel
theorem dX1_cancels_23 : decode cX1_cancels 23 = .ok (.invokevirtual 129, 3) := by decide +kernel
theorem dX1_cancels_26 : decode cX1_cancels 26 = .ok (.istore_n 2, 1) := by decide +kernel
theorem dX1_cancels_27 : decode cX1_cancels 27 = .ok (.iload_n 2, 1) := by decide +kernel
theorem dX1_cancels_28 : decode cX1_cancels 28 = .ok (.iconst 5, 1) := by decide +kernel
theorem dX1_cancels_29 : decode cX1_cancels 29 = .ok (.if_icmp .eq 9, 3) := by decide +kernel
theorem dX1_cancels_32 : decode cX1_cancels 32 = .ok (.iload_n 2, 1) := by decide +kernel
theorem dX1_cancels_33 : decode cX1_cancels 33 = .ok (.bipush 6, 2) := by decide +kernel
theorem dX1_cancels_35 : decode cX1_cancels 35 = .ok (.if_icmp .ne 22, 3) := by decide +kernel
theorem dX1_cancels_38 : decode cX1_cancels 38 = .ok (.aload_n 0, 1) := by decide +kernel
theorem dX1_cancels_39 : decode cX1_cancels 39 = .ok (.getfield 35, 3) := by decide +kernel
theorem dX1_cancels_42 : decode cX1_cancels 42 = .ok (.aload_n 1, 1) := by decide +kernel
theorem dX1_cancels_43 : decode cX1_cancels 43 = .ok (.invokevirtual 132, 3) := by decide +kernel
theorem dX1_cancels_46 : decode cX1_cancels 46 = .ok (.aload_n 0, 1) := by decide +kernel
theorem dX1_cancels_47 : decode cX1_cancels 47 = .ok (.getfield 27, 3) := by decide +kernel
theorem dX1_cancels_50 : decode cX1_cancels 50 = .ok (.aload_n 1, 1) := by decide +kernel
theorem dX1_cancels_51 : decode cX1_cancels 51 = .ok (.getfield 117, 3) := by decide +kernel
theorem dX1_cancels_54 : decode cX1_cancels 54 = .ok (.invokevirtual 120, 3) := by decide +kernel
theorem dX1_cancels_57 : decode cX1_cancels 57 = .ok (.iconst 1, 1) := by decide +kernel
theorem dX1_cancels_58 : decode cX1_cancels 58 = .ok (.ireturn, 1) := by decide +kernel
theorem dX1_replies_0 : decode cX1_replies 0 = .ok (.aload_n 0, 1) := by decide +kernel
theorem dX1_replies_1 : decode cX1_replies 1 = .ok (.iconst 3, 1) := by decide +kernel
theorem dX1_replies_2 : decode cX1_replies 2 = .ok (.invokevirtual 87, 3) := by decide +kernel
theorem dX1_replies_5 : decode cX1_replies 5 = .ok (.bipush 45, 2) := by decide +kernel
theorem dX1_replies_7 : decode cX1_replies 7 = .ok (.if_icmp .ne 7, 3) := by decide +kernel
theorem dX1_replies_10 : decode cX1_replies 10 = .ok (.iconst 4, 1) := by decide +kernel
theorem dX1_replies_11 : decode cX1_replies 11 = .ok (.goto 4, 3) := by decide +kernel
theorem dX1_replies_14 : decode cX1_replies 14 = .ok (.iconst 3, 1) := by decide +kernel
theorem dX1_replies_15 : decode cX1_replies 15 = .ok (.istore_n 2, 1) := by decide +kernel
theorem dX1_replies_16 : decode cX1_replies 16 = .ok (.aload_n 0, 1) := by decide +kernel
theorem dX1_replies_17 : decode cX1_replies 17 = .ok (.getfield 23, 3) := by decide +kernel
theorem dX1_replies_20 : decode cX1_replies 20 = .ok (.iconst 0, 1) := by decide +kernel
theorem dX1_replies_21 : decode cX1_replies 21 = .ok (.iaload, 1) := by decide +kernel
theorem dX1_replies_22 : decode cX1_replies 22 = .ok (.iload_n 2, 1) := by decide +kernel
theorem dX1_replies_23 : decode cX1_replies 23 = .ok (.isub, 1) := by decide +kernel
theorem dX1_replies_24 : decode cX1_replies 24 = .ok (.istore_n 3, 1) := by decide +kernel
theorem dX1_replies_25 : decode cX1_replies 25 = .ok (.aload_n 0, 1) := by decide +kernel
theorem dX1_replies_26 : decode cX1_replies 26 = .ok (.iconst 2, 1) := by decide +kernel
theorem dX1_replies_27 : decode cX1_replies 27 = .ok (.invokevirtual 87, 3) := by decide +kernel
theorem dX1_replies_30 : decode cX1_replies 30 = .ok (.bipush 32, 2) := by decide +kernel
theorem dX1_replies_32 : decode cX1_replies 32 = .ok (.if_icmp .ne 33, 3) := by decide +kernel
theorem dX1_replies_35 : decode cX1_replies 35 = .ok (.iload_n 3, 1) := by decide +kernel
theorem dX1_replies_36 : decode cX1_replies 36 = .ok (.iconst 1, 1) := by decide +kernel
theorem dX1_replies_37 : decode cX1_replies 37 = .ok (.if_icmp .lt 28, 3) := by decide +kernel
theorem dX1_replies_40 : decode cX1_replies 40 = .ok (.iload_n 3, 1) := by decide +kernel
theorem dX1_replies_41 : decode cX1_replies 41 = .ok (.bipush 9, 2) := by decide +kernel
theorem dX1_replies_43 : decode cX1_replies 43 = .ok (.if_icmp .gt 22, 3) := by decide +kernel
theorem dX1_replies_46 : decode cX1_replies 46 = .ok (.aload_n 0, 1) := by decide +kernel
theorem dX1_replies_47 : decode cX1_replies 47 = .ok (.getfield 27, 3) := by decide +kernel
theorem dX1_replies_50 : decode cX1_replies 50 = .ok (.aload_n 1, 1) := by decide +kernel
theorem dX1_replies_51 : decode cX1_replies 51 = .ok (.getfield 117, 3) := by decide +kernel
theorem dX1_replies_54 : decode cX1_replies 54 = .ok (.invokevirtual 129, 3) := by decide +kernel
theorem dX1_replies_57 : decode cX1_replies 57 = .ok (.iconst 5, 1) := by decide +kernel
theorem dX1_replies_58 : decode cX1_replies 58 = .ok (.if_icmp .ne 7, 3) := by decide +kernel
theorem dX1_replies_61 : decode cX1_replies 61 = .ok (.iconst 1, 1) := by decide +kernel
theorem dX1_replies_62 : decode cX1_replies 62 = .ok (.goto 4, 3) := by decide +kernel
theorem dX1_replies_65 : decode cX1_replies 65 = .ok (.iconst 0, 1) := by decide +kernel
theorem dX1_replies_66 : decode cX1_replies 66 = .ok (.istore 4, 2) := by decide +kernel
theorem dX1_replies_68 : decode cX1_replies 68 = .ok (.iconst 0, 1) := by decide +kernel
theorem dX1_replies_69 : decode cX1_replies 69 = .ok (.istore 5, 2) := by decide +kernel
theorem dX1_replies_71 : decode cX1_replies 71 = .ok (.iload_n 2, 1) := by decide +kernel
theorem dX1_replies_72 : decode cX1_replies 72 = .ok (.istore 6, 2) := by decide +kernel
theorem dX1_replies_74 : decode cX1_replies 74 = .ok (.iload 4, 2) := by decide +kernel
theorem dX1_replies_76 : decode cX1_replies 76 = .ok (.ifCond .eq 51, 3) := by decide +kernel
theorem dX1_replies_79 : decode cX1_replies 79 = .ok (.iload 6, 2) := by decide +kernel
theorem dX1_replies_81 : decode cX1_replies 81 = .ok (.aload_n 0, 1) := by decide +kernel
theorem dX1_replies_82 : decode cX1_replies 82 = .ok (.getfield 23, 3) := by decide +kernel
theorem dX1_replies_85 : decode cX1_replies 85 = .ok (.iconst 0, 1) := by decide +kernel
theorem dX1_replies_86 : decode cX1_replies 86 = .ok (.iaload, 1) := by decide +kernel
theorem dX1_replies_87 : decode cX1_replies 87 = .ok (.if_icmp .ge 40, 3) := by decide +kernel
theorem dX1_replies_90 : decode cX1_replies 90 = .ok (.aload_n 0, 1) := by decide +kernel
theorem dX1_replies_91 : decode cX1_replies 91 = .ok (.iload 6, 2) := by decide +kernel
theorem dX1_replies_93 : decode cX1_replies 93 = .ok (.invokevirtual 79, 3) := by decide +kernel
theorem dX1_replies_96 : decode cX1_replies 96 = .ok (.iconst (-1), 1) := by decide +kernel
theorem dX1_replies_97 : decode cX1_replies 97 = .ok (.if_icmp .eq 7, 3) := by decide +kernel
theorem dX1_replies_100 : decode cX1_replies 100 = .ok (.iconst 1, 1) := by decide +kernel
theorem dX1_replies_101 : decode cX1_replies 101 = .ok (.goto 4, 3) := by decide +kernel
theorem dX1_replies_104 : decode cX1_replies 104 = .ok (.iconst 0, 1) := by decide +kernel
theorem dX1_replies_105 : decode cX1_replies 105 = .ok (.istore 4, 2) := by decide +kernel
theorem dX1_replies_107 : decode cX1_replies 107 = .ok (.iload 5, 2) := by decide +kernel
theorem dX1_replies_109 : decode cX1_replies 109 = .ok (.bipush 10, 2) := by decide +kernel
theorem dX1_replies_111 : decode cX1_replies 111 = .ok (.imul, 1) := by decide +kernel
theorem dX1_replies_112 : decode cX1_replies 112 = .ok (.aload_n 0, 1) := by decide +kernel
theorem dX1_replies_113 : decode cX1_replies 113 = .ok (.iload 6, 2) := by decide +kernel
theorem dX1_replies_115 : decode cX1_replies 115 = .ok (.invokevirtual 79, 3) := by decide +kernel
theorem dX1_replies_118 : decode cX1_replies 118 = .ok (.iadd, 1) := by decide +kernel
theorem dX1_replies_119 : decode cX1_replies 119 = .ok (.istore 5, 2) := by decide +kernel
theorem dX1_replies_121 : decode cX1_replies 121 = .ok (.iinc 6 1, 3) := by decide +kernel
theorem dX1_replies_124 : decode cX1_replies 124 = .ok (.goto (-50), 3) := by decide +kernel
theorem dX1_replies_127 : decode cX1_replies 127 = .ok (.iload 4, 2) := by decide +kernel
theorem dX1_replies_129 : decode cX1_replies 129 = .ok (.ifCond .eq 45, 3) := by decide +kernel
theorem dX1_replies_132 : decode cX1_replies 132 = .ok (.aload_n 1, 1) := by decide +kernel
theorem dX1_replies_133 : decode cX1_replies 133 = .ok (.iload_n 2, 1) := by decide +kernel
theorem dX1_replies_134 : decode cX1_replies 134 = .ok (.iconst 4, 1) := by decide +kernel
theorem dX1_replies_135 : decode cX1_replies 135 = .ok (.if_icmp .ne 9, 3) := by decide +kernel
theorem dX1_replies_138 : decode cX1_replies 138 = .ok (.iload 5, 2) := by decide +kernel
theorem dX1_replies_140 : decode cX1_replies 140 = .ok (.ineg, 1) := by decide +kernel
theorem dX1_replies_141 : decode cX1_replies 141 = .ok (.goto 5, 3) := by decide +kernel
theorem dX1_replies_144 : decode cX1_replies 144 = .ok (.iload 5, 2) := by decide +kernel
theorem dX1_replies_146 : decode cX1_replies 146 = .ok (.putfield 136, 3) := by decide +kernel
theorem dX1_replies_149 : decode cX1_replies 149 = .ok (.aload_n 0, 1) := by decide +kernel
theorem dX1_replies_150 : decode cX1_replies 150 = .ok (.getfield 31, 3) := by decide +kernel
theorem dX1_replies_153 : decode cX1_replies 153 = .ok (.aload_n 1, 1) := by decide +kernel
theorem dX1_replies_154 : decode cX1_replies 154 = .ok (.aload_n 1, 1) := by decide +kernel
theorem dX1_replies_155 : decode cX1_replies 155 = .ok (.getfield 139, 3) := by decide +kernel
theorem dX1_replies_158 : decode cX1_replies 158 = .ok (.iconst 1, 1) := by decide +kernel
theorem dX1_replies_159 : decode cX1_replies 159 = .ok (.iadd, 1) := by decide +kernel
theorem dX1_replies_160 : decode cX1_replies 160 = .ok (.invokevirtual 142, 3) := by decide +kernel
theorem dX1_replies_163 : decode cX1_replies 163 = .ok (.aload_n 0, 1) := by decide +kernel
theorem dX1_replies_164 : decode cX1_replies 164 = .ok (.getfield 27, 3) := by decide +kernel
theorem dX1_replies_167 : decode cX1_replies 167 = .ok (.aload_n 1, 1) := by decide +kernel
theorem dX1_replies_168 : decode cX1_replies 168 = .ok (.getfield 117, 3) := by decide +kernel
theorem dX1_replies_171 : decode cX1_replies 171 = .ok (.invokevirtual 120, 3) := by decide +kernel
theorem dX1_replies_174 : decode cX1_replies 174 = .ok (.iload 4, 2) := by decide +kernel
theorem dX1_replies_176 : decode cX1_replies 176 = .ok (.ireturn, 1) := by decide +kernel
theorem dX1_signAt_0 : decode cX1_signAt 0 = .ok (.iload_n 1, 1) := by decide +kernel
theorem dX1_signAt_1 : decode cX1_signAt 1 = .ok (.ifCond .lt 30, 3) := by decide +kernel
theorem dX1_signAt_4 : decode cX1_signAt 4 = .ok (.iload_n 1, 1) := by decide +kernel
theorem dX1_signAt_5 : decode cX1_signAt 5 = .ok (.aload_n 0, 1) := by decide +kernel
theorem dX1_signAt_6 : decode cX1_signAt 6 = .ok (.getfield 23, 3) := by decide +kernel
theorem dX1_signAt_9 : decode cX1_signAt 9 = .ok (.iconst 0, 1) := by decide +kernel
theorem dX1_signAt_10 : decode cX1_signAt 10 = .ok (.iaload, 1) := by decide +kernel
theorem dX1_signAt_11 : decode cX1_signAt 11 = .ok (.if_icmp .ge 20, 3) := by decide +kernel
theorem dX1_signAt_14 : decode cX1_signAt 14 = .ok (.iload_n 1, 1) := by decide +kernel
theorem dX1_signAt_15 : decode cX1_signAt 15 = .ok (.bipush 20, 2) := by decide +kernel
theorem dX1_signAt_17 : decode cX1_signAt 17 = .ok (.if_icmp .ge 14, 3) := by decide +kernel
theorem dX1_signAt_20 : decode cX1_signAt 20 = .ok (.aload_n 0, 1) := by decide +kernel
theorem dX1_signAt_21 : decode cX1_signAt 21 = .ok (.getfield 20, 3) := by decide +kernel
theorem dX1_signAt_24 : decode cX1_signAt 24 = .ok (.iconst 0, 1) := by decide +kernel
theorem dX1_signAt_25 : decode cX1_signAt 25 = .ok (.aaload, 1) := by decide +kernel
theorem dX1_signAt_26 : decode cX1_signAt 26 = .ok (.iload_n 1, 1) := by decide +kernel
theorem dX1_signAt_27 : decode cX1_signAt 27 = .ok (.baload, 1) := by decide +kernel
theorem dX1_signAt_28 : decode cX1_signAt 28 = .ok (.goto 4, 3) := by decide +kernel
theorem dX1_signAt_31 : decode cX1_signAt 31 = .ok (.iconst (-1), 1) := by decide +kernel
theorem dX1_signAt_32 : decode cX1_signAt 32 = .ok (.ireturn, 1) := by decide +kernel
theorem dX1_digitAt_0 : decode cX1_digitAt 0 = .ok (.aload_n 0, 1) := by decide +kernel
theorem dX1_digitAt_1 : decode cX1_digitAt 1 = .ok (.iload_n 1, 1) := by decide +kernel
theorem dX1_digitAt_2 : decode cX1_digitAt 2 = .ok (.invokevirtual 87, 3) := by decide +kernel
theorem dX1_digitAt_5 : decode cX1_digitAt 5 = .ok (.istore_n 2, 1) := by decide +kernel
theorem dX1_digitAt_6 : decode cX1_digitAt 6 = .ok (.iload_n 2, 1) := by decide +kernel
theorem dX1_digitAt_7 : decode cX1_digitAt 7 = .ok (.bipush 48, 2) := by decide +kernel
theorem dX1_digitAt_9 : decode cX1_digitAt 9 = .ok (.if_icmp .lt 16, 3) := by decide +kernel
theorem dX1_digitAt_12 : decode cX1_digitAt 12 = .ok (.iload_n 2, 1) := by decide +kernel
theorem dX1_digitAt_13 : decode cX1_digitAt 13 = .ok (.bipush 57, 2) := by decide +kernel
theorem dX1_digitAt_15 : decode cX1_digitAt 15 = .ok (.if_icmp .gt 10, 3) := by decide +kernel
theorem dX1_digitAt_18 : decode cX1_digitAt 18 = .ok (.iload_n 2, 1) := by decide +kernel
theorem dX1_digitAt_19 : decode cX1_digitAt 19 = .ok (.bipush 48, 2) := by decide +kernel
theorem dX1_digitAt_21 : decode cX1_digitAt 21 = .ok (.isub, 1) := by decide +kernel
theorem dX1_digitAt_22 : decode cX1_digitAt 22 = .ok (.goto 4, 3) := by decide +kernel
theorem dX1_digitAt_25 : decode cX1_digitAt 25 = .ok (.iconst (-1), 1) := by decide +kernel
theorem dX1_digitAt_26 : decode cX1_digitAt 26 = .ok (.ireturn, 1) := by decide +kernel
theorem dX1_ask_0 : decode cX1_ask 0 = .ok (.aload_n 0, 1) := by decide +kernel
theorem dX1_ask_1 : decode cX1_ask 1 = .ok (.bipush 48, 2) := by decide +kernel
theorem dX1_ask_3 : decode cX1_ask 3 = .ok (.aload_n 1, 1) := by decide +kernel
theorem dX1_ask_4 : decode cX1_ask 4 = .ok (.getfield 117, 3) := by decide +kernel
theorem dX1_ask_7 : decode cX1_ask 7 = .ok (.iadd, 1) := by decide +kernel
theorem dX1_ask_8 : decode cX1_ask 8 = .ok (.invokevirtual 72, 3) := by decide +kernel
theorem dX1_ask_11 : decode cX1_ask 11 = .ok (.aload_n 0, 1) := by decide +kernel
theorem dX1_ask_12 : decode cX1_ask 12 = .ok (.bipush 63, 2) := by decide +kernel
theorem dX1_ask_14 : decode cX1_ask 14 = .ok (.invokevirtual 72, 3) := by decide +kernel
theorem dX1_ask_17 : decode cX1_ask 17 = .ok (.aload_n 0, 1) := by decide +kernel
theorem dX1_ask_18 : decode cX1_ask 18 = .ok (.bipush 10, 2) := by decide +kernel
theorem dX1_ask_20 : decode cX1_ask 20 = .ok (.invokevirtual 72, 3) := by decide +kernel
theorem dX1_ask_23 : decode cX1_ask 23 = .ok (.aload_n 0, 1) := by decide +kernel
theorem dX1_ask_24 : decode cX1_ask 24 = .ok (.getfield 27, 3) := by decide +kernel
theorem dX1_ask_27 : decode cX1_ask 27 = .ok (.aload_n 1, 1) := by decide +kernel
theorem dX1_ask_28 : decode cX1_ask 28 = .ok (.getfield 117, 3) := by decide +kernel
theorem dX1_ask_31 : decode cX1_ask 31 = .ok (.iconst 5, 1) := by decide +kernel
theorem dX1_ask_32 : decode cX1_ask 32 = .ok (.invokevirtual 146, 3) := by decide +kernel
theorem dX1_ask_35 : decode cX1_ask 35 = .ok (.return_, 1) := by decide +kernel
theorem dX1_sayOver_0 : decode cX1_sayOver 0 = .ok (.aload_n 0, 1) := by decide +kernel
theorem dX1_sayOver_1 : decode cX1_sayOver 1 = .ok (.bipush 48, 2) := by decide +kernel
theorem dX1_sayOver_3 : decode cX1_sayOver 3 = .ok (.aload_n 1, 1) := by decide +kernel
theorem dX1_sayOver_4 : decode cX1_sayOver 4 = .ok (.getfield 117, 3) := by decide +kernel
theorem dX1_sayOver_7 : decode cX1_sayOver 7 = .ok (.iadd, 1) := by decide +kernel
theorem dX1_sayOver_8 : decode cX1_sayOver 8 = .ok (.invokevirtual 72, 3) := by decide +kernel
theorem dX1_sayOver_11 : decode cX1_sayOver 11 = .ok (.aload_n 0, 1) := by decide +kernel
theorem dX1_sayOver_12 : decode cX1_sayOver 12 = .ok (.bipush 61, 2) := by decide +kernel
theorem dX1_sayOver_14 : decode cX1_sayOver 14 = .ok (.invokevirtual 72, 3) := by decide +kernel
theorem dX1_sayOver_17 : decode cX1_sayOver 17 = .ok (.aload_n 0, 1) := by decide +kernel
theorem dX1_sayOver_18 : decode cX1_sayOver 18 = .ok (.bipush 48, 2) := by decide +kernel
theorem dX1_sayOver_20 : decode cX1_sayOver 20 = .ok (.aload_n 1, 1) := by decide +kernel
theorem dX1_sayOver_21 : decode cX1_sayOver 21 = .ok (.getfield 150, 3) := by decide +kernel
theorem dX1_sayOver_24 : decode cX1_sayOver 24 = .ok (.iadd, 1) := by decide +kernel
theorem dX1_sayOver_25 : decode cX1_sayOver 25 = .ok (.invokevirtual 72, 3) := by decide +kernel
theorem dX1_sayOver_28 : decode cX1_sayOver 28 = .ok (.aload_n 0, 1) := by decide +kernel
theorem dX1_sayOver_29 : decode cX1_sayOver 29 = .ok (.bipush 10, 2) := by decide +kernel
theorem dX1_sayOver_31 : decode cX1_sayOver 31 = .ok (.invokevirtual 72, 3) := by decide +kernel
theorem dX1_sayOver_34 : decode cX1_sayOver 34 = .ok (.return_, 1) := by decide +kernel
theorem dX1_say_0 : decode cX1_say 0 = .ok (.aload_n 0, 1) := by decide +kernel
theorem dX1_say_1 : decode cX1_say 1 = .ok (.getfield 153, 3) := by decide +kernel
theorem dX1_say_4 : decode cX1_say 4 = .ok (.ifCond .lt 24, 3) := by decide +kernel
theorem dX1_say_7 : decode cX1_say 7 = .ok (.aload_n 0, 1) := by decide +kernel
theorem dX1_say_8 : decode cX1_say 8 = .ok (.getfield 153, 3) := by decide +kernel
theorem dX1_say_11 : decode cX1_say 11 = .ok (.sipush 600, 3) := by decide +kernel
theorem dX1_say_14 : decode cX1_say 14 = .ok (.if_icmp .ge 14, 3) := by decide +kernel
theorem dX1_say_17 : decode cX1_say 17 = .ok (.aload_n 0, 1) := by decide +kernel
theorem dX1_say_18 : decode cX1_say 18 = .ok (.getfield 9, 3) := by decide +kernel
theorem dX1_say_21 : decode cX1_say 21 = .ok (.aload_n 0, 1) := by decide +kernel
theorem dX1_say_22 : decode cX1_say 22 = .ok (.getfield 153, 3) := by decide +kernel
theorem dX1_say_25 : decode cX1_say 25 = .ok (.iload_n 1, 1) := by decide +kernel
theorem dX1_say_26 : decode cX1_say 26 = .ok (.i2b, 1) := by decide +kernel
theorem dX1_say_27 : decode cX1_say 27 = .ok (.bastore, 1) := by decide +kernel
theorem dX1_say_28 : decode cX1_say 28 = .ok (.aload_n 0, 1) := by decide +kernel
theorem dX1_say_29 : decode cX1_say 29 = .ok (.dup, 1) := by decide +kernel
theorem dX1_say_30 : decode cX1_say 30 = .ok (.getfield 153, 3) := by decide +kernel
theorem dX1_say_33 : decode cX1_say 33 = .ok (.iconst 1, 1) := by decide +kernel
theorem dX1_say_34 : decode cX1_say 34 = .ok (.iadd, 1) := by decide +kernel
theorem dX1_say_35 : decode cX1_say 35 = .ok (.putfield 153, 3) := by decide +kernel
theorem dX1_say_38 : decode cX1_say 38 = .ok (.return_, 1) := by decide +kernel
theorem dX1_byteSaid_0 : decode cX1_byteSaid 0 = .ok (.iload_n 1, 1) := by decide +kernel
theorem dX1_byteSaid_1 : decode cX1_byteSaid 1 = .ok (.ifCond .lt 27, 3) := by decide +kernel
theorem dX1_byteSaid_4 : decode cX1_byteSaid 4 = .ok (.iload_n 1, 1) := by decide +kernel
theorem dX1_byteSaid_5 : decode cX1_byteSaid 5 = .ok (.aload_n 0, 1) := by decide +kernel
theorem dX1_byteSaid_6 : decode cX1_byteSaid 6 = .ok (.getfield 153, 3) := by decide +kernel
theorem dX1_byteSaid_9 : decode cX1_byteSaid 9 = .ok (.if_icmp .ge 19, 3) := by decide +kernel
theorem dX1_byteSaid_12 : decode cX1_byteSaid 12 = .ok (.iload_n 1, 1) := by decide +kernel
theorem dX1_byteSaid_13 : decode cX1_byteSaid 13 = .ok (.sipush 600, 3) := by decide +kernel
theorem dX1_byteSaid_16 : decode cX1_byteSaid 16 = .ok (.if_icmp .ge 12, 3) := by decide +kernel
theorem dX1_byteSaid_19 : decode cX1_byteSaid 19 = .ok (.aload_n 0, 1) := by decide +kernel
theorem dX1_byteSaid_20 : decode cX1_byteSaid 20 = .ok (.getfield 9, 3) := by decide +kernel
theorem dX1_byteSaid_23 : decode cX1_byteSaid 23 = .ok (.iload_n 1, 1) := by decide +kernel
theorem dX1_byteSaid_24 : decode cX1_byteSaid 24 = .ok (.baload, 1) := by decide +kernel
theorem dX1_byteSaid_25 : decode cX1_byteSaid 25 = .ok (.goto 4, 3) := by decide +kernel
theorem dX1_byteSaid_28 : decode cX1_byteSaid 28 = .ok (.iconst (-1), 1) := by decide +kernel
theorem dX1_byteSaid_29 : decode cX1_byteSaid 29 = .ok (.ireturn, 1) := by decide +kernel
theorem dX2_init_0 : decode cX2_init 0 = .ok (.aload_n 0, 1) := by decide +kernel
theorem dX2_init_1 : decode cX2_init 1 = .ok (.invokespecial 3, 3) := by decide +kernel
theorem dX2_init_4 : decode cX2_init 4 = .ok (.aload_n 0, 1) := by decide +kernel
theorem dX2_init_5 : decode cX2_init 5 = .ok (.iload_n 1, 1) := by decide +kernel
theorem dX2_init_6 : decode cX2_init 6 = .ok (.iconst 0, 1) := by decide +kernel
theorem dX2_init_7 : decode cX2_init 7 = .ok (.invokestatic 9, 3) := by decide +kernel
theorem dX2_init_10 : decode cX2_init 10 = .ok (.anewarray 15, 3) := by decide +kernel
theorem dX2_init_13 : decode cX2_init 13 = .ok (.putfield 17, 3) := by decide +kernel
theorem dX2_init_16 : decode cX2_init 16 = .ok (.iconst 0, 1) := by decide +kernel
theorem dX2_init_17 : decode cX2_init 17 = .ok (.istore_n 2, 1) := by decide +kernel
theorem dX2_init_18 : decode cX2_init 18 = .ok (.iload_n 2, 1) := by decide +kernel
theorem dX2_init_19 : decode cX2_init 19 = .ok (.aload_n 0, 1) := by decide +kernel
theorem dX2_init_20 : decode cX2_init 20 = .ok (.getfield 17, 3) := by decide +kernel
theorem dX2_init_23 : decode cX2_init 23 = .ok (.arraylength, 1) := by decide +kernel
theorem dX2_init_24 : decode cX2_init 24 = .ok (.if_icmp .ge 22, 3) := by decide +kernel
theorem dX2_init_27 : decode cX2_init 27 = .ok (.aload_n 0, 1) := by decide +kernel
theorem dX2_init_28 : decode cX2_init 28 = .ok (.getfield 17, 3) := by decide +kernel
theorem dX2_init_31 : decode cX2_init 31 = .ok (.iload_n 2, 1) := by decide +kernel
theorem dX2_init_32 : decode cX2_init 32 = .ok (.new 15, 3) := by decide +kernel
theorem dX2_init_35 : decode cX2_init 35 = .ok (.dup, 1) := by decide +kernel
theorem dX2_init_36 : decode cX2_init 36 = .ok (.invokespecial 23, 3) := by decide +kernel
theorem dX2_init_39 : decode cX2_init 39 = .ok (.aastore, 1) := by decide +kernel
theorem dX2_init_40 : decode cX2_init 40 = .ok (.iinc 2 1, 3) := by decide +kernel
theorem dX2_init_43 : decode cX2_init 43 = .ok (.goto (-25), 3) := by decide +kernel
theorem dX2_init_46 : decode cX2_init 46 = .ok (.return_, 1) := by decide +kernel
theorem dX2_find_0 : decode cX2_find 0 = .ok (.aload_n 0, 1) := by decide +kernel
theorem dX2_find_1 : decode cX2_find 1 = .ok (.getfield 17, 3) := by decide +kernel
theorem dX2_find_4 : decode cX2_find 4 = .ok (.astore_n 3, 1) := by decide +kernel
theorem dX2_find_5 : decode cX2_find 5 = .ok (.aload_n 3, 1) := by decide +kernel
theorem dX2_find_6 : decode cX2_find 6 = .ok (.arraylength, 1) := by decide +kernel
theorem dX2_find_7 : decode cX2_find 7 = .ok (.istore 4, 2) := by decide +kernel
theorem dX2_find_9 : decode cX2_find 9 = .ok (.iconst 0, 1) := by decide +kernel
theorem dX2_find_10 : decode cX2_find 10 = .ok (.istore 5, 2) := by decide +kernel
theorem dX2_find_12 : decode cX2_find 12 = .ok (.iload 5, 2) := by decide +kernel
theorem dX2_find_14 : decode cX2_find 14 = .ok (.iload 4, 2) := by decide +kernel
theorem dX2_find_16 : decode cX2_find 16 = .ok (.if_icmp .ge 36, 3) := by decide +kernel
theorem dX2_find_19 : decode cX2_find 19 = .ok (.aload_n 3, 1) := by decide +kernel
theorem dX2_find_20 : decode cX2_find 20 = .ok (.iload 5, 2) := by decide +kernel
theorem dX2_find_22 : decode cX2_find 22 = .ok (.aaload, 1) := by decide +kernel
theorem dX2_find_23 : decode cX2_find 23 = .ok (.astore 6, 2) := by decide +kernel
theorem dX2_find_25 : decode cX2_find 25 = .ok (.aload 6, 2) := by decide +kernel
theorem dX2_find_27 : decode cX2_find 27 = .ok (.aload_n 1, 1) := by decide +kernel
theorem dX2_find_28 : decode cX2_find 28 = .ok (.invokevirtual 24, 3) := by decide +kernel
theorem dX2_find_31 : decode cX2_find 31 = .ok (.ifCond .eq 15, 3) := by decide +kernel
theorem dX2_find_34 : decode cX2_find 34 = .ok (.aload 6, 2) := by decide +kernel
theorem dX2_find_36 : decode cX2_find 36 = .ok (.getfield 28, 3) := by decide +kernel
theorem dX2_find_39 : decode cX2_find 39 = .ok (.iload_n 2, 1) := by decide +kernel
theorem dX2_find_40 : decode cX2_find 40 = .ok (.if_icmp .ne 6, 3) := by decide +kernel
theorem dX2_find_43 : decode cX2_find 43 = .ok (.aload 6, 2) := by decide +kernel
theorem dX2_find_45 : decode cX2_find 45 = .ok (.areturn, 1) := by decide +kernel
theorem dX2_find_46 : decode cX2_find 46 = .ok (.iinc 5 1, 3) := by decide +kernel
theorem dX2_find_49 : decode cX2_find 49 = .ok (.goto (-37), 3) := by decide +kernel
theorem dX2_find_52 : decode cX2_find 52 = .ok (.aconst_null, 1) := by decide +kernel
theorem dX2_find_53 : decode cX2_find 53 = .ok (.areturn, 1) := by decide +kernel
theorem dX2_choose_0 : decode cX2_choose 0 = .ok (.aconst_null, 1) := by decide +kernel
theorem dX2_choose_1 : decode cX2_choose 1 = .ok (.astore_n 1, 1) := by decide +kernel
theorem dX2_choose_2 : decode cX2_choose 2 = .ok (.aload_n 0, 1) := by decide +kernel
theorem dX2_choose_3 : decode cX2_choose 3 = .ok (.getfield 17, 3) := by decide +kernel
theorem dX2_choose_6 : decode cX2_choose 6 = .ok (.astore_n 2, 1) := by decide +kernel
theorem dX2_choose_7 : decode cX2_choose 7 = .ok (.aload_n 2, 1) := by decide +kernel
theorem dX2_choose_8 : decode cX2_choose 8 = .ok (.arraylength, 1) := by decide +kernel
theorem dX2_choose_9 : decode cX2_choose 9 = .ok (.istore_n 3, 1) := by decide +kernel
theorem dX2_choose_10 : decode cX2_choose 10 = .ok (.iconst 0, 1) := by decide +kernel
theorem dX2_choose_11 : decode cX2_choose 11 = .ok (.istore 4, 2) := by decide +kernel
theorem dX2_choose_13 : decode cX2_choose 13 = .ok (.iload 4, 2) := by decide +kernel
theorem dX2_choose_15 : decode cX2_choose 15 = .ok (.iload_n 3, 1) := by decide +kernel
theorem dX2_choose_16 : decode cX2_choose 16 = .ok (.if_icmp .ge 73, 3) := by decide +kernel
theorem dX2_choose_19 : decode cX2_choose 19 = .ok (.aload_n 2, 1) := by decide +kernel
theorem dX2_choose_20 : decode cX2_choose 20 = .ok (.iload 4, 2) := by decide +kernel
theorem dX2_choose_22 : decode cX2_choose 22 = .ok (.aaload, 1) := by decide +kernel
theorem dX2_choose_23 : decode cX2_choose 23 = .ok (.astore 5, 2) := by decide +kernel
theorem dX2_choose_25 : decode cX2_choose 25 = .ok (.aload 5, 2) := by decide +kernel
theorem dX2_choose_27 : decode cX2_choose 27 = .ok (.invokevirtual 32, 3) := by decide +kernel
theorem dX2_choose_30 : decode cX2_choose 30 = .ok (.ifCond .eq 6, 3) := by decide +kernel
theorem dX2_choose_33 : decode cX2_choose 33 = .ok (.aload 5, 2) := by decide +kernel
theorem dX2_choose_35 : decode cX2_choose 35 = .ok (.areturn, 1) := by decide +kernel
theorem dX2_choose_36 : decode cX2_choose 36 = .ok (.aload 5, 2) := by decide +kernel
theorem dX2_choose_38 : decode cX2_choose 38 = .ok (.getfield 36, 3) := by decide +kernel
theorem dX2_choose_41 : decode cX2_choose 41 = .ok (.ifCond .ne 15, 3) := by decide +kernel
theorem dX2_choose_44 : decode cX2_choose 44 = .ok (.aload 5, 2) := by decide +kernel
theorem dX2_choose_46 : decode cX2_choose 46 = .ok (.getfield 40, 3) := by decide +kernel
theorem dX2_choose_49 : decode cX2_choose 49 = .ok (.ifCond .ne 7, 3) := by decide +kernel
theorem dX2_choose_52 : decode cX2_choose 52 = .ok (.iconst 1, 1) := by decide +kernel
theorem dX2_choose_53 : decode cX2_choose 53 = .ok (.goto 4, 3) := by decide +kernel
theorem dX2_choose_56 : decode cX2_choose 56 = .ok (.iconst 0, 1) := by decide +kernel
theorem dX2_choose_57 : decode cX2_choose 57 = .ok (.istore 6, 2) := by decide +kernel
theorem dX2_choose_59 : decode cX2_choose 59 = .ok (.iload 6, 2) := by decide +kernel
theorem dX2_choose_61 : decode cX2_choose 61 = .ok (.ifCond .eq 22, 3) := by decide +kernel
theorem dX2_choose_64 : decode cX2_choose 64 = .ok (.aload_n 1, 1) := by decide +kernel
theorem dX2_choose_65 : decode cX2_choose 65 = .ok (.ifnull 15, 3) := by decide +kernel
theorem dX2_choose_68 : decode cX2_choose 68 = .ok (.aload 5, 2) := by decide +kernel
theorem dX2_choose_70 : decode cX2_choose 70 = .ok (.getfield 43, 3) := by decide +kernel
theorem dX2_choose_73 : decode cX2_choose 73 = .ok (.aload_n 1, 1) := by decide +kernel
theorem dX2_choose_74 : decode cX2_choose 74 = .ok (.getfield 43, 3) := by decide +kernel
theorem dX2_choose_77 : decode cX2_choose 77 = .ok (.if_icmp .ge 6, 3) := by decide +kernel
theorem dX2_choose_80 : decode cX2_choose 80 = .ok (.aload 5, 2) := by decide +kernel
theorem dX2_choose_82 : decode cX2_choose 82 = .ok (.astore_n 1, 1) := by decide +kernel
theorem dX2_choose_83 : decode cX2_choose 83 = .ok (.iinc 4 1, 3) := by decide +kernel
theorem dX2_choose_86 : decode cX2_choose 86 = .ok (.goto (-73), 3) := by decide +kernel
theorem dX2_choose_89 : decode cX2_choose 89 = .ok (.aload_n 1, 1) := by decide +kernel
theorem dX2_choose_90 : decode cX2_choose 90 = .ok (.areturn, 1) := by decide +kernel
theorem dX2_complete_0 : decode cX2_complete 0 = .ok (.aload_n 1, 1) := by decide +kernel
theorem dX2_complete_1 : decode cX2_complete 1 = .ok (.dup, 1) := by decide +kernel
theorem dX2_complete_2 : decode cX2_complete 2 = .ok (.getfield 46, 3) := by decide +kernel
theorem dX2_complete_5 : decode cX2_complete 5 = .ok (.iconst 1, 1) := by decide +kernel
theorem dX2_complete_6 : decode cX2_complete 6 = .ok (.iadd, 1) := by decide +kernel
theorem dX2_complete_7 : decode cX2_complete 7 = .ok (.putfield 46, 3) := by decide +kernel
theorem dX2_complete_10 : decode cX2_complete 10 = .ok (.aload_n 1, 1) := by decide +kernel
theorem dX2_complete_11 : decode cX2_complete 11 = .ok (.iload_n 2, 1) := by decide +kernel
theorem dX2_complete_12 : decode cX2_complete 12 = .ok (.putfield 51, 3) := by decide +kernel
theorem dX2_complete_15 : decode cX2_complete 15 = .ok (.aload_n 0, 1) := by decide +kernel
theorem dX2_complete_16 : decode cX2_complete 16 = .ok (.getfield 17, 3) := by decide +kernel
theorem dX2_complete_19 : decode cX2_complete 19 = .ok (.astore_n 3, 1) := by decide +kernel
theorem dX2_complete_20 : decode cX2_complete 20 = .ok (.aload_n 3, 1) := by decide +kernel
theorem dX2_complete_21 : decode cX2_complete 21 = .ok (.arraylength, 1) := by decide +kernel
theorem dX2_complete_22 : decode cX2_complete 22 = .ok (.istore 4, 2) := by decide +kernel
theorem dX2_complete_24 : decode cX2_complete 24 = .ok (.iconst 0, 1) := by decide +kernel
theorem dX2_complete_25 : decode cX2_complete 25 = .ok (.istore 5, 2) := by decide +kernel
theorem dX2_complete_27 : decode cX2_complete 27 = .ok (.iload 5, 2) := by decide +kernel
theorem dX2_complete_29 : decode cX2_complete 29 = .ok (.iload 4, 2) := by decide +kernel
theorem dX2_complete_31 : decode cX2_complete 31 = .ok (.if_icmp .ge 30, 3) := by decide +kernel
theorem dX2_complete_34 : decode cX2_complete 34 = .ok (.aload_n 3, 1) := by decide +kernel
theorem dX2_complete_35 : decode cX2_complete 35 = .ok (.iload 5, 2) := by decide +kernel
theorem dX2_complete_37 : decode cX2_complete 37 = .ok (.aaload, 1) := by decide +kernel
theorem dX2_complete_38 : decode cX2_complete 38 = .ok (.astore 6, 2) := by decide +kernel
theorem dX2_complete_40 : decode cX2_complete 40 = .ok (.aload 6, 2) := by decide +kernel
theorem dX2_complete_42 : decode cX2_complete 42 = .ok (.aload_n 1, 1) := by decide +kernel
theorem dX2_complete_43 : decode cX2_complete 43 = .ok (.invokevirtual 24, 3) := by decide +kernel
theorem dX2_complete_46 : decode cX2_complete 46 = .ok (.ifCond .eq 9, 3) := by decide +kernel
theorem dX2_complete_49 : decode cX2_complete 49 = .ok (.aload 6, 2) := by decide +kernel
theorem dX2_complete_51 : decode cX2_complete 51 = .ok (.iconst 0, 1) := by decide +kernel
theorem dX2_complete_52 : decode cX2_complete 52 = .ok (.putfield 40, 3) := by decide +kernel
theorem dX2_complete_55 : decode cX2_complete 55 = .ok (.iinc 5 1, 3) := by decide +kernel
theorem dX2_complete_58 : decode cX2_complete 58 = .ok (.goto (-31), 3) := by decide +kernel
theorem dX2_complete_61 : decode cX2_complete 61 = .ok (.return_, 1) := by decide +kernel
theorem dX2_vacateAll_0 : decode cX2_vacateAll 0 = .ok (.aload_n 0, 1) := by decide +kernel
theorem dX2_vacateAll_1 : decode cX2_vacateAll 1 = .ok (.getfield 17, 3) := by decide +kernel
theorem dX2_vacateAll_4 : decode cX2_vacateAll 4 = .ok (.astore_n 2, 1) := by decide +kernel
theorem dX2_vacateAll_5 : decode cX2_vacateAll 5 = .ok (.aload_n 2, 1) := by decide +kernel
theorem dX2_vacateAll_6 : decode cX2_vacateAll 6 = .ok (.arraylength, 1) := by decide +kernel
theorem dX2_vacateAll_7 : decode cX2_vacateAll 7 = .ok (.istore_n 3, 1) := by decide +kernel
theorem dX2_vacateAll_8 : decode cX2_vacateAll 8 = .ok (.iconst 0, 1) := by decide +kernel
theorem dX2_vacateAll_9 : decode cX2_vacateAll 9 = .ok (.istore 4, 2) := by decide +kernel
theorem dX2_vacateAll_11 : decode cX2_vacateAll 11 = .ok (.iload 4, 2) := by decide +kernel
theorem dX2_vacateAll_13 : decode cX2_vacateAll 13 = .ok (.iload_n 3, 1) := by decide +kernel
theorem dX2_vacateAll_14 : decode cX2_vacateAll 14 = .ok (.if_icmp .ge 29, 3) := by decide +kernel
theorem dX2_vacateAll_17 : decode cX2_vacateAll 17 = .ok (.aload_n 2, 1) := by decide +kernel
theorem dX2_vacateAll_18 : decode cX2_vacateAll 18 = .ok (.iload 4, 2) := by decide +kernel
theorem dX2_vacateAll_20 : decode cX2_vacateAll 20 = .ok (.aaload, 1) := by decide +kernel
theorem dX2_vacateAll_21 : decode cX2_vacateAll 21 = .ok (.astore 5, 2) := by decide +kernel
theorem dX2_vacateAll_23 : decode cX2_vacateAll 23 = .ok (.aload 5, 2) := by decide +kernel
theorem dX2_vacateAll_25 : decode cX2_vacateAll 25 = .ok (.aload_n 1, 1) := by decide +kernel
theorem dX2_vacateAll_26 : decode cX2_vacateAll 26 = .ok (.invokevirtual 24, 3) := by decide +kernel
theorem dX2_vacateAll_29 : decode cX2_vacateAll 29 = .ok (.ifCond .eq 8, 3) := by decide +kernel
theorem dX2_vacateAll_32 : decode cX2_vacateAll 32 = .ok (.aload 5, 2) := by decide +kernel
theorem dX2_vacateAll_34 : decode cX2_vacateAll 34 = .ok (.invokevirtual 54, 3) := by decide +kernel
theorem dX2_vacateAll_37 : decode cX2_vacateAll 37 = .ok (.iinc 4 1, 3) := by decide +kernel
theorem dX2_vacateAll_40 : decode cX2_vacateAll 40 = .ok (.goto (-29), 3) := by decide +kernel
theorem dX2_vacateAll_43 : decode cX2_vacateAll 43 = .ok (.return_, 1) := by decide +kernel
theorem dX2_tell_0 : decode cX2_tell 0 = .ok (.iload_n 1, 1) := by decide +kernel
theorem dX2_tell_1 : decode cX2_tell 1 = .ok (.ifCond .lt 12, 3) := by decide +kernel
theorem dX2_tell_4 : decode cX2_tell 4 = .ok (.iload_n 1, 1) := by decide +kernel
theorem dX2_tell_5 : decode cX2_tell 5 = .ok (.aload_n 0, 1) := by decide +kernel
theorem dX2_tell_6 : decode cX2_tell 6 = .ok (.getfield 17, 3) := by decide +kernel
theorem dX2_tell_9 : decode cX2_tell 9 = .ok (.arraylength, 1) := by decide +kernel
theorem dX2_tell_10 : decode cX2_tell 10 = .ok (.if_icmp .lt 5, 3) := by decide +kernel
theorem dX2_tell_13 : decode cX2_tell 13 = .ok (.iconst (-1), 1) := by decide +kernel
theorem dX2_tell_14 : decode cX2_tell 14 = .ok (.ireturn, 1) := by decide +kernel
theorem dX2_tell_15 : decode cX2_tell 15 = .ok (.aload_n 0, 1) := by decide +kernel
theorem dX2_tell_16 : decode cX2_tell 16 = .ok (.getfield 17, 3) := by decide +kernel
theorem dX2_tell_19 : decode cX2_tell 19 = .ok (.iload_n 1, 1) := by decide +kernel
theorem dX2_tell_20 : decode cX2_tell 20 = .ok (.aaload, 1) := by decide +kernel
theorem dX2_tell_21 : decode cX2_tell 21 = .ok (.astore_n 3, 1) := by decide +kernel
theorem dX2_tell_22 : decode cX2_tell 22 = .ok (.aload_n 3, 1) := by decide +kernel
theorem dX2_tell_23 : decode cX2_tell 23 = .ok (.getfield 36, 3) := by decide +kernel
theorem dX2_tell_26 : decode cX2_tell 26 = .ok (.ifCond .eq 14, 3) := by decide +kernel
theorem dX2_tell_29 : decode cX2_tell 29 = .ok (.iload_n 2, 1) := by decide +kernel
theorem dX2_tell_30 : decode cX2_tell 30 = .ok (.ifCond .ne 8, 3) := by decide +kernel
theorem dX2_tell_33 : decode cX2_tell 33 = .ok (.bipush (-2), 2) := by decide +kernel
theorem dX2_tell_35 : decode cX2_tell 35 = .ok (.goto 4, 3) := by decide +kernel
theorem dX2_tell_38 : decode cX2_tell 38 = .ok (.iconst (-1), 1) := by decide +kernel
theorem dX2_tell_39 : decode cX2_tell 39 = .ok (.ireturn, 1) := by decide +kernel
theorem dX2_tell_40 : decode cX2_tell 40 = .ok (.aload_n 3, 1) := by decide +kernel
theorem dX2_tell_41 : decode cX2_tell 41 = .ok (.getfield 57, 3) := by decide +kernel
theorem dX2_tell_44 : decode cX2_tell 44 = .ok (.ifnonnull 5, 3) := by decide +kernel
theorem dX2_tell_47 : decode cX2_tell 47 = .ok (.iconst (-1), 1) := by decide +kernel
theorem dX2_tell_48 : decode cX2_tell 48 = .ok (.ireturn, 1) := by decide +kernel
theorem dX2_tell_49 : decode cX2_tell 49 = .ok (.iload_n 2, 1) := by decide +kernel
theorem dX2_tell_50 : decode cX2_tell 50 = .ok (.ifCond .ne 13, 3) := by decide +kernel
theorem dX2_tell_53 : decode cX2_tell 53 = .ok (.aload_n 3, 1) := by decide +kernel
theorem dX2_tell_54 : decode cX2_tell 54 = .ok (.getfield 57, 3) := by decide +kernel
theorem dX2_tell_57 : decode cX2_tell 57 = .ok (.getfield 61, 3) := by decide +kernel
theorem dX2_tell_60 : decode cX2_tell 60 = .ok (.goto 8, 3) := by decide +kernel
theorem dX2_tell_63 : decode cX2_tell 63 = .ok (.aload_n 3, 1) := by decide +kernel
theorem dX2_tell_64 : decode cX2_tell 64 = .ok (.iload_n 2, 1) := by decide +kernel
theorem dX2_tell_65 : decode cX2_tell 65 = .ok (.invokevirtual 64, 3) := by decide +kernel
theorem dX2_tell_68 : decode cX2_tell 68 = .ok (.ireturn, 1) := by decide +kernel
theorem dX3_init_0 : decode cX3_init 0 = .ok (.aload_n 0, 1) := by decide +kernel
theorem dX3_init_1 : decode cX3_init 1 = .ok (.invokespecial 3, 3) := by decide +kernel
theorem dX3_init_4 : decode cX3_init 4 = .ok (.aload_n 0, 1) := by decide +kernel
theorem dX3_init_5 : decode cX3_init 5 = .ok (.new 9, 3) := by decide +kernel
theorem dX3_init_8 : decode cX3_init 8 = .ok (.dup, 1) := by decide +kernel
theorem dX3_init_9 : decode cX3_init 9 = .ok (.invokespecial 11, 3) := by decide +kernel
theorem dX3_init_12 : decode cX3_init 12 = .ok (.putfield 12, 3) := by decide +kernel
theorem dX3_init_15 : decode cX3_init 15 = .ok (.aload_n 0, 1) := by decide +kernel
theorem dX3_init_16 : decode cX3_init 16 = .ok (.sipush 512, 3) := by decide +kernel
theorem dX3_init_19 : decode cX3_init 19 = .ok (.newarray .int, 2) := by decide +kernel
theorem dX3_init_21 : decode cX3_init 21 = .ok (.putfield 18, 3) := by decide +kernel
theorem dX3_init_24 : decode cX3_init 24 = .ok (.aload_n 0, 1) := by decide +kernel
theorem dX3_init_25 : decode cX3_init 25 = .ok (.sipush 512, 3) := by decide +kernel
theorem dX3_init_28 : decode cX3_init 28 = .ok (.newarray .int, 2) := by decide +kernel
theorem dX3_init_30 : decode cX3_init 30 = .ok (.putfield 22, 3) := by decide +kernel
theorem dX3_init_33 : decode cX3_init 33 = .ok (.aload_n 0, 1) := by decide +kernel
theorem dX3_init_34 : decode cX3_init 34 = .ok (.aload_n 1, 1) := by decide +kernel
theorem dX3_init_35 : decode cX3_init 35 = .ok (.putfield 25, 3) := by decide +kernel
theorem dX3_init_38 : decode cX3_init 38 = .ok (.aload_n 0, 1) := by decide +kernel
theorem dX3_init_39 : decode cX3_init 39 = .ok (.aload_n 2, 1) := by decide +kernel
theorem dX3_init_40 : decode cX3_init 40 = .ok (.putfield 29, 3) := by decide +kernel
theorem dX3_init_43 : decode cX3_init 43 = .ok (.aload_n 0, 1) := by decide +kernel
theorem dX3_init_44 : decode cX3_init 44 = .ok (.aload_n 3, 1) := by decide +kernel
theorem dX3_init_45 : decode cX3_init 45 = .ok (.putfield 33, 3) := by decide +kernel
theorem dX3_init_48 : decode cX3_init 48 = .ok (.aload_n 0, 1) := by decide +kernel
theorem dX3_init_49 : decode cX3_init 49 = .ok (.new 37, 3) := by decide +kernel
theorem dX3_init_52 : decode cX3_init 52 = .ok (.dup, 1) := by decide +kernel
theorem dX3_init_53 : decode cX3_init 53 = .ok (.aload_n 1, 1) := by decide +kernel
theorem dX3_init_54 : decode cX3_init 54 = .ok (.bipush 7, 2) := by decide +kernel
theorem dX3_init_56 : decode cX3_init 56 = .ok (.bipush 7, 2) := by decide +kernel
theorem dX3_init_58 : decode cX3_init 58 = .ok (.invokespecial 39, 3) := by decide +kernel
theorem dX3_init_61 : decode cX3_init 61 = .ok (.putfield 42, 3) := by decide +kernel
theorem dX3_init_64 : decode cX3_init 64 = .ok (.aload_n 0, 1) := by decide +kernel
theorem dX3_init_65 : decode cX3_init 65 = .ok (.new 37, 3) := by decide +kernel
theorem dX3_init_68 : decode cX3_init 68 = .ok (.dup, 1) := by decide +kernel
theorem dX3_init_69 : decode cX3_init 69 = .ok (.aload_n 1, 1) := by decide +kernel
theorem dX3_init_70 : decode cX3_init 70 = .ok (.bipush 7, 2) := by decide +kernel
theorem dX3_init_72 : decode cX3_init 72 = .ok (.bipush 8, 2) := by decide +kernel
theorem dX3_init_74 : decode cX3_init 74 = .ok (.invokespecial 39, 3) := by decide +kernel
theorem dX3_init_77 : decode cX3_init 77 = .ok (.putfield 46, 3) := by decide +kernel
theorem dX3_init_80 : decode cX3_init 80 = .ok (.aload_n 0, 1) := by decide +kernel
theorem dX3_init_81 : decode cX3_init 81 = .ok (.new 37, 3) := by decide +kernel
theorem dX3_init_84 : decode cX3_init 84 = .ok (.dup, 1) := by decide +kernel
theorem dX3_init_85 : decode cX3_init 85 = .ok (.aload_n 1, 1) := by decide +kernel
theorem dX3_init_86 : decode cX3_init 86 = .ok (.bipush 8, 2) := by decide +kernel
theorem dX3_init_88 : decode cX3_init 88 = .ok (.bipush 7, 2) := by decide +kernel
theorem dX3_init_90 : decode cX3_init 90 = .ok (.invokespecial 39, 3) := by decide +kernel
theorem dX3_init_93 : decode cX3_init 93 = .ok (.putfield 49, 3) := by decide +kernel
theorem dX3_init_96 : decode cX3_init 96 = .ok (.aload_n 0, 1) := by decide +kernel
theorem dX3_init_97 : decode cX3_init 97 = .ok (.new 37, 3) := by decide +kernel
theorem dX3_init_100 : decode cX3_init 100 = .ok (.dup, 1) := by decide +kernel
theorem dX3_init_101 : decode cX3_init 101 = .ok (.aload_n 1, 1) := by decide +kernel
theorem dX3_init_102 : decode cX3_init 102 = .ok (.bipush 8, 2) := by decide +kernel
theorem dX3_init_104 : decode cX3_init 104 = .ok (.bipush 8, 2) := by decide +kernel
theorem dX3_init_106 : decode cX3_init 106 = .ok (.invokespecial 39, 3) := by decide +kernel
theorem dX3_init_109 : decode cX3_init 109 = .ok (.putfield 52, 3) := by decide +kernel
theorem dX3_init_112 : decode cX3_init 112 = .ok (.aload_n 0, 1) := by decide +kernel
theorem dX3_init_113 : decode cX3_init 113 = .ok (.getfield 42, 3) := by decide +kernel
theorem dX3_init_116 : decode cX3_init 116 = .ok (.invokevirtual 55, 3) := by decide +kernel
theorem dX3_init_119 : decode cX3_init 119 = .ok (.aload_n 0, 1) := by decide +kernel
theorem dX3_init_120 : decode cX3_init 120 = .ok (.getfield 49, 3) := by decide +kernel
theorem dX3_init_123 : decode cX3_init 123 = .ok (.invokevirtual 55, 3) := by decide +kernel
theorem dX3_init_126 : decode cX3_init 126 = .ok (.return_, 1) := by decide +kernel
theorem dX3_read_0 : decode cX3_read 0 = .ok (.aload_n 1, 1) := by decide +kernel
theorem dX3_read_1 : decode cX3_read 1 = .ok (.iconst 0, 1) := by decide +kernel
theorem dX3_read_2 : decode cX3_read 2 = .ok (.invokevirtual 58, 3) := by decide +kernel
theorem dX3_read_5 : decode cX3_read 5 = .ok (.ifCond .le 10, 3) := by decide +kernel
theorem dX3_read_8 : decode cX3_read 8 = .ok (.aload_n 1, 1) := by decide +kernel
theorem dX3_read_9 : decode cX3_read 9 = .ok (.invokevirtual 64, 3) := by decide +kernel
theorem dX3_read_12 : decode cX3_read 12 = .ok (.ifCond .ne 9, 3) := by decide +kernel
theorem dX3_read_15 : decode cX3_read 15 = .ok (.aload_n 1, 1) := by decide +kernel
theorem dX3_read_16 : decode cX3_read 16 = .ok (.iconst 4, 1) := by decide +kernel
theorem dX3_read_17 : decode cX3_read 17 = .ok (.putfield 68, 3) := by decide +kernel
theorem dX3_read_20 : decode cX3_read 20 = .ok (.return_, 1) := by decide +kernel
theorem dX3_read_21 : decode cX3_read 21 = .ok (.aload_n 0, 1) := by decide +kernel
theorem dX3_read_22 : decode cX3_read 22 = .ok (.getfield 12, 3) := by decide +kernel
theorem dX3_read_25 : decode cX3_read 25 = .ok (.aload_n 1, 1) := by decide +kernel
theorem dX3_read_26 : decode cX3_read 26 = .ok (.invokevirtual 72, 3) := by decide +kernel
theorem dX3_read_29 : decode cX3_read 29 = .ok (.pop, 1) := by decide +kernel
theorem dX3_read_30 : decode cX3_read 30 = .ok (.aload_n 0, 1) := by decide +kernel
theorem dX3_read_31 : decode cX3_read 31 = .ok (.getfield 25, 3) := by decide +kernel
theorem dX3_read_34 : decode cX3_read 34 = .ok (.aload_n 1, 1) := by decide +kernel
theorem dX3_read_35 : decode cX3_read 35 = .ok (.getfield 76, 3) := by decide +kernel
theorem dX3_read_38 : decode cX3_read 38 = .ok (.iconst 2, 1) := by decide +kernel
theorem dX3_read_39 : decode cX3_read 39 = .ok (.invokevirtual 79, 3) := by decide +kernel
theorem dX3_read_42 : decode cX3_read 42 = .ok (.aload_n 0, 1) := by decide +kernel
theorem dX3_read_43 : decode cX3_read 43 = .ok (.getfield 42, 3) := by decide +kernel
theorem dX3_read_46 : decode cX3_read 46 = .ok (.invokevirtual 85, 3) := by decide +kernel
theorem dX3_read_49 : decode cX3_read 49 = .ok (.return_, 1) := by decide +kernel
theorem dX3_readingStep_0 : decode cX3_readingStep 0 = .ok (.aload_n 0, 1) := by decide +kernel
theorem dX3_readingStep_1 : decode cX3_readingStep 1 = .ok (.getfield 88, 3) := by decide +kernel
theorem dX3_readingStep_4 : decode cX3_readingStep 4 = .ok (.ifnull 66, 3) := by decide +kernel
theorem dX3_readingStep_7 : decode cX3_readingStep 7 = .ok (.aload_n 0, 1) := by decide +kernel
theorem dX3_readingStep_8 : decode cX3_readingStep 8 = .ok (.getfield 88, 3) := by decide +kernel
theorem dX3_readingStep_11 : decode cX3_readingStep 11 = .ok (.aload_n 0, 1) := by decide +kernel
theorem dX3_readingStep_12 : decode cX3_readingStep 12 = .ok (.getfield 88, 3) := by decide +kernel
theorem dX3_readingStep_15 : decode cX3_readingStep 15 = .ok (.invokevirtual 92, 3) := by decide +kernel
theorem dX3_readingStep_18 : decode cX3_readingStep 18 = .ok (.putfield 96, 3) := by decide +kernel
theorem dX3_readingStep_21 : decode cX3_readingStep 21 = .ok (.aload_n 0, 1) := by decide +kernel
theorem dX3_readingStep_22 : decode cX3_readingStep 22 = .ok (.getfield 29, 3) := by decide +kernel
theorem dX3_readingStep_25 : decode cX3_readingStep 25 = .ok (.aload_n 0, 1) := by decide +kernel
theorem dX3_readingStep_26 : decode cX3_readingStep 26 = .ok (.getfield 88, 3) := by decide +kernel
theorem dX3_readingStep_29 : decode cX3_readingStep 29 = .ok (.aload_n 0, 1) := by decide +kernel
theorem dX3_readingStep_30 : decode cX3_readingStep 30 = .ok (.getfield 88, 3) := by decide +kernel
theorem dX3_readingStep_33 : decode cX3_readingStep 33 = .ok (.getfield 99, 3) := by decide +kernel
theorem dX3_readingStep_36 : decode cX3_readingStep 36 = .ok (.iconst 1, 1) := by decide +kernel
theorem dX3_readingStep_37 : decode cX3_readingStep 37 = .ok (.iadd, 1) := by decide +kernel
theorem dX3_readingStep_38 : decode cX3_readingStep 38 = .ok (.invokevirtual 102, 3) := by decide +kernel
theorem dX3_readingStep_41 : decode cX3_readingStep 41 = .ok (.aload_n 0, 1) := by decide +kernel
theorem dX3_readingStep_42 : decode cX3_readingStep 42 = .ok (.getfield 25, 3) := by decide +kernel
theorem dX3_readingStep_45 : decode cX3_readingStep 45 = .ok (.aload_n 0, 1) := by decide +kernel
theorem dX3_readingStep_46 : decode cX3_readingStep 46 = .ok (.getfield 88, 3) := by decide +kernel
theorem dX3_readingStep_49 : decode cX3_readingStep 49 = .ok (.getfield 76, 3) := by decide +kernel
theorem dX3_readingStep_52 : decode cX3_readingStep 52 = .ok (.invokevirtual 108, 3) := by decide +kernel
theorem dX3_readingStep_55 : decode cX3_readingStep 55 = .ok (.aload_n 0, 1) := by decide +kernel
theorem dX3_readingStep_56 : decode cX3_readingStep 56 = .ok (.aconst_null, 1) := by decide +kernel
theorem dX3_readingStep_57 : decode cX3_readingStep 57 = .ok (.putfield 88, 3) := by decide +kernel
theorem dX3_readingStep_60 : decode cX3_readingStep 60 = .ok (.aload_n 0, 1) := by decide +kernel
theorem dX3_readingStep_61 : decode cX3_readingStep 61 = .ok (.getfield 42, 3) := by decide +kernel
theorem dX3_readingStep_64 : decode cX3_readingStep 64 = .ok (.invokevirtual 55, 3) := by decide +kernel
theorem dX3_readingStep_67 : decode cX3_readingStep 67 = .ok (.goto 50, 3) := by decide +kernel
theorem dX3_readingStep_70 : decode cX3_readingStep 70 = .ok (.aload_n 0, 1) := by decide +kernel
theorem dX3_readingStep_71 : decode cX3_readingStep 71 = .ok (.getfield 12, 3) := by decide +kernel
theorem dX3_readingStep_74 : decode cX3_readingStep 74 = .ok (.invokevirtual 112, 3) := by decide +kernel
theorem dX3_readingStep_77 : decode cX3_readingStep 77 = .ok (.ifCond .eq 13, 3) := by decide +kernel
theorem dX3_readingStep_80 : decode cX3_readingStep 80 = .ok (.aload_n 0, 1) := by decide +kernel
theorem dX3_readingStep_81 : decode cX3_readingStep 81 = .ok (.getfield 42, 3) := by decide +kernel
theorem dX3_readingStep_84 : decode cX3_readingStep 84 = .ok (.invokevirtual 55, 3) := by decide +kernel
theorem dX3_readingStep_87 : decode cX3_readingStep 87 = .ok (.goto 30, 3) := by decide +kernel
theorem dX3_readingStep_90 : decode cX3_readingStep 90 = .ok (.aload_n 0, 1) := by decide +kernel
theorem dX3_readingStep_91 : decode cX3_readingStep 91 = .ok (.aload_n 0, 1) := by decide +kernel
theorem dX3_readingStep_92 : decode cX3_readingStep 92 = .ok (.getfield 12, 3) := by decide +kernel
theorem dX3_readingStep_95 : decode cX3_readingStep 95 = .ok (.iconst 0, 1) := by decide +kernel
theorem dX3_readingStep_96 : decode cX3_readingStep 96 = .ok (.invokevirtual 115, 3) := by decide +kernel
theorem dX3_readingStep_99 : decode cX3_readingStep 99 = .ok (.checkcast 59, 3) := by decide +kernel
theorem dX3_readingStep_102 : decode cX3_readingStep 102 = .ok (.putfield 88, 3) := by decide +kernel
theorem dX3_readingStep_105 : decode cX3_readingStep 105 = .ok (.aload_n 0, 1) := by decide +kernel
theorem dX3_readingStep_106 : decode cX3_readingStep 106 = .ok (.iconst 1, 1) := by decide +kernel
theorem dX3_readingStep_107 : decode cX3_readingStep 107 = .ok (.putfield 119, 3) := by decide +kernel
theorem dX3_readingStep_110 : decode cX3_readingStep 110 = .ok (.aload_n 0, 1) := by decide +kernel
theorem dX3_readingStep_111 : decode cX3_readingStep 111 = .ok (.getfield 46, 3) := by decide +kernel
theorem dX3_readingStep_114 : decode cX3_readingStep 114 = .ok (.invokevirtual 55, 3) := by decide +kernel
theorem dX3_readingStep_117 : decode cX3_readingStep 117 = .ok (.return_, 1) := by decide +kernel
theorem dX3_readerIsDone_0 : decode cX3_readerIsDone 0 = .ok (.aload_n 0, 1) := by decide +kernel
theorem dX3_readerIsDone_1 : decode cX3_readerIsDone 1 = .ok (.getfield 119, 3) := by decide +kernel
theorem dX3_readerIsDone_4 : decode cX3_readerIsDone 4 = .ok (.ifCond .ne 5, 3) := by decide +kernel
theorem dX3_readerIsDone_7 : decode cX3_readerIsDone 7 = .ok (.iconst 0, 1) := by decide +kernel
theorem dX3_readerIsDone_8 : decode cX3_readerIsDone 8 = .ok (.ireturn, 1) := by decide +kernel
theorem dX3_readerIsDone_9 : decode cX3_readerIsDone 9 = .ok (.aload_n 0, 1) := by decide +kernel
theorem dX3_readerIsDone_10 : decode cX3_readerIsDone 10 = .ok (.iconst 0, 1) := by decide +kernel
theorem dX3_readerIsDone_11 : decode cX3_readerIsDone 11 = .ok (.putfield 119, 3) := by decide +kernel
theorem dX3_readerIsDone_14 : decode cX3_readerIsDone 14 = .ok (.aload_n 0, 1) := by decide +kernel
theorem dX3_readerIsDone_15 : decode cX3_readerIsDone 15 = .ok (.getfield 46, 3) := by decide +kernel
theorem dX3_readerIsDone_18 : decode cX3_readerIsDone 18 = .ok (.invokevirtual 85, 3) := by decide +kernel
theorem dX3_readerIsDone_21 : decode cX3_readerIsDone 21 = .ok (.iconst 1, 1) := by decide +kernel
theorem dX3_readerIsDone_22 : decode cX3_readerIsDone 22 = .ok (.ireturn, 1) := by decide +kernel
theorem dX3_print_0 : decode cX3_print 0 = .ok (.aload_n 1, 1) := by decide +kernel
theorem dX3_print_1 : decode cX3_print 1 = .ok (.iconst 1, 1) := by decide +kernel
theorem dX3_print_2 : decode cX3_print 2 = .ok (.invokevirtual 58, 3) := by decide +kernel
theorem dX3_print_5 : decode cX3_print 5 = .ok (.ifCond .le 11, 3) := by decide +kernel
theorem dX3_print_8 : decode cX3_print 8 = .ok (.aload_n 1, 1) := by decide +kernel
theorem dX3_print_9 : decode cX3_print 9 = .ok (.iconst 2, 1) := by decide +kernel
theorem dX3_print_10 : decode cX3_print 10 = .ok (.invokevirtual 58, 3) := by decide +kernel
theorem dX3_print_13 : decode cX3_print 13 = .ok (.ifCond .gt 11, 3) := by decide +kernel
theorem dX3_print_16 : decode cX3_print 16 = .ok (.aload_n 1, 1) := by decide +kernel
theorem dX3_print_17 : decode cX3_print 17 = .ok (.iconst 4, 1) := by decide +kernel
theorem dX3_print_18 : decode cX3_print 18 = .ok (.putfield 68, 3) := by decide +kernel
theorem dX3_print_21 : decode cX3_print 21 = .ok (.goto 67, 3) := by decide +kernel
theorem dX3_print_24 : decode cX3_print 24 = .ok (.aload_n 1, 1) := by decide +kernel
theorem dX3_print_25 : decode cX3_print 25 = .ok (.getfield 123, 3) := by decide +kernel
theorem dX3_print_28 : decode cX3_print 28 = .ok (.invokevirtual 127, 3) := by decide +kernel
theorem dX3_print_31 : decode cX3_print 31 = .ok (.iconst 4, 1) := by decide +kernel
theorem dX3_print_32 : decode cX3_print 32 = .ok (.aload_n 1, 1) := by decide +kernel
theorem dX3_print_33 : decode cX3_print 33 = .ok (.iconst 2, 1) := by decide +kernel
theorem dX3_print_34 : decode cX3_print 34 = .ok (.invokevirtual 58, 3) := by decide +kernel
theorem dX3_print_37 : decode cX3_print 37 = .ok (.imul, 1) := by decide +kernel
theorem dX3_print_38 : decode cX3_print 38 = .ok (.if_icmp .lt 18, 3) := by decide +kernel
theorem dX3_print_41 : decode cX3_print 41 = .ok (.aload_n 0, 1) := by decide +kernel
theorem dX3_print_42 : decode cX3_print 42 = .ok (.getfield 25, 3) := by decide +kernel
theorem dX3_print_45 : decode cX3_print 45 = .ok (.aload_n 1, 1) := by decide +kernel
theorem dX3_print_46 : decode cX3_print 46 = .ok (.getfield 76, 3) := by decide +kernel
theorem dX3_print_49 : decode cX3_print 49 = .ok (.iconst 3, 1) := by decide +kernel
theorem dX3_print_50 : decode cX3_print 50 = .ok (.invokevirtual 79, 3) := by decide +kernel
theorem dX3_print_53 : decode cX3_print 53 = .ok (.goto 35, 3) := by decide +kernel
theorem dX3_print_56 : decode cX3_print 56 = .ok (.aload_n 1, 1) := by decide +kernel
theorem dX3_print_57 : decode cX3_print 57 = .ok (.getfield 123, 3) := by decide +kernel
theorem dX3_print_60 : decode cX3_print 60 = .ok (.aload_n 1, 1) := by decide +kernel
theorem dX3_print_61 : decode cX3_print 61 = .ok (.getfield 96, 3) := by decide +kernel
theorem dX3_print_64 : decode cX3_print 64 = .ok (.invokevirtual 132, 3) := by decide +kernel
theorem dX3_print_67 : decode cX3_print 67 = .ok (.aload_n 0, 1) := by decide +kernel
theorem dX3_print_68 : decode cX3_print 68 = .ok (.getfield 29, 3) := by decide +kernel
theorem dX3_print_71 : decode cX3_print 71 = .ok (.aload_n 1, 1) := by decide +kernel
theorem dX3_print_72 : decode cX3_print 72 = .ok (.aload_n 1, 1) := by decide +kernel
theorem dX3_print_73 : decode cX3_print 73 = .ok (.getfield 99, 3) := by decide +kernel
theorem dX3_print_76 : decode cX3_print 76 = .ok (.iconst 1, 1) := by decide +kernel
theorem dX3_print_77 : decode cX3_print 77 = .ok (.iadd, 1) := by decide +kernel
theorem dX3_print_78 : decode cX3_print 78 = .ok (.invokevirtual 102, 3) := by decide +kernel
theorem dX3_print_81 : decode cX3_print 81 = .ok (.aload_n 0, 1) := by decide +kernel
theorem dX3_print_82 : decode cX3_print 82 = .ok (.getfield 49, 3) := by decide +kernel
theorem dX3_print_85 : decode cX3_print 85 = .ok (.invokevirtual 85, 3) := by decide +kernel
theorem dX3_print_88 : decode cX3_print 88 = .ok (.return_, 1) := by decide +kernel
theorem dX3_printingStep_0 : decode cX3_printingStep 0 = .ok (.aload_n 0, 1) := by decide +kernel
theorem dX3_printingStep_1 : decode cX3_printingStep 1 = .ok (.getfield 135, 3) := by decide +kernel
theorem dX3_printingStep_4 : decode cX3_printingStep 4 = .ok (.ifnull 32, 3) := by decide +kernel
theorem dX3_printingStep_7 : decode cX3_printingStep 7 = .ok (.aload_n 0, 1) := by decide +kernel
theorem dX3_printingStep_8 : decode cX3_printingStep 8 = .ok (.aload_n 0, 1) := by decide +kernel
theorem dX3_printingStep_9 : decode cX3_printingStep 9 = .ok (.getfield 135, 3) := by decide +kernel
theorem dX3_printingStep_12 : decode cX3_printingStep 12 = .ok (.invokevirtual 138, 3) := by decide +kernel
theorem dX3_printingStep_15 : decode cX3_printingStep 15 = .ok (.aload_n 0, 1) := by decide +kernel
theorem dX3_printingStep_16 : decode cX3_printingStep 16 = .ok (.aload_n 0, 1) := by decide +kernel
theorem dX3_printingStep_17 : decode cX3_printingStep 17 = .ok (.getfield 135, 3) := by decide +kernel
theorem dX3_printingStep_20 : decode cX3_printingStep 20 = .ok (.invokevirtual 142, 3) := by decide +kernel
theorem dX3_printingStep_23 : decode cX3_printingStep 23 = .ok (.aload_n 0, 1) := by decide +kernel
theorem dX3_printingStep_24 : decode cX3_printingStep 24 = .ok (.aconst_null, 1) := by decide +kernel
theorem dX3_printingStep_25 : decode cX3_printingStep 25 = .ok (.putfield 135, 3) := by decide +kernel
theorem dX3_printingStep_28 : decode cX3_printingStep 28 = .ok (.aload_n 0, 1) := by decide +kernel
theorem dX3_printingStep_29 : decode cX3_printingStep 29 = .ok (.getfield 49, 3) := by decide +kernel
theorem dX3_printingStep_32 : decode cX3_printingStep 32 = .ok (.invokevirtual 55, 3) := by decide +kernel
theorem dX3_printingStep_35 : decode cX3_printingStep 35 = .ok (.return_, 1) := by decide +kernel
theorem dX3_printingStep_36 : decode cX3_printingStep 36 = .ok (.aload_n 0, 1) := by decide +kernel
theorem dX3_printingStep_37 : decode cX3_printingStep 37 = .ok (.aload_n 0, 1) := by decide +kernel
theorem dX3_printingStep_38 : decode cX3_printingStep 38 = .ok (.getfield 33, 3) := by decide +kernel
theorem dX3_printingStep_41 : decode cX3_printingStep 41 = .ok (.invokevirtual 145, 3) := by decide +kernel
theorem dX3_printingStep_44 : decode cX3_printingStep 44 = .ok (.putfield 135, 3) := by decide +kernel
theorem dX3_printingStep_47 : decode cX3_printingStep 47 = .ok (.aload_n 0, 1) := by decide +kernel
theorem dX3_printingStep_48 : decode cX3_printingStep 48 = .ok (.getfield 135, 3) := by decide +kernel
theorem dX3_printingStep_51 : decode cX3_printingStep 51 = .ok (.ifnonnull 13, 3) := by decide +kernel
theorem dX3_printingStep_54 : decode cX3_printingStep 54 = .ok (.aload_n 0, 1) := by decide +kernel
theorem dX3_printingStep_55 : decode cX3_printingStep 55 = .ok (.getfield 49, 3) := by decide +kernel
theorem dX3_printingStep_58 : decode cX3_printingStep 58 = .ok (.invokevirtual 55, 3) := by decide +kernel
theorem dX3_printingStep_61 : decode cX3_printingStep 61 = .ok (.goto 15, 3) := by decide +kernel
theorem dX3_printingStep_64 : decode cX3_printingStep 64 = .ok (.aload_n 0, 1) := by decide +kernel
theorem dX3_printingStep_65 : decode cX3_printingStep 65 = .ok (.iconst 1, 1) := by decide +kernel
theorem dX3_printingStep_66 : decode cX3_printingStep 66 = .ok (.putfield 151, 3) := by decide +kernel
theorem dX3_printingStep_69 : decode cX3_printingStep 69 = .ok (.aload_n 0, 1) := by decide +kernel
theorem dX3_printingStep_70 : decode cX3_printingStep 70 = .ok (.getfield 52, 3) := by decide +kernel
theorem dX3_printingStep_73 : decode cX3_printingStep 73 = .ok (.invokevirtual 55, 3) := by decide +kernel
theorem dX3_printingStep_76 : decode cX3_printingStep 76 = .ok (.return_, 1) := by decide +kernel
theorem dX3_putOnPaper_0 : decode cX3_putOnPaper 0 = .ok (.aload_n 0, 1) := by decide +kernel
theorem dX3_putOnPaper_1 : decode cX3_putOnPaper 1 = .ok (.getfield 154, 3) := by decide +kernel
theorem dX3_putOnPaper_4 : decode cX3_putOnPaper 4 = .ok (.ifCond .lt 63, 3) := by decide +kernel
theorem dX3_putOnPaper_7 : decode cX3_putOnPaper 7 = .ok (.aload_n 0, 1) := by decide +kernel
theorem dX3_putOnPaper_8 : decode cX3_putOnPaper 8 = .ok (.getfield 154, 3) := by decide +kernel
theorem dX3_putOnPaper_11 : decode cX3_putOnPaper 11 = .ok (.sipush 512, 3) := by decide +kernel
theorem dX3_putOnPaper_14 : decode cX3_putOnPaper 14 = .ok (.if_icmp .ge 53, 3) := by decide +kernel
theorem dX3_putOnPaper_17 : decode cX3_putOnPaper 17 = .ok (.aload_n 0, 1) := by decide +kernel
theorem dX3_putOnPaper_18 : decode cX3_putOnPaper 18 = .ok (.getfield 18, 3) := by decide +kernel
theorem dX3_putOnPaper_21 : decode cX3_putOnPaper 21 = .ok (.aload_n 0, 1) := by decide +kernel
theorem dX3_putOnPaper_22 : decode cX3_putOnPaper 22 = .ok (.getfield 154, 3) := by decide +kernel
theorem dX3_putOnPaper_25 : decode cX3_putOnPaper 25 = .ok (.aload_n 1, 1) := by decide +kernel
theorem dX3_putOnPaper_26 : decode cX3_putOnPaper 26 = .ok (.getfield 123, 3) := by decide +kernel
theorem dX3_putOnPaper_29 : decode cX3_putOnPaper 29 = .ok (.iconst 0, 1) := by decide +kernel
theorem dX3_putOnPaper_30 : decode cX3_putOnPaper 30 = .ok (.invokevirtual 157, 3) := by decide +kernel
theorem dX3_putOnPaper_33 : decode cX3_putOnPaper 33 = .ok (.iastore, 1) := by decide +kernel
theorem dX3_putOnPaper_34 : decode cX3_putOnPaper 34 = .ok (.aload_n 0, 1) := by decide +kernel
theorem dX3_putOnPaper_35 : decode cX3_putOnPaper 35 = .ok (.getfield 22, 3) := by decide +kernel
theorem dX3_putOnPaper_38 : decode cX3_putOnPaper 38 = .ok (.aload_n 0, 1) := by decide +kernel
theorem dX3_putOnPaper_39 : decode cX3_putOnPaper 39 = .ok (.getfield 154, 3) := by decide +kernel
theorem dX3_putOnPaper_42 : decode cX3_putOnPaper 42 = .ok (.aload_n 1, 1) := by decide +kernel
theorem dX3_putOnPaper_43 : decode cX3_putOnPaper 43 = .ok (.getfield 160, 3) := by decide +kernel
theorem dX3_putOnPaper_46 : decode cX3_putOnPaper 46 = .ok (.iastore, 1) := by decide +kernel
theorem dX3_putOnPaper_47 : decode cX3_putOnPaper 47 = .ok (.aload_n 0, 1) := by decide +kernel
theorem dX3_putOnPaper_48 : decode cX3_putOnPaper 48 = .ok (.dup, 1) := by decide +kernel
theorem dX3_putOnPaper_49 : decode cX3_putOnPaper 49 = .ok (.getfield 154, 3) := by decide +kernel
theorem dX3_putOnPaper_52 : decode cX3_putOnPaper 52 = .ok (.iconst 1, 1) := by decide +kernel
theorem dX3_putOnPaper_53 : decode cX3_putOnPaper 53 = .ok (.iadd, 1) := by decide +kernel
theorem dX3_putOnPaper_54 : decode cX3_putOnPaper 54 = .ok (.putfield 154, 3) := by decide +kernel
theorem dX3_putOnPaper_57 : decode cX3_putOnPaper 57 = .ok (.aload_n 1, 1) := by decide +kernel
theorem dX3_putOnPaper_58 : decode cX3_putOnPaper 58 = .ok (.dup, 1) := by decide +kernel
theorem dX3_putOnPaper_59 : decode cX3_putOnPaper 59 = .ok (.getfield 163, 3) := by decide +kernel
theorem dX3_putOnPaper_62 : decode cX3_putOnPaper 62 = .ok (.iconst 1, 1) := by decide +kernel
theorem dX3_putOnPaper_63 : decode cX3_putOnPaper 63 = .ok (.iadd, 1) := by decide +kernel
theorem dX3_putOnPaper_64 : decode cX3_putOnPaper 64 = .ok (.putfield 163, 3) := by decide +kernel
theorem dX3_putOnPaper_67 : decode cX3_putOnPaper 67 = .ok (.aload_n 1, 1) := by decide +kernel
theorem dX3_putOnPaper_68 : decode cX3_putOnPaper 68 = .ok (.getfield 123, 3) := by decide +kernel
theorem dX3_putOnPaper_71 : decode cX3_putOnPaper 71 = .ok (.iconst 0, 1) := by decide +kernel
theorem dX3_putOnPaper_72 : decode cX3_putOnPaper 72 = .ok (.invokevirtual 166, 3) := by decide +kernel
theorem dX3_putOnPaper_75 : decode cX3_putOnPaper 75 = .ok (.return_, 1) := by decide +kernel
theorem dX3_wakePrinted_0 : decode cX3_wakePrinted 0 = .ok (.aload_n 0, 1) := by decide +kernel
theorem dX3_wakePrinted_1 : decode cX3_wakePrinted 1 = .ok (.getfield 25, 3) := by decide +kernel
theorem dX3_wakePrinted_4 : decode cX3_wakePrinted 4 = .ok (.aload_n 1, 1) := by decide +kernel
theorem dX3_wakePrinted_5 : decode cX3_wakePrinted 5 = .ok (.getfield 76, 3) := by decide +kernel
theorem dX3_wakePrinted_8 : decode cX3_wakePrinted 8 = .ok (.invokevirtual 169, 3) := by decide +kernel
theorem dX3_wakePrinted_11 : decode cX3_wakePrinted 11 = .ok (.istore_n 2, 1) := by decide +kernel
theorem dX3_wakePrinted_12 : decode cX3_wakePrinted 12 = .ok (.iload_n 2, 1) := by decide +kernel
theorem dX3_wakePrinted_13 : decode cX3_wakePrinted 13 = .ok (.iconst 4, 1) := by decide +kernel
theorem dX3_wakePrinted_14 : decode cX3_wakePrinted 14 = .ok (.if_icmp .ne 17, 3) := by decide +kernel
theorem dX3_wakePrinted_17 : decode cX3_wakePrinted 17 = .ok (.aload_n 1, 1) := by decide +kernel
theorem dX3_wakePrinted_18 : decode cX3_wakePrinted 18 = .ok (.getfield 123, 3) := by decide +kernel
theorem dX3_wakePrinted_21 : decode cX3_wakePrinted 21 = .ok (.invokevirtual 127, 3) := by decide +kernel
theorem dX3_wakePrinted_24 : decode cX3_wakePrinted 24 = .ok (.ifCond .ne 7, 3) := by decide +kernel
theorem dX3_wakePrinted_27 : decode cX3_wakePrinted 27 = .ok (.iconst 1, 1) := by decide +kernel
theorem dX3_wakePrinted_28 : decode cX3_wakePrinted 28 = .ok (.goto 4, 3) := by decide +kernel
theorem dX3_wakePrinted_31 : decode cX3_wakePrinted 31 = .ok (.iconst 0, 1) := by decide +kernel
theorem dX3_wakePrinted_32 : decode cX3_wakePrinted 32 = .ok (.istore_n 3, 1) := by decide +kernel
theorem dX3_wakePrinted_33 : decode cX3_wakePrinted 33 = .ok (.iload_n 2, 1) := by decide +kernel
theorem dX3_wakePrinted_34 : decode cX3_wakePrinted 34 = .ok (.iconst 3, 1) := by decide +kernel
theorem dX3_wakePrinted_35 : decode cX3_wakePrinted 35 = .ok (.if_icmp .eq 7, 3) := by decide +kernel
theorem dX3_wakePrinted_38 : decode cX3_wakePrinted 38 = .ok (.iload_n 3, 1) := by decide +kernel
theorem dX3_wakePrinted_39 : decode cX3_wakePrinted 39 = .ok (.ifCond .eq 14, 3) := by decide +kernel
theorem dX3_wakePrinted_42 : decode cX3_wakePrinted 42 = .ok (.aload_n 0, 1) := by decide +kernel
theorem dX3_wakePrinted_43 : decode cX3_wakePrinted 43 = .ok (.getfield 25, 3) := by decide +kernel
theorem dX3_wakePrinted_46 : decode cX3_wakePrinted 46 = .ok (.aload_n 1, 1) := by decide +kernel
theorem dX3_wakePrinted_47 : decode cX3_wakePrinted 47 = .ok (.getfield 76, 3) := by decide +kernel
theorem dX3_wakePrinted_50 : decode cX3_wakePrinted 50 = .ok (.invokevirtual 108, 3) := by decide +kernel
theorem dX3_wakePrinted_53 : decode cX3_wakePrinted 53 = .ok (.return_, 1) := by decide +kernel
theorem dX3_printerIsDone_0 : decode cX3_printerIsDone 0 = .ok (.aload_n 0, 1) := by decide +kernel
theorem dX3_printerIsDone_1 : decode cX3_printerIsDone 1 = .ok (.getfield 151, 3) := by decide +kernel
theorem dX3_printerIsDone_4 : decode cX3_printerIsDone 4 = .ok (.ifCond .ne 5, 3) := by decide +kernel
theorem dX3_printerIsDone_7 : decode cX3_printerIsDone 7 = .ok (.iconst 0, 1) := by decide +kernel
theorem dX3_printerIsDone_8 : decode cX3_printerIsDone 8 = .ok (.ireturn, 1) := by decide +kernel
theorem dX3_printerIsDone_9 : decode cX3_printerIsDone 9 = .ok (.aload_n 0, 1) := by decide +kernel
theorem dX3_printerIsDone_10 : decode cX3_printerIsDone 10 = .ok (.iconst 0, 1) := by decide +kernel
theorem dX3_printerIsDone_11 : decode cX3_printerIsDone 11 = .ok (.putfield 151, 3) := by decide +kernel
theorem dX3_printerIsDone_14 : decode cX3_printerIsDone 14 = .ok (.aload_n 0, 1) := by decide +kernel
theorem dX3_printerIsDone_15 : decode cX3_printerIsDone 15 = .ok (.getfield 52, 3) := by decide +kernel
theorem dX3_printerIsDone_18 : decode cX3_printerIsDone 18 = .ok (.invokevirtual 85, 3) := by decide +kernel
theorem dX3_printerIsDone_21 : decode cX3_printerIsDone 21 = .ok (.iconst 1, 1) := by decide +kernel
theorem dX3_printerIsDone_22 : decode cX3_printerIsDone 22 = .ok (.ireturn, 1) := by decide +kernel
theorem dX3_lineOnPaper_0 : decode cX3_lineOnPaper 0 = .ok (.aload_n 1, 1) := by decide +kernel
theorem dX3_lineOnPaper_1 : decode cX3_lineOnPaper 1 = .ok (.getfield 172, 3) := by decide +kernel
theorem dX3_lineOnPaper_4 : decode cX3_lineOnPaper 4 = .ok (.ifCond .eq 15, 3) := by decide +kernel
theorem dX3_lineOnPaper_7 : decode cX3_lineOnPaper 7 = .ok (.iload_n 2, 1) := by decide +kernel
theorem dX3_lineOnPaper_8 : decode cX3_lineOnPaper 8 = .ok (.ifCond .lt 11, 3) := by decide +kernel
theorem dX3_lineOnPaper_11 : decode cX3_lineOnPaper 11 = .ok (.iload_n 2, 1) := by decide +kernel
theorem dX3_lineOnPaper_12 : decode cX3_lineOnPaper 12 = .ok (.aload_n 1, 1) := by decide +kernel
theorem dX3_lineOnPaper_13 : decode cX3_lineOnPaper 13 = .ok (.getfield 163, 3) := by decide +kernel
theorem dX3_lineOnPaper_16 : decode cX3_lineOnPaper 16 = .ok (.if_icmp .lt 5, 3) := by decide +kernel
theorem dX3_lineOnPaper_19 : decode cX3_lineOnPaper 19 = .ok (.iconst 0, 1) := by decide +kernel
theorem dX3_lineOnPaper_20 : decode cX3_lineOnPaper 20 = .ok (.ireturn, 1) := by decide +kernel
theorem dX3_lineOnPaper_21 : decode cX3_lineOnPaper 21 = .ok (.iconst 0, 1) := by decide +kernel
theorem dX3_lineOnPaper_22 : decode cX3_lineOnPaper 22 = .ok (.istore_n 3, 1) := by decide +kernel
theorem dX3_lineOnPaper_23 : decode cX3_lineOnPaper 23 = .ok (.iconst 0, 1) := by decide +kernel
theorem dX3_lineOnPaper_24 : decode cX3_lineOnPaper 24 = .ok (.istore 4, 2) := by decide +kernel
theorem dX3_lineOnPaper_26 : decode cX3_lineOnPaper 26 = .ok (.iload 4, 2) := by decide +kernel
theorem dX3_lineOnPaper_28 : decode cX3_lineOnPaper 28 = .ok (.aload_n 0, 1) := by decide +kernel
theorem dX3_lineOnPaper_29 : decode cX3_lineOnPaper 29 = .ok (.getfield 154, 3) := by decide +kernel
theorem dX3_lineOnPaper_32 : decode cX3_lineOnPaper 32 = .ok (.if_icmp .ge 47, 3) := by decide +kernel
theorem dX3_lineOnPaper_35 : decode cX3_lineOnPaper 35 = .ok (.iload 4, 2) := by decide +kernel
theorem dX3_lineOnPaper_37 : decode cX3_lineOnPaper 37 = .ok (.sipush 512, 3) := by decide +kernel
theorem dX3_lineOnPaper_40 : decode cX3_lineOnPaper 40 = .ok (.if_icmp .ge 39, 3) := by decide +kernel
theorem dX3_lineOnPaper_43 : decode cX3_lineOnPaper 43 = .ok (.aload_n 0, 1) := by decide +kernel
theorem dX3_lineOnPaper_44 : decode cX3_lineOnPaper 44 = .ok (.getfield 22, 3) := by decide +kernel
theorem dX3_lineOnPaper_47 : decode cX3_lineOnPaper 47 = .ok (.iload 4, 2) := by decide +kernel
theorem dX3_lineOnPaper_49 : decode cX3_lineOnPaper 49 = .ok (.iaload, 1) := by decide +kernel
theorem dX3_lineOnPaper_50 : decode cX3_lineOnPaper 50 = .ok (.aload_n 1, 1) := by decide +kernel
theorem dX3_lineOnPaper_51 : decode cX3_lineOnPaper 51 = .ok (.getfield 160, 3) := by decide +kernel
theorem dX3_lineOnPaper_54 : decode cX3_lineOnPaper 54 = .ok (.if_icmp .ne 19, 3) := by decide +kernel
theorem dX3_lineOnPaper_57 : decode cX3_lineOnPaper 57 = .ok (.iload_n 3, 1) := by decide +kernel
theorem dX3_lineOnPaper_58 : decode cX3_lineOnPaper 58 = .ok (.iload_n 2, 1) := by decide +kernel
theorem dX3_lineOnPaper_59 : decode cX3_lineOnPaper 59 = .ok (.if_icmp .ne 11, 3) := by decide +kernel
theorem dX3_lineOnPaper_62 : decode cX3_lineOnPaper 62 = .ok (.aload_n 0, 1) := by decide +kernel
theorem dX3_lineOnPaper_63 : decode cX3_lineOnPaper 63 = .ok (.getfield 18, 3) := by decide +kernel
theorem dX3_lineOnPaper_66 : decode cX3_lineOnPaper 66 = .ok (.iload 4, 2) := by decide +kernel
theorem dX3_lineOnPaper_68 : decode cX3_lineOnPaper 68 = .ok (.iaload, 1) := by decide +kernel
theorem dX3_lineOnPaper_69 : decode cX3_lineOnPaper 69 = .ok (.ireturn, 1) := by decide +kernel
theorem dX3_lineOnPaper_70 : decode cX3_lineOnPaper 70 = .ok (.iinc 3 1, 3) := by decide +kernel
theorem dX3_lineOnPaper_73 : decode cX3_lineOnPaper 73 = .ok (.iinc 4 1, 3) := by decide +kernel
theorem dX3_lineOnPaper_76 : decode cX3_lineOnPaper 76 = .ok (.goto (-50), 3) := by decide +kernel
theorem dX3_lineOnPaper_79 : decode cX3_lineOnPaper 79 = .ok (.iconst 0, 1) := by decide +kernel
theorem dX3_lineOnPaper_80 : decode cX3_lineOnPaper 80 = .ok (.ireturn, 1) := by decide +kernel
theorem dX4_init_0 : decode cX4_init 0 = .ok (.aload_n 0, 1) := by decide +kernel
theorem dX4_init_1 : decode cX4_init 1 = .ok (.invokespecial 3, 3) := by decide +kernel
theorem dX4_init_4 : decode cX4_init 4 = .ok (.aload_n 0, 1) := by decide +kernel
theorem dX4_init_5 : decode cX4_init 5 = .ok (.bipush 16, 2) := by decide +kernel
theorem dX4_init_7 : decode cX4_init 7 = .ok (.newarray .int, 2) := by decide +kernel
theorem dX4_init_9 : decode cX4_init 9 = .ok (.putfield 9, 3) := by decide +kernel
theorem dX4_init_12 : decode cX4_init 12 = .ok (.return_, 1) := by decide +kernel
theorem dX4_isFree_0 : decode cX4_isFree 0 = .ok (.aload_n 0, 1) := by decide +kernel
theorem dX4_isFree_1 : decode cX4_isFree 1 = .ok (.getfield 15, 3) := by decide +kernel
theorem dX4_isFree_4 : decode cX4_isFree 4 = .ok (.ifCond .ne 14, 3) := by decide +kernel
theorem dX4_isFree_7 : decode cX4_isFree 7 = .ok (.aload_n 0, 1) := by decide +kernel
theorem dX4_isFree_8 : decode cX4_isFree 8 = .ok (.getfield 19, 3) := by decide +kernel
theorem dX4_isFree_11 : decode cX4_isFree 11 = .ok (.ifnonnull 7, 3) := by decide +kernel
theorem dX4_isFree_14 : decode cX4_isFree 14 = .ok (.iconst 1, 1) := by decide +kernel
theorem dX4_isFree_15 : decode cX4_isFree 15 = .ok (.goto 4, 3) := by decide +kernel
theorem dX4_isFree_18 : decode cX4_isFree 18 = .ok (.iconst 0, 1) := by decide +kernel
theorem dX4_isFree_19 : decode cX4_isFree 19 = .ok (.ireturn, 1) := by decide +kernel
theorem dX4_isOf_0 : decode cX4_isOf 0 = .ok (.aload_n 0, 1) := by decide +kernel
theorem dX4_isOf_1 : decode cX4_isOf 1 = .ok (.getfield 15, 3) := by decide +kernel
theorem dX4_isOf_4 : decode cX4_isOf 4 = .ok (.ifCond .ne 15, 3) := by decide +kernel
theorem dX4_isOf_7 : decode cX4_isOf 7 = .ok (.aload_n 0, 1) := by decide +kernel
theorem dX4_isOf_8 : decode cX4_isOf 8 = .ok (.getfield 19, 3) := by decide +kernel
theorem dX4_isOf_11 : decode cX4_isOf 11 = .ok (.aload_n 1, 1) := by decide +kernel
theorem dX4_isOf_12 : decode cX4_isOf 12 = .ok (.if_acmp .ne 7, 3) := by decide +kernel
theorem dX4_isOf_15 : decode cX4_isOf 15 = .ok (.iconst 1, 1) := by decide +kernel
theorem dX4_isOf_16 : decode cX4_isOf 16 = .ok (.goto 4, 3) := by decide +kernel
theorem dX4_isOf_19 : decode cX4_isOf 19 = .ok (.iconst 0, 1) := by decide +kernel
theorem dX4_isOf_20 : decode cX4_isOf 20 = .ok (.ireturn, 1) := by decide +kernel
theorem dX4_read_0 : decode cX4_read 0 = .ok (.iload_n 1, 1) := by decide +kernel
theorem dX4_read_1 : decode cX4_read 1 = .ok (.bipush 16, 2) := by decide +kernel
theorem dX4_read_3 : decode cX4_read 3 = .ok (.invokestatic 23, 3) := by decide +kernel
theorem dX4_read_6 : decode cX4_read 6 = .ok (.istore_n 2, 1) := by decide +kernel
theorem dX4_read_7 : decode cX4_read 7 = .ok (.iload_n 2, 1) := by decide +kernel
theorem dX4_read_8 : decode cX4_read 8 = .ok (.ifCond .lt 21, 3) := by decide +kernel
theorem dX4_read_11 : decode cX4_read 11 = .ok (.iload_n 2, 1) := by decide +kernel
theorem dX4_read_12 : decode cX4_read 12 = .ok (.aload_n 0, 1) := by decide +kernel
theorem dX4_read_13 : decode cX4_read 13 = .ok (.getfield 9, 3) := by decide +kernel
theorem dX4_read_16 : decode cX4_read 16 = .ok (.arraylength, 1) := by decide +kernel
theorem dX4_read_17 : decode cX4_read 17 = .ok (.if_icmp .ge 12, 3) := by decide +kernel
theorem dX4_read_20 : decode cX4_read 20 = .ok (.aload_n 0, 1) := by decide +kernel
theorem dX4_read_21 : decode cX4_read 21 = .ok (.getfield 9, 3) := by decide +kernel
theorem dX4_read_24 : decode cX4_read 24 = .ok (.iload_n 2, 1) := by decide +kernel
theorem dX4_read_25 : decode cX4_read 25 = .ok (.iaload, 1) := by decide +kernel
theorem dX4_read_26 : decode cX4_read 26 = .ok (.goto 4, 3) := by decide +kernel
theorem dX4_read_29 : decode cX4_read 29 = .ok (.iconst 0, 1) := by decide +kernel
theorem dX4_read_30 : decode cX4_read 30 = .ok (.ireturn, 1) := by decide +kernel
theorem dX4_write_0 : decode cX4_write 0 = .ok (.iload_n 1, 1) := by decide +kernel
theorem dX4_write_1 : decode cX4_write 1 = .ok (.bipush 16, 2) := by decide +kernel
theorem dX4_write_3 : decode cX4_write 3 = .ok (.invokestatic 23, 3) := by decide +kernel
theorem dX4_write_6 : decode cX4_write 6 = .ok (.istore_n 3, 1) := by decide +kernel
theorem dX4_write_7 : decode cX4_write 7 = .ok (.iload_n 3, 1) := by decide +kernel
theorem dX4_write_8 : decode cX4_write 8 = .ok (.ifCond .lt 19, 3) := by decide +kernel
theorem dX4_write_11 : decode cX4_write 11 = .ok (.iload_n 3, 1) := by decide +kernel
theorem dX4_write_12 : decode cX4_write 12 = .ok (.aload_n 0, 1) := by decide +kernel
theorem dX4_write_13 : decode cX4_write 13 = .ok (.getfield 9, 3) := by decide +kernel
theorem dX4_write_16 : decode cX4_write 16 = .ok (.arraylength, 1) := by decide +kernel
theorem dX4_write_17 : decode cX4_write 17 = .ok (.if_icmp .ge 10, 3) := by decide +kernel
theorem dX4_write_20 : decode cX4_write 20 = .ok (.aload_n 0, 1) := by decide +kernel
theorem dX4_write_21 : decode cX4_write 21 = .ok (.getfield 9, 3) := by decide +kernel
theorem dX4_write_24 : decode cX4_write 24 = .ok (.iload_n 3, 1) := by decide +kernel
theorem dX4_write_25 : decode cX4_write 25 = .ok (.iload_n 2, 1) := by decide +kernel
theorem dX4_write_26 : decode cX4_write 26 = .ok (.iastore, 1) := by decide +kernel
theorem dX4_write_27 : decode cX4_write 27 = .ok (.return_, 1) := by decide +kernel
theorem dX4_vacate_0 : decode cX4_vacate 0 = .ok (.aload_n 0, 1) := by decide +kernel
theorem dX4_vacate_1 : decode cX4_vacate 1 = .ok (.aconst_null, 1) := by decide +kernel
theorem dX4_vacate_2 : decode cX4_vacate 2 = .ok (.putfield 19, 3) := by decide +kernel
theorem dX4_vacate_5 : decode cX4_vacate 5 = .ok (.aload_n 0, 1) := by decide +kernel
theorem dX4_vacate_6 : decode cX4_vacate 6 = .ok (.iconst 0, 1) := by decide +kernel
theorem dX4_vacate_7 : decode cX4_vacate 7 = .ok (.putfield 15, 3) := by decide +kernel
theorem dX4_vacate_10 : decode cX4_vacate 10 = .ok (.aload_n 0, 1) := by decide +kernel
theorem dX4_vacate_11 : decode cX4_vacate 11 = .ok (.iconst 0, 1) := by decide +kernel
theorem dX4_vacate_12 : decode cX4_vacate 12 = .ok (.putfield 29, 3) := by decide +kernel
theorem dX4_vacate_15 : decode cX4_vacate 15 = .ok (.aload_n 0, 1) := by decide +kernel
theorem dX4_vacate_16 : decode cX4_vacate 16 = .ok (.iconst 0, 1) := by decide +kernel
theorem dX4_vacate_17 : decode cX4_vacate 17 = .ok (.putfield 32, 3) := by decide +kernel
theorem dX4_vacate_20 : decode cX4_vacate 20 = .ok (.return_, 1) := by decide +kernel
theorem dX4_occupy_0 : decode cX4_occupy 0 = .ok (.aload_n 0, 1) := by decide +kernel
theorem dX4_occupy_1 : decode cX4_occupy 1 = .ok (.aload_n 1, 1) := by decide +kernel
theorem dX4_occupy_2 : decode cX4_occupy 2 = .ok (.putfield 19, 3) := by decide +kernel
theorem dX4_occupy_5 : decode cX4_occupy 5 = .ok (.aload_n 0, 1) := by decide +kernel
theorem dX4_occupy_6 : decode cX4_occupy 6 = .ok (.iload_n 2, 1) := by decide +kernel
theorem dX4_occupy_7 : decode cX4_occupy 7 = .ok (.putfield 35, 3) := by decide +kernel
theorem dX4_occupy_10 : decode cX4_occupy 10 = .ok (.aload_n 0, 1) := by decide +kernel
theorem dX4_occupy_11 : decode cX4_occupy 11 = .ok (.iconst 0, 1) := by decide +kernel
theorem dX4_occupy_12 : decode cX4_occupy 12 = .ok (.putfield 15, 3) := by decide +kernel
theorem dX4_occupy_15 : decode cX4_occupy 15 = .ok (.aload_n 0, 1) := by decide +kernel
theorem dX4_occupy_16 : decode cX4_occupy 16 = .ok (.iconst 0, 1) := by decide +kernel
theorem dX4_occupy_17 : decode cX4_occupy 17 = .ok (.putfield 29, 3) := by decide +kernel
theorem dX4_occupy_20 : decode cX4_occupy 20 = .ok (.aload_n 0, 1) := by decide +kernel
theorem dX4_occupy_21 : decode cX4_occupy 21 = .ok (.iconst 1, 1) := by decide +kernel
theorem dX4_occupy_22 : decode cX4_occupy 22 = .ok (.putfield 32, 3) := by decide +kernel
theorem dX4_occupy_25 : decode cX4_occupy 25 = .ok (.aload_n 0, 1) := by decide +kernel
theorem dX4_occupy_26 : decode cX4_occupy 26 = .ok (.iload_n 3, 1) := by decide +kernel
theorem dX4_occupy_27 : decode cX4_occupy 27 = .ok (.putfield 39, 3) := by decide +kernel
theorem dX4_occupy_30 : decode cX4_occupy 30 = .ok (.return_, 1) := by decide +kernel
theorem dX4_tell_0 : decode cX4_tell 0 = .ok (.iload_n 1, 1) := by decide +kernel
theorem dX4_tell_1 : decode cX4_tell 1 = .ok (.tableswitch 57 1 4 #[31, 36, 44, 52], 31) := by decide +kernel
theorem dX4_tell_32 : decode cX4_tell 32 = .ok (.aload_n 0, 1) := by decide +kernel
theorem dX4_tell_33 : decode cX4_tell 33 = .ok (.getfield 35, 3) := by decide +kernel
theorem dX4_tell_36 : decode cX4_tell 36 = .ok (.ireturn, 1) := by decide +kernel
theorem dX4_tell_37 : decode cX4_tell 37 = .ok (.aload_n 0, 1) := by decide +kernel
theorem dX4_tell_38 : decode cX4_tell 38 = .ok (.getfield 29, 3) := by decide +kernel
theorem dX4_tell_41 : decode cX4_tell 41 = .ok (.invokestatic 42, 3) := by decide +kernel
theorem dX4_tell_44 : decode cX4_tell 44 = .ok (.ireturn, 1) := by decide +kernel
theorem dX4_tell_45 : decode cX4_tell 45 = .ok (.aload_n 0, 1) := by decide +kernel
theorem dX4_tell_46 : decode cX4_tell 46 = .ok (.getfield 32, 3) := by decide +kernel
theorem dX4_tell_49 : decode cX4_tell 49 = .ok (.invokestatic 42, 3) := by decide +kernel
theorem dX4_tell_52 : decode cX4_tell 52 = .ok (.ireturn, 1) := by decide +kernel
theorem dX4_tell_53 : decode cX4_tell 53 = .ok (.aload_n 0, 1) := by decide +kernel
theorem dX4_tell_54 : decode cX4_tell 54 = .ok (.getfield 39, 3) := by decide +kernel
theorem dX4_tell_57 : decode cX4_tell 57 = .ok (.ireturn, 1) := by decide +kernel
theorem dX4_tell_58 : decode cX4_tell 58 = .ok (.iconst (-1), 1) := by decide +kernel
theorem dX4_tell_59 : decode cX4_tell 59 = .ok (.ireturn, 1) := by decide +kernel
theorem dX5_init_0 : decode cX5_init 0 = .ok (.aload_n 0, 1) := by decide +kernel
theorem dX5_init_1 : decode cX5_init 1 = .ok (.invokespecial 3, 3) := by decide +kernel
theorem dX5_init_4 : decode cX5_init 4 = .ok (.aload_n 0, 1) := by decide +kernel
theorem dX5_init_5 : decode cX5_init 5 = .ok (.sipush 128, 3) := by decide +kernel
theorem dX5_init_8 : decode cX5_init 8 = .ok (.newarray .int, 2) := by decide +kernel
theorem dX5_init_10 : decode cX5_init 10 = .ok (.putfield 9, 3) := by decide +kernel
theorem dX5_init_13 : decode cX5_init 13 = .ok (.aload_n 0, 1) := by decide +kernel
theorem dX5_init_14 : decode cX5_init 14 = .ok (.bipush 40, 2) := by decide +kernel
theorem dX5_init_16 : decode cX5_init 16 = .ok (.newarray .int, 2) := by decide +kernel
theorem dX5_init_18 : decode cX5_init 18 = .ok (.putfield 15, 3) := by decide +kernel
theorem dX5_init_21 : decode cX5_init 21 = .ok (.aload_n 0, 1) := by decide +kernel
theorem dX5_init_22 : decode cX5_init 22 = .ok (.new 18, 3) := by decide +kernel
theorem dX5_init_25 : decode cX5_init 25 = .ok (.dup, 1) := by decide +kernel
theorem dX5_init_26 : decode cX5_init 26 = .ok (.bipush 24, 2) := by decide +kernel
theorem dX5_init_28 : decode cX5_init 28 = .ok (.invokespecial 20, 3) := by decide +kernel
theorem dX5_init_31 : decode cX5_init 31 = .ok (.putfield 23, 3) := by decide +kernel
theorem dX5_init_34 : decode cX5_init 34 = .ok (.aload_n 0, 1) := by decide +kernel
theorem dX5_init_35 : decode cX5_init 35 = .ok (.iconst 3, 1) := by decide +kernel
theorem dX5_init_36 : decode cX5_init 36 = .ok (.newarray .int, 2) := by decide +kernel
theorem dX5_init_38 : decode cX5_init 38 = .ok (.putfield 27, 3) := by decide +kernel
theorem dX5_init_41 : decode cX5_init 41 = .ok (.aload_n 0, 1) := by decide +kernel
theorem dX5_init_42 : decode cX5_init 42 = .ok (.iconst 3, 1) := by decide +kernel
theorem dX5_init_43 : decode cX5_init 43 = .ok (.newarray .int, 2) := by decide +kernel
theorem dX5_init_45 : decode cX5_init 45 = .ok (.putfield 30, 3) := by decide +kernel
theorem dX5_init_48 : decode cX5_init 48 = .ok (.aload_n 0, 1) := by decide +kernel
theorem dX5_init_49 : decode cX5_init 49 = .ok (.iconst 0, 1) := by decide +kernel
theorem dX5_init_50 : decode cX5_init 50 = .ok (.putfield 33, 3) := by decide +kernel
theorem dX5_init_53 : decode cX5_init 53 = .ok (.aload_n 0, 1) := by decide +kernel
theorem dX5_init_54 : decode cX5_init 54 = .ok (.iload_n 1, 1) := by decide +kernel
theorem dX5_init_55 : decode cX5_init 55 = .ok (.putfield 37, 3) := by decide +kernel
theorem dX5_init_58 : decode cX5_init 58 = .ok (.return_, 1) := by decide +kernel
theorem dX5_renew_0 : decode cX5_renew 0 = .ok (.aload_n 0, 1) := by decide +kernel
theorem dX5_renew_1 : decode cX5_renew 1 = .ok (.iload_n 1, 1) := by decide +kernel
theorem dX5_renew_2 : decode cX5_renew 2 = .ok (.putfield 40, 3) := by decide +kernel
theorem dX5_renew_5 : decode cX5_renew 5 = .ok (.aload_n 0, 1) := by decide +kernel
theorem dX5_renew_6 : decode cX5_renew 6 = .ok (.iconst 1, 1) := by decide +kernel
theorem dX5_renew_7 : decode cX5_renew 7 = .ok (.putfield 33, 3) := by decide +kernel
theorem dX5_renew_10 : decode cX5_renew 10 = .ok (.aload_n 0, 1) := by decide +kernel
theorem dX5_renew_11 : decode cX5_renew 11 = .ok (.iconst 0, 1) := by decide +kernel
theorem dX5_renew_12 : decode cX5_renew 12 = .ok (.putfield 43, 3) := by decide +kernel
theorem dX5_renew_15 : decode cX5_renew 15 = .ok (.aload_n 0, 1) := by decide +kernel
theorem dX5_renew_16 : decode cX5_renew 16 = .ok (.iconst 0, 1) := by decide +kernel
theorem dX5_renew_17 : decode cX5_renew 17 = .ok (.putfield 46, 3) := by decide +kernel
theorem dX5_renew_20 : decode cX5_renew 20 = .ok (.aload_n 0, 1) := by decide +kernel
theorem dX5_renew_21 : decode cX5_renew 21 = .ok (.iconst 0, 1) := by decide +kernel
theorem dX5_renew_22 : decode cX5_renew 22 = .ok (.putfield 49, 3) := by decide +kernel
theorem dX5_renew_25 : decode cX5_renew 25 = .ok (.aload_n 0, 1) := by decide +kernel
theorem dX5_renew_26 : decode cX5_renew 26 = .ok (.iconst 0, 1) := by decide +kernel
theorem dX5_renew_27 : decode cX5_renew 27 = .ok (.putfield 52, 3) := by decide +kernel
theorem dX5_renew_30 : decode cX5_renew 30 = .ok (.aload_n 0, 1) := by decide +kernel
theorem dX5_renew_31 : decode cX5_renew 31 = .ok (.iconst 0, 1) := by decide +kernel
theorem dX5_renew_32 : decode cX5_renew 32 = .ok (.putfield 55, 3) := by decide +kernel
theorem dX5_renew_35 : decode cX5_renew 35 = .ok (.aload_n 0, 1) := by decide +kernel
theorem dX5_renew_36 : decode cX5_renew 36 = .ok (.iconst 0, 1) := by decide +kernel
theorem dX5_renew_37 : decode cX5_renew 37 = .ok (.putfield 58, 3) := by decide +kernel
theorem dX5_renew_40 : decode cX5_renew 40 = .ok (.aload_n 0, 1) := by decide +kernel
theorem dX5_renew_41 : decode cX5_renew 41 = .ok (.iconst 0, 1) := by decide +kernel
theorem dX5_renew_42 : decode cX5_renew 42 = .ok (.putfield 61, 3) := by decide +kernel
theorem dX5_renew_45 : decode cX5_renew 45 = .ok (.aload_n 0, 1) := by decide +kernel
theorem dX5_renew_46 : decode cX5_renew 46 = .ok (.iconst 0, 1) := by decide +kernel
theorem dX5_renew_47 : decode cX5_renew 47 = .ok (.putfield 64, 3) := by decide +kernel
theorem dX5_renew_50 : decode cX5_renew 50 = .ok (.aload_n 0, 1) := by decide +kernel
theorem dX5_renew_51 : decode cX5_renew 51 = .ok (.iconst 0, 1) := by decide +kernel
theorem dX5_renew_52 : decode cX5_renew 52 = .ok (.putfield 68, 3) := by decide +kernel
theorem dX5_renew_55 : decode cX5_renew 55 = .ok (.aload_n 0, 1) := by decide +kernel
theorem dX5_renew_56 : decode cX5_renew 56 = .ok (.getfield 23, 3) := by decide +kernel
theorem dX5_renew_59 : decode cX5_renew 59 = .ok (.invokevirtual 71, 3) := by decide +kernel
theorem dX5_renew_62 : decode cX5_renew 62 = .ok (.iconst 0, 1) := by decide +kernel
theorem dX5_renew_63 : decode cX5_renew 63 = .ok (.istore_n 2, 1) := by decide +kernel
theorem dX5_renew_64 : decode cX5_renew 64 = .ok (.iload_n 2, 1) := by decide +kernel
theorem dX5_renew_65 : decode cX5_renew 65 = .ok (.aload_n 0, 1) := by decide +kernel
theorem dX5_renew_66 : decode cX5_renew 66 = .ok (.getfield 30, 3) := by decide +kernel
theorem dX5_renew_69 : decode cX5_renew 69 = .ok (.arraylength, 1) := by decide +kernel
theorem dX5_renew_70 : decode cX5_renew 70 = .ok (.if_icmp .ge 16, 3) := by decide +kernel
theorem dX5_renew_73 : decode cX5_renew 73 = .ok (.aload_n 0, 1) := by decide +kernel
theorem dX5_renew_74 : decode cX5_renew 74 = .ok (.getfield 30, 3) := by decide +kernel
theorem dX5_renew_77 : decode cX5_renew 77 = .ok (.iload_n 2, 1) := by decide +kernel
theorem dX5_renew_78 : decode cX5_renew 78 = .ok (.iconst 0, 1) := by decide +kernel
theorem dX5_renew_79 : decode cX5_renew 79 = .ok (.iastore, 1) := by decide +kernel
theorem dX5_renew_80 : decode cX5_renew 80 = .ok (.iinc 2 1, 3) := by decide +kernel
theorem dX5_renew_83 : decode cX5_renew 83 = .ok (.goto (-19), 3) := by decide +kernel
theorem dX5_renew_86 : decode cX5_renew 86 = .ok (.return_, 1) := by decide +kernel
theorem dX5_claim_0 : decode cX5_claim 0 = .ok (.aload_n 0, 1) := by decide +kernel
theorem dX5_claim_1 : decode cX5_claim 1 = .ok (.getfield 27, 3) := by decide +kernel
theorem dX5_claim_4 : decode cX5_claim 4 = .ok (.iconst 0, 1) := by decide +kernel
theorem dX5_claim_5 : decode cX5_claim 5 = .ok (.iload_n 1, 1) := by decide +kernel
theorem dX5_claim_6 : decode cX5_claim 6 = .ok (.iconst 2, 1) := by decide +kernel
theorem dX5_claim_7 : decode cX5_claim 7 = .ok (.irem, 1) := by decide +kernel
theorem dX5_claim_8 : decode cX5_claim 8 = .ok (.iastore, 1) := by decide +kernel
theorem dX5_claim_9 : decode cX5_claim 9 = .ok (.aload_n 0, 1) := by decide +kernel
theorem dX5_claim_10 : decode cX5_claim 10 = .ok (.getfield 27, 3) := by decide +kernel
theorem dX5_claim_13 : decode cX5_claim 13 = .ok (.iconst 1, 1) := by decide +kernel
theorem dX5_claim_14 : decode cX5_claim 14 = .ok (.iload_n 1, 1) := by decide +kernel
theorem dX5_claim_15 : decode cX5_claim 15 = .ok (.iconst 2, 1) := by decide +kernel
theorem dX5_claim_16 : decode cX5_claim 16 = .ok (.idiv, 1) := by decide +kernel
theorem dX5_claim_17 : decode cX5_claim 17 = .ok (.iconst 2, 1) := by decide +kernel
theorem dX5_claim_18 : decode cX5_claim 18 = .ok (.irem, 1) := by decide +kernel
theorem dX5_claim_19 : decode cX5_claim 19 = .ok (.iastore, 1) := by decide +kernel
theorem dX5_claim_20 : decode cX5_claim 20 = .ok (.aload_n 0, 1) := by decide +kernel
theorem dX5_claim_21 : decode cX5_claim 21 = .ok (.getfield 27, 3) := by decide +kernel
theorem dX5_claim_24 : decode cX5_claim 24 = .ok (.iconst 2, 1) := by decide +kernel
theorem dX5_claim_25 : decode cX5_claim 25 = .ok (.iload_n 1, 1) := by decide +kernel
theorem dX5_claim_26 : decode cX5_claim 26 = .ok (.iconst 4, 1) := by decide +kernel
theorem dX5_claim_27 : decode cX5_claim 27 = .ok (.idiv, 1) := by decide +kernel
theorem dX5_claim_28 : decode cX5_claim 28 = .ok (.iastore, 1) := by decide +kernel
theorem dX5_claim_29 : decode cX5_claim 29 = .ok (.return_, 1) := by decide +kernel
theorem dX5_load_0 : decode cX5_load 0 = .ok (.iconst 0, 1) := by decide +kernel
theorem dX5_load_1 : decode cX5_load 1 = .ok (.istore 4, 2) := by decide +kernel
theorem dX5_load_3 : decode cX5_load 3 = .ok (.iload 4, 2) := by decide +kernel
theorem dX5_load_5 : decode cX5_load 5 = .ok (.aload_n 0, 1) := by decide +kernel
theorem dX5_load_6 : decode cX5_load 6 = .ok (.getfield 9, 3) := by decide +kernel
theorem dX5_load_9 : decode cX5_load 9 = .ok (.arraylength, 1) := by decide +kernel
theorem dX5_load_10 : decode cX5_load 10 = .ok (.if_icmp .ge 32, 3) := by decide +kernel
theorem dX5_load_13 : decode cX5_load 13 = .ok (.aload_n 0, 1) := by decide +kernel
theorem dX5_load_14 : decode cX5_load 14 = .ok (.getfield 9, 3) := by decide +kernel
theorem dX5_load_17 : decode cX5_load 17 = .ok (.iload 4, 2) := by decide +kernel
theorem dX5_load_19 : decode cX5_load 19 = .ok (.iload 4, 2) := by decide +kernel
theorem dX5_load_21 : decode cX5_load 21 = .ok (.iload_n 2, 1) := by decide +kernel
theorem dX5_load_22 : decode cX5_load 22 = .ok (.if_icmp .ge 12, 3) := by decide +kernel
theorem dX5_load_25 : decode cX5_load 25 = .ok (.aload_n 1, 1) := by decide +kernel
theorem dX5_load_26 : decode cX5_load 26 = .ok (.iload 4, 2) := by decide +kernel
theorem dX5_load_28 : decode cX5_load 28 = .ok (.invokevirtual 74, 3) := by decide +kernel
theorem dX5_load_31 : decode cX5_load 31 = .ok (.goto 4, 3) := by decide +kernel
theorem dX5_load_34 : decode cX5_load 34 = .ok (.iconst 0, 1) := by decide +kernel
theorem dX5_load_35 : decode cX5_load 35 = .ok (.iastore, 1) := by decide +kernel
theorem dX5_load_36 : decode cX5_load 36 = .ok (.iinc 4 1, 3) := by decide +kernel
theorem dX5_load_39 : decode cX5_load 39 = .ok (.goto (-36), 3) := by decide +kernel
theorem dX5_load_42 : decode cX5_load 42 = .ok (.aload_n 0, 1) := by decide +kernel
theorem dX5_load_43 : decode cX5_load 43 = .ok (.iload_n 3, 1) := by decide +kernel
theorem dX5_load_44 : decode cX5_load 44 = .ok (.iconst 0, 1) := by decide +kernel
theorem dX5_load_45 : decode cX5_load 45 = .ok (.aload_n 0, 1) := by decide +kernel
theorem dX5_load_46 : decode cX5_load 46 = .ok (.getfield 15, 3) := by decide +kernel
theorem dX5_load_49 : decode cX5_load 49 = .ok (.arraylength, 1) := by decide +kernel
theorem dX5_load_50 : decode cX5_load 50 = .ok (.invokestatic 78, 3) := by decide +kernel
theorem dX5_load_53 : decode cX5_load 53 = .ok (.putfield 82, 3) := by decide +kernel
theorem dX5_load_56 : decode cX5_load 56 = .ok (.iconst 0, 1) := by decide +kernel
theorem dX5_load_57 : decode cX5_load 57 = .ok (.istore 4, 2) := by decide +kernel
theorem dX5_load_59 : decode cX5_load 59 = .ok (.iload 4, 2) := by decide +kernel
theorem dX5_load_61 : decode cX5_load 61 = .ok (.aload_n 0, 1) := by decide +kernel
theorem dX5_load_62 : decode cX5_load 62 = .ok (.getfield 82, 3) := by decide +kernel
theorem dX5_load_65 : decode cX5_load 65 = .ok (.if_icmp .ge 34, 3) := by decide +kernel
theorem dX5_load_68 : decode cX5_load 68 = .ok (.iload 4, 2) := by decide +kernel
theorem dX5_load_70 : decode cX5_load 70 = .ok (.aload_n 0, 1) := by decide +kernel
theorem dX5_load_71 : decode cX5_load 71 = .ok (.getfield 15, 3) := by decide +kernel
theorem dX5_load_74 : decode cX5_load 74 = .ok (.arraylength, 1) := by decide +kernel
theorem dX5_load_75 : decode cX5_load 75 = .ok (.if_icmp .ge 24, 3) := by decide +kernel
theorem dX5_load_78 : decode cX5_load 78 = .ok (.aload_n 0, 1) := by decide +kernel
theorem dX5_load_79 : decode cX5_load 79 = .ok (.getfield 15, 3) := by decide +kernel
theorem dX5_load_82 : decode cX5_load 82 = .ok (.iload 4, 2) := by decide +kernel
theorem dX5_load_84 : decode cX5_load 84 = .ok (.aload_n 1, 1) := by decide +kernel
theorem dX5_load_85 : decode cX5_load 85 = .ok (.iload_n 2, 1) := by decide +kernel
theorem dX5_load_86 : decode cX5_load 86 = .ok (.iload 4, 2) := by decide +kernel
theorem dX5_load_88 : decode cX5_load 88 = .ok (.iadd, 1) := by decide +kernel
theorem dX5_load_89 : decode cX5_load 89 = .ok (.invokevirtual 74, 3) := by decide +kernel
theorem dX5_load_92 : decode cX5_load 92 = .ok (.iastore, 1) := by decide +kernel
theorem dX5_load_93 : decode cX5_load 93 = .ok (.iinc 4 1, 3) := by decide +kernel
theorem dX5_load_96 : decode cX5_load 96 = .ok (.goto (-37), 3) := by decide +kernel
theorem dX5_load_99 : decode cX5_load 99 = .ok (.return_, 1) := by decide +kernel
theorem dX5_has_0 : decode cX5_has 0 = .ok (.iload_n 1, 1) := by decide +kernel
theorem dX5_has_1 : decode cX5_has 1 = .ok (.ifCond .lt 18, 3) := by decide +kernel
theorem dX5_has_4 : decode cX5_has 4 = .ok (.iload_n 1, 1) := by decide +kernel
theorem dX5_has_5 : decode cX5_has 5 = .ok (.aload_n 0, 1) := by decide +kernel
theorem dX5_has_6 : decode cX5_has 6 = .ok (.getfield 85, 3) := by decide +kernel
theorem dX5_has_9 : decode cX5_has 9 = .ok (.bipush 16, 2) := by decide +kernel
theorem dX5_has_11 : decode cX5_has 11 = .ok (.imul, 1) := by decide +kernel
theorem dX5_has_12 : decode cX5_has 12 = .ok (.if_icmp .ge 7, 3) := by decide +kernel
theorem dX5_has_15 : decode cX5_has 15 = .ok (.iconst 1, 1) := by decide +kernel
theorem dX5_has_16 : decode cX5_has 16 = .ok (.goto 4, 3) := by decide +kernel
theorem dX5_has_19 : decode cX5_has 19 = .ok (.iconst 0, 1) := by decide +kernel
theorem dX5_has_20 : decode cX5_has 20 = .ok (.ireturn, 1) := by decide +kernel
theorem dX5_isAsOf_0 : decode cX5_isAsOf 0 = .ok (.aload_n 0, 1) := by decide +kernel
theorem dX5_isAsOf_1 : decode cX5_isAsOf 1 = .ok (.getfield 40, 3) := by decide +kernel
theorem dX5_isAsOf_4 : decode cX5_isAsOf 4 = .ok (.iload_n 1, 1) := by decide +kernel
theorem dX5_isAsOf_5 : decode cX5_isAsOf 5 = .ok (.if_icmp .ne 15, 3) := by decide +kernel
theorem dX5_isAsOf_8 : decode cX5_isAsOf 8 = .ok (.aload_n 0, 1) := by decide +kernel
theorem dX5_isAsOf_9 : decode cX5_isAsOf 9 = .ok (.getfield 33, 3) := by decide +kernel
theorem dX5_isAsOf_12 : decode cX5_isAsOf 12 = .ok (.iconst 3, 1) := by decide +kernel
theorem dX5_isAsOf_13 : decode cX5_isAsOf 13 = .ok (.if_icmp .eq 7, 3) := by decide +kernel
theorem dX5_isAsOf_16 : decode cX5_isAsOf 16 = .ok (.iconst 1, 1) := by decide +kernel
theorem dX5_isAsOf_17 : decode cX5_isAsOf 17 = .ok (.goto 4, 3) := by decide +kernel
theorem dX5_isAsOf_20 : decode cX5_isAsOf 20 = .ok (.iconst 0, 1) := by decide +kernel
theorem dX5_isAsOf_21 : decode cX5_isAsOf 21 = .ok (.ireturn, 1) := by decide +kernel
theorem dX5_onDrum_0 : decode cX5_onDrum 0 = .ok (.iload_n 1, 1) := by decide +kernel
theorem dX5_onDrum_1 : decode cX5_onDrum 1 = .ok (.ifCond .lt 21, 3) := by decide +kernel
theorem dX5_onDrum_4 : decode cX5_onDrum 4 = .ok (.iload_n 1, 1) := by decide +kernel
theorem dX5_onDrum_5 : decode cX5_onDrum 5 = .ok (.aload_n 0, 1) := by decide +kernel
theorem dX5_onDrum_6 : decode cX5_onDrum 6 = .ok (.getfield 9, 3) := by decide +kernel
theorem dX5_onDrum_9 : decode cX5_onDrum 9 = .ok (.arraylength, 1) := by decide +kernel
theorem dX5_onDrum_10 : decode cX5_onDrum 10 = .ok (.if_icmp .ge 12, 3) := by decide +kernel
theorem dX5_onDrum_13 : decode cX5_onDrum 13 = .ok (.aload_n 0, 1) := by decide +kernel
theorem dX5_onDrum_14 : decode cX5_onDrum 14 = .ok (.getfield 9, 3) := by decide +kernel
theorem dX5_onDrum_17 : decode cX5_onDrum 17 = .ok (.iload_n 1, 1) := by decide +kernel
theorem dX5_onDrum_18 : decode cX5_onDrum 18 = .ok (.iaload, 1) := by decide +kernel
theorem dX5_onDrum_19 : decode cX5_onDrum 19 = .ok (.goto 4, 3) := by decide +kernel
theorem dX5_onDrum_22 : decode cX5_onDrum 22 = .ok (.iconst 0, 1) := by decide +kernel
theorem dX5_onDrum_23 : decode cX5_onDrum 23 = .ok (.ireturn, 1) := by decide +kernel
theorem dX5_putOnDrum_0 : decode cX5_putOnDrum 0 = .ok (.iload_n 1, 1) := by decide +kernel
theorem dX5_putOnDrum_1 : decode cX5_putOnDrum 1 = .ok (.ifCond .lt 19, 3) := by decide +kernel
theorem dX5_putOnDrum_4 : decode cX5_putOnDrum 4 = .ok (.iload_n 1, 1) := by decide +kernel
theorem dX5_putOnDrum_5 : decode cX5_putOnDrum 5 = .ok (.aload_n 0, 1) := by decide +kernel
theorem dX5_putOnDrum_6 : decode cX5_putOnDrum 6 = .ok (.getfield 9, 3) := by decide +kernel
theorem dX5_putOnDrum_9 : decode cX5_putOnDrum 9 = .ok (.arraylength, 1) := by decide +kernel
theorem dX5_putOnDrum_10 : decode cX5_putOnDrum 10 = .ok (.if_icmp .ge 10, 3) := by decide +kernel
theorem dX5_putOnDrum_13 : decode cX5_putOnDrum 13 = .ok (.aload_n 0, 1) := by decide +kernel
theorem dX5_putOnDrum_14 : decode cX5_putOnDrum 14 = .ok (.getfield 9, 3) := by decide +kernel
