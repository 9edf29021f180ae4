theorem dX0_init_0 : decode cX0_init 0 = .ok (.aload_n 0, 1) := by decide +kernel
theorem dX0_init_1 : decode cX0_init 1 = .ok (.invokespecial 3, 3) := by decide +kernel
theorem dX0_init_4 : decode cX0_init 4 = .ok (.aload_n 0, 1) := by decide +kernel
theorem dX0_init_5 : decode cX0_init 5 = .ok (.new 9, 3) := by decide +kernel
theorem dX0_init_8 : decode cX0_init 8 = .ok (.dup, 1) := by decide +kernel
theorem dX0_init_9 : decode cX0_init 9 = .ok (.bipush 8, 2) := by decide +kernel
theorem dX0_init_11 : decode cX0_init 11 = .ok (.bipush 6, 2) := by decide +kernel
theorem dX0_init_13 : decode cX0_init 13 = .ok (.invokespecial 11, 3) := by decide +kernel
theorem dX0_init_16 : decode cX0_init 16 = .ok (.putfield 14, 3) := by decide +kernel
theorem dX0_init_19 : decode cX0_init 19 = .ok (.aload_n 0, 1) := by decide +kernel
theorem dX0_init_20 : decode cX0_init 20 = .ok (.new 9, 3) := by decide +kernel
theorem dX0_init_23 : decode cX0_init 23 = .ok (.dup, 1) := by decide +kernel
theorem dX0_init_24 : decode cX0_init 24 = .ok (.bipush 7, 2) := by decide +kernel
theorem dX0_init_26 : decode cX0_init 26 = .ok (.iconst 4, 1) := by decide +kernel
theorem dX0_init_27 : decode cX0_init 27 = .ok (.invokespecial 11, 3) := by decide +kernel
theorem dX0_init_30 : decode cX0_init 30 = .ok (.putfield 20, 3) := by decide +kernel
theorem dX0_init_33 : decode cX0_init 33 = .ok (.aload_n 0, 1) := by decide +kernel
theorem dX0_init_34 : decode cX0_init 34 = .ok (.aload_n 1, 1) := by decide +kernel
theorem dX0_init_35 : decode cX0_init 35 = .ok (.putfield 23, 3) := by decide +kernel
theorem dX0_init_38 : decode cX0_init 38 = .ok (.return_, 1) := by decide +kernel
theorem dX0_begin_0 : decode cX0_begin 0 = .ok (.aload_n 0, 1) := by decide +kernel
theorem dX0_begin_1 : decode cX0_begin 1 = .ok (.getfield 14, 3) := by decide +kernel
theorem dX0_begin_4 : decode cX0_begin 4 = .ok (.aload_n 1, 1) := by decide +kernel
theorem dX0_begin_5 : decode cX0_begin 5 = .ok (.invokevirtual 26, 3) := by decide +kernel
theorem dX0_begin_8 : decode cX0_begin 8 = .ok (.aload_n 0, 1) := by decide +kernel
theorem dX0_begin_9 : decode cX0_begin 9 = .ok (.getfield 20, 3) := by decide +kernel
theorem dX0_begin_12 : decode cX0_begin 12 = .ok (.aload_n 2, 1) := by decide +kernel
theorem dX0_begin_13 : decode cX0_begin 13 = .ok (.invokevirtual 26, 3) := by decide +kernel
theorem dX0_begin_16 : decode cX0_begin 16 = .ok (.aload_n 0, 1) := by decide +kernel
theorem dX0_begin_17 : decode cX0_begin 17 = .ok (.iconst 0, 1) := by decide +kernel
theorem dX0_begin_18 : decode cX0_begin 18 = .ok (.putfield 30, 3) := by decide +kernel
theorem dX0_begin_21 : decode cX0_begin 21 = .ok (.aload_n 0, 1) := by decide +kernel
theorem dX0_begin_22 : decode cX0_begin 22 = .ok (.iconst 0, 1) := by decide +kernel
theorem dX0_begin_23 : decode cX0_begin 23 = .ok (.putfield 34, 3) := by decide +kernel
theorem dX0_begin_26 : decode cX0_begin 26 = .ok (.aload_n 0, 1) := by decide +kernel
theorem dX0_begin_27 : decode cX0_begin 27 = .ok (.iconst 0, 1) := by decide +kernel
theorem dX0_begin_28 : decode cX0_begin 28 = .ok (.putfield 37, 3) := by decide +kernel
theorem dX0_begin_31 : decode cX0_begin 31 = .ok (.return_, 1) := by decide +kernel
theorem dX0_copyFrom_0 : decode cX0_copyFrom 0 = .ok (.aload_n 0, 1) := by decide +kernel
theorem dX0_copyFrom_1 : decode cX0_copyFrom 1 = .ok (.getfield 14, 3) := by decide +kernel
theorem dX0_copyFrom_4 : decode cX0_copyFrom 4 = .ok (.aload_n 1, 1) := by decide +kernel
theorem dX0_copyFrom_5 : decode cX0_copyFrom 5 = .ok (.getfield 14, 3) := by decide +kernel
theorem dX0_copyFrom_8 : decode cX0_copyFrom 8 = .ok (.invokevirtual 26, 3) := by decide +kernel
theorem dX0_copyFrom_11 : decode cX0_copyFrom 11 = .ok (.aload_n 0, 1) := by decide +kernel
theorem dX0_copyFrom_12 : decode cX0_copyFrom 12 = .ok (.getfield 20, 3) := by decide +kernel
theorem dX0_copyFrom_15 : decode cX0_copyFrom 15 = .ok (.aload_n 1, 1) := by decide +kernel
theorem dX0_copyFrom_16 : decode cX0_copyFrom 16 = .ok (.getfield 20, 3) := by decide +kernel
theorem dX0_copyFrom_19 : decode cX0_copyFrom 19 = .ok (.invokevirtual 26, 3) := by decide +kernel
theorem dX0_copyFrom_22 : decode cX0_copyFrom 22 = .ok (.aload_n 0, 1) := by decide +kernel
theorem dX0_copyFrom_23 : decode cX0_copyFrom 23 = .ok (.aload_n 1, 1) := by decide +kernel
theorem dX0_copyFrom_24 : decode cX0_copyFrom 24 = .ok (.getfield 30, 3) := by decide +kernel
theorem dX0_copyFrom_27 : decode cX0_copyFrom 27 = .ok (.putfield 30, 3) := by decide +kernel
theorem dX0_copyFrom_30 : decode cX0_copyFrom 30 = .ok (.aload_n 0, 1) := by decide +kernel
theorem dX0_copyFrom_31 : decode cX0_copyFrom 31 = .ok (.aload_n 1, 1) := by decide +kernel
theorem dX0_copyFrom_32 : decode cX0_copyFrom 32 = .ok (.getfield 34, 3) := by decide +kernel
theorem dX0_copyFrom_35 : decode cX0_copyFrom 35 = .ok (.putfield 34, 3) := by decide +kernel
theorem dX0_copyFrom_38 : decode cX0_copyFrom 38 = .ok (.aload_n 0, 1) := by decide +kernel
theorem dX0_copyFrom_39 : decode cX0_copyFrom 39 = .ok (.aload_n 1, 1) := by decide +kernel
theorem dX0_copyFrom_40 : decode cX0_copyFrom 40 = .ok (.getfield 37, 3) := by decide +kernel
theorem dX0_copyFrom_43 : decode cX0_copyFrom 43 = .ok (.putfield 37, 3) := by decide +kernel
theorem dX0_copyFrom_46 : decode cX0_copyFrom 46 = .ok (.return_, 1) := by decide +kernel
theorem dX0_standing_0 : decode cX0_standing 0 = .ok (.iconst 1, 1) := by decide +kernel
theorem dX0_standing_1 : decode cX0_standing 1 = .ok (.istore_n 2, 1) := by decide +kernel
theorem dX0_standing_2 : decode cX0_standing 2 = .ok (.iconst 1, 1) := by decide +kernel
theorem dX0_standing_3 : decode cX0_standing 3 = .ok (.istore_n 3, 1) := by decide +kernel
theorem dX0_standing_4 : decode cX0_standing 4 = .ok (.iload_n 3, 1) := by decide +kernel
theorem dX0_standing_5 : decode cX0_standing 5 = .ok (.aload_n 0, 1) := by decide +kernel
theorem dX0_standing_6 : decode cX0_standing 6 = .ok (.getfield 23, 3) := by decide +kernel
theorem dX0_standing_9 : decode cX0_standing 9 = .ok (.getfield 40, 3) := by decide +kernel
theorem dX0_standing_12 : decode cX0_standing 12 = .ok (.if_icmp .ge 85, 3) := by decide +kernel
theorem dX0_standing_15 : decode cX0_standing 15 = .ok (.aload_n 0, 1) := by decide +kernel
theorem dX0_standing_16 : decode cX0_standing 16 = .ok (.getfield 23, 3) := by decide +kernel
theorem dX0_standing_19 : decode cX0_standing 19 = .ok (.iload_n 3, 1) := by decide +kernel
theorem dX0_standing_20 : decode cX0_standing 20 = .ok (.iconst 3, 1) := by decide +kernel
theorem dX0_standing_21 : decode cX0_standing 21 = .ok (.invokevirtual 43, 3) := by decide +kernel
theorem dX0_standing_24 : decode cX0_standing 24 = .ok (.istore 4, 2) := by decide +kernel
theorem dX0_standing_26 : decode cX0_standing 26 = .ok (.iload_n 1, 1) := by decide +kernel
theorem dX0_standing_27 : decode cX0_standing 27 = .ok (.iload_n 3, 1) := by decide +kernel
theorem dX0_standing_28 : decode cX0_standing 28 = .ok (.invokestatic 47, 3) := by decide +kernel
theorem dX0_standing_31 : decode cX0_standing 31 = .ok (.ifCond .ne 60, 3) := by decide +kernel
theorem dX0_standing_34 : decode cX0_standing 34 = .ok (.aload_n 0, 1) := by decide +kernel
theorem dX0_standing_35 : decode cX0_standing 35 = .ok (.getfield 37, 3) := by decide +kernel
theorem dX0_standing_38 : decode cX0_standing 38 = .ok (.aload_n 0, 1) := by decide +kernel
theorem dX0_standing_39 : decode cX0_standing 39 = .ok (.getfield 23, 3) := by decide +kernel
theorem dX0_standing_42 : decode cX0_standing 42 = .ok (.iload_n 3, 1) := by decide +kernel
theorem dX0_standing_43 : decode cX0_standing 43 = .ok (.iconst 4, 1) := by decide +kernel
theorem dX0_standing_44 : decode cX0_standing 44 = .ok (.invokevirtual 43, 3) := by decide +kernel
theorem dX0_standing_47 : decode cX0_standing 47 = .ok (.if_icmp .gt 44, 3) := by decide +kernel
theorem dX0_standing_50 : decode cX0_standing 50 = .ok (.iload_n 2, 1) := by decide +kernel
theorem dX0_standing_51 : decode cX0_standing 51 = .ok (.iload 4, 2) := by decide +kernel
theorem dX0_standing_53 : decode cX0_standing 53 = .ok (.invokestatic 47, 3) := by decide +kernel
theorem dX0_standing_56 : decode cX0_standing 56 = .ok (.iconst 1, 1) := by decide +kernel
theorem dX0_standing_57 : decode cX0_standing 57 = .ok (.if_icmp .ne 34, 3) := by decide +kernel
theorem dX0_standing_60 : decode cX0_standing 60 = .ok (.aload_n 0, 1) := by decide +kernel
theorem dX0_standing_61 : decode cX0_standing 61 = .ok (.getfield 23, 3) := by decide +kernel
theorem dX0_standing_64 : decode cX0_standing 64 = .ok (.iload_n 3, 1) := by decide +kernel
theorem dX0_standing_65 : decode cX0_standing 65 = .ok (.iconst 2, 1) := by decide +kernel
theorem dX0_standing_66 : decode cX0_standing 66 = .ok (.invokevirtual 43, 3) := by decide +kernel
theorem dX0_standing_69 : decode cX0_standing 69 = .ok (.aload_n 0, 1) := by decide +kernel
theorem dX0_standing_70 : decode cX0_standing 70 = .ok (.getfield 23, 3) := by decide +kernel
theorem dX0_standing_73 : decode cX0_standing 73 = .ok (.iload 4, 2) := by decide +kernel
theorem dX0_standing_75 : decode cX0_standing 75 = .ok (.iconst 2, 1) := by decide +kernel
theorem dX0_standing_76 : decode cX0_standing 76 = .ok (.invokevirtual 43, 3) := by decide +kernel
theorem dX0_standing_79 : decode cX0_standing 79 = .ok (.invokestatic 50, 3) := by decide +kernel
theorem dX0_standing_82 : decode cX0_standing 82 = .ok (.ifCond .eq 9, 3) := by decide +kernel
theorem dX0_standing_85 : decode cX0_standing 85 = .ok (.iload_n 2, 1) := by decide +kernel
theorem dX0_standing_86 : decode cX0_standing 86 = .ok (.iconst 1, 1) := by decide +kernel
theorem dX0_standing_87 : decode cX0_standing 87 = .ok (.iload_n 3, 1) := by decide +kernel
theorem dX0_standing_88 : decode cX0_standing 88 = .ok (.ishl, 1) := by decide +kernel
theorem dX0_standing_89 : decode cX0_standing 89 = .ok (.ior, 1) := by decide +kernel
theorem dX0_standing_90 : decode cX0_standing 90 = .ok (.istore_n 2, 1) := by decide +kernel
theorem dX0_standing_91 : decode cX0_standing 91 = .ok (.iinc 3 1, 3) := by decide +kernel
theorem dX0_standing_94 : decode cX0_standing 94 = .ok (.goto (-90), 3) := by decide +kernel
theorem dX0_standing_97 : decode cX0_standing 97 = .ok (.iload_n 2, 1) := by decide +kernel
theorem dX0_standing_98 : decode cX0_standing 98 = .ok (.ireturn, 1) := by decide +kernel
theorem dX0_counting_0 : decode cX0_counting 0 = .ok (.iconst 0, 1) := by decide +kernel
theorem dX0_counting_1 : decode cX0_counting 1 = .ok (.istore_n 2, 1) := by decide +kernel
theorem dX0_counting_2 : decode cX0_counting 2 = .ok (.iconst 0, 1) := by decide +kernel
theorem dX0_counting_3 : decode cX0_counting 3 = .ok (.istore_n 3, 1) := by decide +kernel
theorem dX0_counting_4 : decode cX0_counting 4 = .ok (.iload_n 3, 1) := by decide +kernel
theorem dX0_counting_5 : decode cX0_counting 5 = .ok (.aload_n 0, 1) := by decide +kernel
theorem dX0_counting_6 : decode cX0_counting 6 = .ok (.getfield 14, 3) := by decide +kernel
theorem dX0_counting_9 : decode cX0_counting 9 = .ok (.getfield 40, 3) := by decide +kernel
theorem dX0_counting_12 : decode cX0_counting 12 = .ok (.if_icmp .ge 87, 3) := by decide +kernel
theorem dX0_counting_15 : decode cX0_counting 15 = .ok (.aload_n 0, 1) := by decide +kernel
theorem dX0_counting_16 : decode cX0_counting 16 = .ok (.getfield 14, 3) := by decide +kernel
theorem dX0_counting_19 : decode cX0_counting 19 = .ok (.iload_n 3, 1) := by decide +kernel
theorem dX0_counting_20 : decode cX0_counting 20 = .ok (.iconst 4, 1) := by decide +kernel
theorem dX0_counting_21 : decode cX0_counting 21 = .ok (.invokevirtual 43, 3) := by decide +kernel
theorem dX0_counting_24 : decode cX0_counting 24 = .ok (.istore 4, 2) := by decide +kernel
theorem dX0_counting_26 : decode cX0_counting 26 = .ok (.iload 4, 2) := by decide +kernel
theorem dX0_counting_28 : decode cX0_counting 28 = .ok (.bipush 9, 2) := by decide +kernel
theorem dX0_counting_30 : decode cX0_counting 30 = .ok (.if_icmp .eq 57, 3) := by decide +kernel
theorem dX0_counting_33 : decode cX0_counting 33 = .ok (.iload_n 1, 1) := by decide +kernel
theorem dX0_counting_34 : decode cX0_counting 34 = .ok (.iload 4, 2) := by decide +kernel
theorem dX0_counting_36 : decode cX0_counting 36 = .ok (.invokestatic 47, 3) := by decide +kernel
theorem dX0_counting_39 : decode cX0_counting 39 = .ok (.iconst 1, 1) := by decide +kernel
theorem dX0_counting_40 : decode cX0_counting 40 = .ok (.if_icmp .ne 53, 3) := by decide +kernel
theorem dX0_counting_43 : decode cX0_counting 43 = .ok (.aload_n 0, 1) := by decide +kernel
theorem dX0_counting_44 : decode cX0_counting 44 = .ok (.getfield 14, 3) := by decide +kernel
theorem dX0_counting_47 : decode cX0_counting 47 = .ok (.iload_n 3, 1) := by decide +kernel
theorem dX0_counting_48 : decode cX0_counting 48 = .ok (.iconst 2, 1) := by decide +kernel
theorem dX0_counting_49 : decode cX0_counting 49 = .ok (.invokevirtual 43, 3) := by decide +kernel
theorem dX0_counting_52 : decode cX0_counting 52 = .ok (.aload_n 0, 1) := by decide +kernel
theorem dX0_counting_53 : decode cX0_counting 53 = .ok (.getfield 23, 3) := by decide +kernel
theorem dX0_counting_56 : decode cX0_counting 56 = .ok (.iload 4, 2) := by decide +kernel
theorem dX0_counting_58 : decode cX0_counting 58 = .ok (.iconst 2, 1) := by decide +kernel
theorem dX0_counting_59 : decode cX0_counting 59 = .ok (.invokevirtual 43, 3) := by decide +kernel
theorem dX0_counting_62 : decode cX0_counting 62 = .ok (.invokestatic 50, 3) := by decide +kernel
theorem dX0_counting_65 : decode cX0_counting 65 = .ok (.ifCond .eq 28, 3) := by decide +kernel
theorem dX0_counting_68 : decode cX0_counting 68 = .ok (.aload_n 0, 1) := by decide +kernel
theorem dX0_counting_69 : decode cX0_counting 69 = .ok (.getfield 34, 3) := by decide +kernel
theorem dX0_counting_72 : decode cX0_counting 72 = .ok (.aload_n 0, 1) := by decide +kernel
theorem dX0_counting_73 : decode cX0_counting 73 = .ok (.getfield 14, 3) := by decide +kernel
theorem dX0_counting_76 : decode cX0_counting 76 = .ok (.iload_n 3, 1) := by decide +kernel
theorem dX0_counting_77 : decode cX0_counting 77 = .ok (.iconst 3, 1) := by decide +kernel
theorem dX0_counting_78 : decode cX0_counting 78 = .ok (.invokevirtual 43, 3) := by decide +kernel
theorem dX0_counting_81 : decode cX0_counting 81 = .ok (.invokestatic 47, 3) := by decide +kernel
theorem dX0_counting_84 : decode cX0_counting 84 = .ok (.ifCond .ne 9, 3) := by decide +kernel
theorem dX0_counting_87 : decode cX0_counting 87 = .ok (.iload_n 2, 1) := by decide +kernel
theorem dX0_counting_88 : decode cX0_counting 88 = .ok (.iconst 1, 1) := by decide +kernel
theorem dX0_counting_89 : decode cX0_counting 89 = .ok (.iload_n 3, 1) := by decide +kernel
theorem dX0_counting_90 : decode cX0_counting 90 = .ok (.ishl, 1) := by decide +kernel
theorem dX0_counting_91 : decode cX0_counting 91 = .ok (.ior, 1) := by decide +kernel
theorem dX0_counting_92 : decode cX0_counting 92 = .ok (.istore_n 2, 1) := by decide +kernel
theorem dX0_counting_93 : decode cX0_counting 93 = .ok (.iinc 3 1, 3) := by decide +kernel
theorem dX0_counting_96 : decode cX0_counting 96 = .ok (.goto (-92), 3) := by decide +kernel
theorem dX0_counting_99 : decode cX0_counting 99 = .ok (.iload_n 2, 1) := by decide +kernel
theorem dX0_counting_100 : decode cX0_counting 100 = .ok (.ireturn, 1) := by decide +kernel
theorem dX0_countingNow_0 : decode cX0_countingNow 0 = .ok (.aload_n 0, 1) := by decide +kernel
theorem dX0_countingNow_1 : decode cX0_countingNow 1 = .ok (.aload_n 0, 1) := by decide +kernel
theorem dX0_countingNow_2 : decode cX0_countingNow 2 = .ok (.aload_n 0, 1) := by decide +kernel
theorem dX0_countingNow_3 : decode cX0_countingNow 3 = .ok (.getfield 30, 3) := by decide +kernel
theorem dX0_countingNow_6 : decode cX0_countingNow 6 = .ok (.invokevirtual 54, 3) := by decide +kernel
theorem dX0_countingNow_9 : decode cX0_countingNow 9 = .ok (.invokevirtual 58, 3) := by decide +kernel
theorem dX0_countingNow_12 : decode cX0_countingNow 12 = .ok (.ireturn, 1) := by decide +kernel
theorem dX0_stateOf_0 : decode cX0_stateOf 0 = .ok (.iconst 1, 1) := by decide +kernel
theorem dX0_stateOf_1 : decode cX0_stateOf 1 = .ok (.istore 5, 2) := by decide +kernel
theorem dX0_stateOf_3 : decode cX0_stateOf 3 = .ok (.iconst 0, 1) := by decide +kernel
theorem dX0_stateOf_4 : decode cX0_stateOf 4 = .ok (.istore 6, 2) := by decide +kernel
theorem dX0_stateOf_6 : decode cX0_stateOf 6 = .ok (.iload 6, 2) := by decide +kernel
theorem dX0_stateOf_8 : decode cX0_stateOf 8 = .ok (.aload_n 0, 1) := by decide +kernel
theorem dX0_stateOf_9 : decode cX0_stateOf 9 = .ok (.getfield 14, 3) := by decide +kernel
theorem dX0_stateOf_12 : decode cX0_stateOf 12 = .ok (.getfield 40, 3) := by decide +kernel
theorem dX0_stateOf_15 : decode cX0_stateOf 15 = .ok (.if_icmp .ge 70, 3) := by decide +kernel
theorem dX0_stateOf_18 : decode cX0_stateOf 18 = .ok (.iload 4, 2) := by decide +kernel
theorem dX0_stateOf_20 : decode cX0_stateOf 20 = .ok (.iload 6, 2) := by decide +kernel
theorem dX0_stateOf_22 : decode cX0_stateOf 22 = .ok (.invokestatic 47, 3) := by decide +kernel
theorem dX0_stateOf_25 : decode cX0_stateOf 25 = .ok (.iconst 1, 1) := by decide +kernel
theorem dX0_stateOf_26 : decode cX0_stateOf 26 = .ok (.if_icmp .ne 53, 3) := by decide +kernel
theorem dX0_stateOf_29 : decode cX0_stateOf 29 = .ok (.iload_n 1, 1) := by decide +kernel
theorem dX0_stateOf_30 : decode cX0_stateOf 30 = .ok (.aload_n 0, 1) := by decide +kernel
theorem dX0_stateOf_31 : decode cX0_stateOf 31 = .ok (.getfield 14, 3) := by decide +kernel
theorem dX0_stateOf_34 : decode cX0_stateOf 34 = .ok (.iload 6, 2) := by decide +kernel
theorem dX0_stateOf_36 : decode cX0_stateOf 36 = .ok (.iconst 2, 1) := by decide +kernel
theorem dX0_stateOf_37 : decode cX0_stateOf 37 = .ok (.invokevirtual 43, 3) := by decide +kernel
theorem dX0_stateOf_40 : decode cX0_stateOf 40 = .ok (.invokestatic 50, 3) := by decide +kernel
theorem dX0_stateOf_43 : decode cX0_stateOf 43 = .ok (.ifCond .eq 36, 3) := by decide +kernel
theorem dX0_stateOf_46 : decode cX0_stateOf 46 = .ok (.aload_n 0, 1) := by decide +kernel
theorem dX0_stateOf_47 : decode cX0_stateOf 47 = .ok (.getfield 14, 3) := by decide +kernel
theorem dX0_stateOf_50 : decode cX0_stateOf 50 = .ok (.iload 6, 2) := by decide +kernel
theorem dX0_stateOf_52 : decode cX0_stateOf 52 = .ok (.iconst 3, 1) := by decide +kernel
theorem dX0_stateOf_53 : decode cX0_stateOf 53 = .ok (.invokevirtual 43, 3) := by decide +kernel
theorem dX0_stateOf_56 : decode cX0_stateOf 56 = .ok (.iload_n 3, 1) := by decide +kernel
theorem dX0_stateOf_57 : decode cX0_stateOf 57 = .ok (.if_icmp .ne 19, 3) := by decide +kernel
theorem dX0_stateOf_60 : decode cX0_stateOf 60 = .ok (.aload_n 0, 1) := by decide +kernel
theorem dX0_stateOf_61 : decode cX0_stateOf 61 = .ok (.getfield 14, 3) := by decide +kernel
theorem dX0_stateOf_64 : decode cX0_stateOf 64 = .ok (.iload 6, 2) := by decide +kernel
theorem dX0_stateOf_66 : decode cX0_stateOf 66 = .ok (.iconst 5, 1) := by decide +kernel
theorem dX0_stateOf_67 : decode cX0_stateOf 67 = .ok (.invokevirtual 43, 3) := by decide +kernel
theorem dX0_stateOf_70 : decode cX0_stateOf 70 = .ok (.iload_n 2, 1) := by decide +kernel
theorem dX0_stateOf_71 : decode cX0_stateOf 71 = .ok (.if_icmp .lt 5, 3) := by decide +kernel
theorem dX0_stateOf_74 : decode cX0_stateOf 74 = .ok (.iconst 2, 1) := by decide +kernel
theorem dX0_stateOf_75 : decode cX0_stateOf 75 = .ok (.ireturn, 1) := by decide +kernel
theorem dX0_stateOf_76 : decode cX0_stateOf 76 = .ok (.iconst 0, 1) := by decide +kernel
theorem dX0_stateOf_77 : decode cX0_stateOf 77 = .ok (.istore 5, 2) := by decide +kernel
theorem dX0_stateOf_79 : decode cX0_stateOf 79 = .ok (.iinc 6 1, 3) := by decide +kernel
theorem dX0_stateOf_82 : decode cX0_stateOf 82 = .ok (.goto (-76), 3) := by decide +kernel
theorem dX0_stateOf_85 : decode cX0_stateOf 85 = .ok (.iload 5, 2) := by decide +kernel
theorem dX0_stateOf_87 : decode cX0_stateOf 87 = .ok (.ireturn, 1) := by decide +kernel
theorem dX0_routesThatAre_0 : decode cX0_routesThatAre 0 = .ok (.iconst 0, 1) := by decide +kernel
theorem dX0_routesThatAre_1 : decode cX0_routesThatAre 1 = .ok (.istore_n 3, 1) := by decide +kernel
theorem dX0_routesThatAre_2 : decode cX0_routesThatAre 2 = .ok (.iconst 0, 1) := by decide +kernel
theorem dX0_routesThatAre_3 : decode cX0_routesThatAre 3 = .ok (.istore 4, 2) := by decide +kernel
theorem dX0_routesThatAre_5 : decode cX0_routesThatAre 5 = .ok (.iload 4, 2) := by decide +kernel
theorem dX0_routesThatAre_7 : decode cX0_routesThatAre 7 = .ok (.aload_n 0, 1) := by decide +kernel
theorem dX0_routesThatAre_8 : decode cX0_routesThatAre 8 = .ok (.getfield 20, 3) := by decide +kernel
theorem dX0_routesThatAre_11 : decode cX0_routesThatAre 11 = .ok (.getfield 40, 3) := by decide +kernel
theorem dX0_routesThatAre_14 : decode cX0_routesThatAre 14 = .ok (.if_icmp .ge 59, 3) := by decide +kernel
theorem dX0_routesThatAre_17 : decode cX0_routesThatAre 17 = .ok (.aload_n 0, 1) := by decide +kernel
theorem dX0_routesThatAre_18 : decode cX0_routesThatAre 18 = .ok (.getfield 20, 3) := by decide +kernel
theorem dX0_routesThatAre_21 : decode cX0_routesThatAre 21 = .ok (.iload 4, 2) := by decide +kernel
theorem dX0_routesThatAre_23 : decode cX0_routesThatAre 23 = .ok (.iconst 2, 1) := by decide +kernel
theorem dX0_routesThatAre_24 : decode cX0_routesThatAre 24 = .ok (.invokevirtual 43, 3) := by decide +kernel
theorem dX0_routesThatAre_27 : decode cX0_routesThatAre 27 = .ok (.istore 5, 2) := by decide +kernel
theorem dX0_routesThatAre_29 : decode cX0_routesThatAre 29 = .ok (.aload_n 0, 1) := by decide +kernel
theorem dX0_routesThatAre_30 : decode cX0_routesThatAre 30 = .ok (.iload 5, 2) := by decide +kernel
theorem dX0_routesThatAre_32 : decode cX0_routesThatAre 32 = .ok (.aload_n 0, 1) := by decide +kernel
theorem dX0_routesThatAre_33 : decode cX0_routesThatAre 33 = .ok (.getfield 20, 3) := by decide +kernel
theorem dX0_routesThatAre_36 : decode cX0_routesThatAre 36 = .ok (.iload 4, 2) := by decide +kernel
theorem dX0_routesThatAre_38 : decode cX0_routesThatAre 38 = .ok (.iconst 1, 1) := by decide +kernel
theorem dX0_routesThatAre_39 : decode cX0_routesThatAre 39 = .ok (.invokevirtual 43, 3) := by decide +kernel
theorem dX0_routesThatAre_42 : decode cX0_routesThatAre 42 = .ok (.aload_n 0, 1) := by decide +kernel
theorem dX0_routesThatAre_43 : decode cX0_routesThatAre 43 = .ok (.getfield 20, 3) := by decide +kernel
theorem dX0_routesThatAre_46 : decode cX0_routesThatAre 46 = .ok (.iload 4, 2) := by decide +kernel
theorem dX0_routesThatAre_48 : decode cX0_routesThatAre 48 = .ok (.iconst 3, 1) := by decide +kernel
theorem dX0_routesThatAre_49 : decode cX0_routesThatAre 49 = .ok (.invokevirtual 43, 3) := by decide +kernel
theorem dX0_routesThatAre_52 : decode cX0_routesThatAre 52 = .ok (.iload_n 2, 1) := by decide +kernel
theorem dX0_routesThatAre_53 : decode cX0_routesThatAre 53 = .ok (.invokevirtual 61, 3) := by decide +kernel
theorem dX0_routesThatAre_56 : decode cX0_routesThatAre 56 = .ok (.iload_n 1, 1) := by decide +kernel
theorem dX0_routesThatAre_57 : decode cX0_routesThatAre 57 = .ok (.if_icmp .ne 10, 3) := by decide +kernel
theorem dX0_routesThatAre_60 : decode cX0_routesThatAre 60 = .ok (.iload_n 3, 1) := by decide +kernel
theorem dX0_routesThatAre_61 : decode cX0_routesThatAre 61 = .ok (.iconst 1, 1) := by decide +kernel
theorem dX0_routesThatAre_62 : decode cX0_routesThatAre 62 = .ok (.iload 4, 2) := by decide +kernel
theorem dX0_routesThatAre_64 : decode cX0_routesThatAre 64 = .ok (.ishl, 1) := by decide +kernel
theorem dX0_routesThatAre_65 : decode cX0_routesThatAre 65 = .ok (.ior, 1) := by decide +kernel
theorem dX0_routesThatAre_66 : decode cX0_routesThatAre 66 = .ok (.istore_n 3, 1) := by decide +kernel
theorem dX0_routesThatAre_67 : decode cX0_routesThatAre 67 = .ok (.iinc 4 1, 3) := by decide +kernel
theorem dX0_routesThatAre_70 : decode cX0_routesThatAre 70 = .ok (.goto (-65), 3) := by decide +kernel
theorem dX0_routesThatAre_73 : decode cX0_routesThatAre 73 = .ok (.iload_n 3, 1) := by decide +kernel
theorem dX0_routesThatAre_74 : decode cX0_routesThatAre 74 = .ok (.ireturn, 1) := by decide +kernel
theorem dX0_grantsThatMakeRight_0 : decode cX0_grantsThatMakeRight 0 = .ok (.iconst 0, 1) := by decide +kernel
theorem dX0_grantsThatMakeRight_1 : decode cX0_grantsThatMakeRight 1 = .ok (.istore_n 3, 1) := by decide +kernel
theorem dX0_grantsThatMakeRight_2 : decode cX0_grantsThatMakeRight 2 = .ok (.iconst 0, 1) := by decide +kernel
theorem dX0_grantsThatMakeRight_3 : decode cX0_grantsThatMakeRight 3 = .ok (.istore 4, 2) := by decide +kernel
theorem dX0_grantsThatMakeRight_5 : decode cX0_grantsThatMakeRight 5 = .ok (.iload 4, 2) := by decide +kernel
theorem dX0_grantsThatMakeRight_7 : decode cX0_grantsThatMakeRight 7 = .ok (.aload_n 0, 1) := by decide +kernel
theorem dX0_grantsThatMakeRight_8 : decode cX0_grantsThatMakeRight 8 = .ok (.getfield 14, 3) := by decide +kernel
theorem dX0_grantsThatMakeRight_11 : decode cX0_grantsThatMakeRight 11 = .ok (.getfield 40, 3) := by decide +kernel
theorem dX0_grantsThatMakeRight_14 : decode cX0_grantsThatMakeRight 14 = .ok (.if_icmp .ge 37, 3) := by decide +kernel
theorem dX0_grantsThatMakeRight_17 : decode cX0_grantsThatMakeRight 17 = .ok (.iload_n 2, 1) := by decide +kernel
theorem dX0_grantsThatMakeRight_18 : decode cX0_grantsThatMakeRight 18 = .ok (.iconst 1, 1) := by decide +kernel
theorem dX0_grantsThatMakeRight_19 : decode cX0_grantsThatMakeRight 19 = .ok (.iload 4, 2) := by decide +kernel
theorem dX0_grantsThatMakeRight_21 : decode cX0_grantsThatMakeRight 21 = .ok (.ishl, 1) := by decide +kernel
theorem dX0_grantsThatMakeRight_22 : decode cX0_grantsThatMakeRight 22 = .ok (.iand, 1) := by decide +kernel
theorem dX0_grantsThatMakeRight_23 : decode cX0_grantsThatMakeRight 23 = .ok (.istore 5, 2) := by decide +kernel
theorem dX0_grantsThatMakeRight_25 : decode cX0_grantsThatMakeRight 25 = .ok (.aload_n 0, 1) := by decide +kernel
theorem dX0_grantsThatMakeRight_26 : decode cX0_grantsThatMakeRight 26 = .ok (.iconst 2, 1) := by decide +kernel
theorem dX0_grantsThatMakeRight_27 : decode cX0_grantsThatMakeRight 27 = .ok (.iload 5, 2) := by decide +kernel
theorem dX0_grantsThatMakeRight_29 : decode cX0_grantsThatMakeRight 29 = .ok (.invokevirtual 65, 3) := by decide +kernel
theorem dX0_grantsThatMakeRight_32 : decode cX0_grantsThatMakeRight 32 = .ok (.iload_n 1, 1) := by decide +kernel
theorem dX0_grantsThatMakeRight_33 : decode cX0_grantsThatMakeRight 33 = .ok (.invokestatic 47, 3) := by decide +kernel
theorem dX0_grantsThatMakeRight_36 : decode cX0_grantsThatMakeRight 36 = .ok (.iconst 1, 1) := by decide +kernel
theorem dX0_grantsThatMakeRight_37 : decode cX0_grantsThatMakeRight 37 = .ok (.if_icmp .ne 8, 3) := by decide +kernel
theorem dX0_grantsThatMakeRight_40 : decode cX0_grantsThatMakeRight 40 = .ok (.iload_n 3, 1) := by decide +kernel
theorem dX0_grantsThatMakeRight_41 : decode cX0_grantsThatMakeRight 41 = .ok (.iload 5, 2) := by decide +kernel
theorem dX0_grantsThatMakeRight_43 : decode cX0_grantsThatMakeRight 43 = .ok (.ior, 1) := by decide +kernel
theorem dX0_grantsThatMakeRight_44 : decode cX0_grantsThatMakeRight 44 = .ok (.istore_n 3, 1) := by decide +kernel
theorem dX0_grantsThatMakeRight_45 : decode cX0_grantsThatMakeRight 45 = .ok (.iinc 4 1, 3) := by decide +kernel
theorem dX0_grantsThatMakeRight_48 : decode cX0_grantsThatMakeRight 48 = .ok (.goto (-43), 3) := by decide +kernel
theorem dX0_grantsThatMakeRight_51 : decode cX0_grantsThatMakeRight 51 = .ok (.iload_n 3, 1) := by decide +kernel
theorem dX0_grantsThatMakeRight_52 : decode cX0_grantsThatMakeRight 52 = .ok (.ireturn, 1) := by decide +kernel
theorem dX0_makerOf_0 : decode cX0_makerOf 0 = .ok (.aload_n 0, 1) := by decide +kernel
theorem dX0_makerOf_1 : decode cX0_makerOf 1 = .ok (.aload_n 0, 1) := by decide +kernel
theorem dX0_makerOf_2 : decode cX0_makerOf 2 = .ok (.getfield 30, 3) := by decide +kernel
theorem dX0_makerOf_5 : decode cX0_makerOf 5 = .ok (.invokevirtual 54, 3) := by decide +kernel
theorem dX0_makerOf_8 : decode cX0_makerOf 8 = .ok (.istore_n 2, 1) := by decide +kernel
theorem dX0_makerOf_9 : decode cX0_makerOf 9 = .ok (.iconst 0, 1) := by decide +kernel
theorem dX0_makerOf_10 : decode cX0_makerOf 10 = .ok (.istore_n 3, 1) := by decide +kernel
theorem dX0_makerOf_11 : decode cX0_makerOf 11 = .ok (.iconst 1, 1) := by decide +kernel
theorem dX0_makerOf_12 : decode cX0_makerOf 12 = .ok (.istore 4, 2) := by decide +kernel
theorem dX0_makerOf_14 : decode cX0_makerOf 14 = .ok (.iload 4, 2) := by decide +kernel
theorem dX0_makerOf_16 : decode cX0_makerOf 16 = .ok (.aload_n 0, 1) := by decide +kernel
theorem dX0_makerOf_17 : decode cX0_makerOf 17 = .ok (.getfield 23, 3) := by decide +kernel
theorem dX0_makerOf_20 : decode cX0_makerOf 20 = .ok (.getfield 40, 3) := by decide +kernel
theorem dX0_makerOf_23 : decode cX0_makerOf 23 = .ok (.if_icmp .ge 69, 3) := by decide +kernel
theorem dX0_makerOf_26 : decode cX0_makerOf 26 = .ok (.iload_n 2, 1) := by decide +kernel
theorem dX0_makerOf_27 : decode cX0_makerOf 27 = .ok (.iload 4, 2) := by decide +kernel
theorem dX0_makerOf_29 : decode cX0_makerOf 29 = .ok (.invokestatic 47, 3) := by decide +kernel
theorem dX0_makerOf_32 : decode cX0_makerOf 32 = .ok (.iconst 1, 1) := by decide +kernel
theorem dX0_makerOf_33 : decode cX0_makerOf 33 = .ok (.if_icmp .ne 53, 3) := by decide +kernel
theorem dX0_makerOf_36 : decode cX0_makerOf 36 = .ok (.aload_n 0, 1) := by decide +kernel
theorem dX0_makerOf_37 : decode cX0_makerOf 37 = .ok (.getfield 20, 3) := by decide +kernel
theorem dX0_makerOf_40 : decode cX0_makerOf 40 = .ok (.iload_n 1, 1) := by decide +kernel
theorem dX0_makerOf_41 : decode cX0_makerOf 41 = .ok (.iconst 2, 1) := by decide +kernel
theorem dX0_makerOf_42 : decode cX0_makerOf 42 = .ok (.invokevirtual 43, 3) := by decide +kernel
theorem dX0_makerOf_45 : decode cX0_makerOf 45 = .ok (.aload_n 0, 1) := by decide +kernel
theorem dX0_makerOf_46 : decode cX0_makerOf 46 = .ok (.getfield 23, 3) := by decide +kernel
theorem dX0_makerOf_49 : decode cX0_makerOf 49 = .ok (.iload 4, 2) := by decide +kernel
theorem dX0_makerOf_51 : decode cX0_makerOf 51 = .ok (.iconst 2, 1) := by decide +kernel
theorem dX0_makerOf_52 : decode cX0_makerOf 52 = .ok (.invokevirtual 43, 3) := by decide +kernel
theorem dX0_makerOf_55 : decode cX0_makerOf 55 = .ok (.invokestatic 50, 3) := by decide +kernel
theorem dX0_makerOf_58 : decode cX0_makerOf 58 = .ok (.ifCond .eq 28, 3) := by decide +kernel
theorem dX0_makerOf_61 : decode cX0_makerOf 61 = .ok (.aload_n 0, 1) := by decide +kernel
theorem dX0_makerOf_62 : decode cX0_makerOf 62 = .ok (.getfield 23, 3) := by decide +kernel
theorem dX0_makerOf_65 : decode cX0_makerOf 65 = .ok (.iload 4, 2) := by decide +kernel
theorem dX0_makerOf_67 : decode cX0_makerOf 67 = .ok (.iconst 1, 1) := by decide +kernel
theorem dX0_makerOf_68 : decode cX0_makerOf 68 = .ok (.invokevirtual 43, 3) := by decide +kernel
theorem dX0_makerOf_71 : decode cX0_makerOf 71 = .ok (.aload_n 0, 1) := by decide +kernel
theorem dX0_makerOf_72 : decode cX0_makerOf 72 = .ok (.getfield 23, 3) := by decide +kernel
theorem dX0_makerOf_75 : decode cX0_makerOf 75 = .ok (.iload_n 3, 1) := by decide +kernel
theorem dX0_makerOf_76 : decode cX0_makerOf 76 = .ok (.iconst 1, 1) := by decide +kernel
theorem dX0_makerOf_77 : decode cX0_makerOf 77 = .ok (.invokevirtual 43, 3) := by decide +kernel
theorem dX0_makerOf_80 : decode cX0_makerOf 80 = .ok (.if_icmp .le 6, 3) := by decide +kernel
theorem dX0_makerOf_83 : decode cX0_makerOf 83 = .ok (.iload 4, 2) := by decide +kernel
theorem dX0_makerOf_85 : decode cX0_makerOf 85 = .ok (.istore_n 3, 1) := by decide +kernel
theorem dX0_makerOf_86 : decode cX0_makerOf 86 = .ok (.iinc 4 1, 3) := by decide +kernel
theorem dX0_makerOf_89 : decode cX0_makerOf 89 = .ok (.goto (-75), 3) := by decide +kernel
theorem dX0_makerOf_92 : decode cX0_makerOf 92 = .ok (.iload_n 3, 1) := by decide +kernel
theorem dX0_makerOf_93 : decode cX0_makerOf 93 = .ok (.ireturn, 1) := by decide +kernel
theorem dX0_bare_0 : decode cX0_bare 0 = .ok (.aload_n 0, 1) := by decide +kernel
theorem dX0_bare_1 : decode cX0_bare 1 = .ok (.invokevirtual 68, 3) := by decide +kernel
theorem dX0_bare_4 : decode cX0_bare 4 = .ok (.istore_n 1, 1) := by decide +kernel
theorem dX0_bare_5 : decode cX0_bare 5 = .ok (.iconst 0, 1) := by decide +kernel
theorem dX0_bare_6 : decode cX0_bare 6 = .ok (.istore_n 2, 1) := by decide +kernel
theorem dX0_bare_7 : decode cX0_bare 7 = .ok (.iconst 0, 1) := by decide +kernel
theorem dX0_bare_8 : decode cX0_bare 8 = .ok (.istore_n 3, 1) := by decide +kernel
theorem dX0_bare_9 : decode cX0_bare 9 = .ok (.iload_n 3, 1) := by decide +kernel
theorem dX0_bare_10 : decode cX0_bare 10 = .ok (.aload_n 0, 1) := by decide +kernel
theorem dX0_bare_11 : decode cX0_bare 11 = .ok (.getfield 14, 3) := by decide +kernel
theorem dX0_bare_14 : decode cX0_bare 14 = .ok (.getfield 40, 3) := by decide +kernel
theorem dX0_bare_17 : decode cX0_bare 17 = .ok (.if_icmp .ge 30, 3) := by decide +kernel
theorem dX0_bare_20 : decode cX0_bare 20 = .ok (.iload_n 1, 1) := by decide +kernel
theorem dX0_bare_21 : decode cX0_bare 21 = .ok (.iload_n 3, 1) := by decide +kernel
theorem dX0_bare_22 : decode cX0_bare 22 = .ok (.invokestatic 47, 3) := by decide +kernel
theorem dX0_bare_25 : decode cX0_bare 25 = .ok (.iconst 1, 1) := by decide +kernel
theorem dX0_bare_26 : decode cX0_bare 26 = .ok (.if_icmp .ne 15, 3) := by decide +kernel
theorem dX0_bare_29 : decode cX0_bare 29 = .ok (.iload_n 2, 1) := by decide +kernel
theorem dX0_bare_30 : decode cX0_bare 30 = .ok (.aload_n 0, 1) := by decide +kernel
theorem dX0_bare_31 : decode cX0_bare 31 = .ok (.getfield 14, 3) := by decide +kernel
theorem dX0_bare_34 : decode cX0_bare 34 = .ok (.iload_n 3, 1) := by decide +kernel
theorem dX0_bare_35 : decode cX0_bare 35 = .ok (.iconst 2, 1) := by decide +kernel
theorem dX0_bare_36 : decode cX0_bare 36 = .ok (.invokevirtual 43, 3) := by decide +kernel
theorem dX0_bare_39 : decode cX0_bare 39 = .ok (.ior, 1) := by decide +kernel
theorem dX0_bare_40 : decode cX0_bare 40 = .ok (.istore_n 2, 1) := by decide +kernel
theorem dX0_bare_41 : decode cX0_bare 41 = .ok (.iinc 3 1, 3) := by decide +kernel
theorem dX0_bare_44 : decode cX0_bare 44 = .ok (.goto (-35), 3) := by decide +kernel
theorem dX0_bare_47 : decode cX0_bare 47 = .ok (.iload_n 2, 1) := by decide +kernel
theorem dX0_bare_48 : decode cX0_bare 48 = .ok (.iconst (-1), 1) := by decide +kernel
theorem dX0_bare_49 : decode cX0_bare 49 = .ok (.ixor, 1) := by decide +kernel
theorem dX0_bare_50 : decode cX0_bare 50 = .ok (.invokestatic 72, 3) := by decide +kernel
theorem dX0_bare_53 : decode cX0_bare 53 = .ok (.ireturn, 1) := by decide +kernel
theorem dX0_letIn_0 : decode cX0_letIn 0 = .ok (.aload_n 0, 1) := by decide +kernel
theorem dX0_letIn_1 : decode cX0_letIn 1 = .ok (.invokevirtual 68, 3) := by decide +kernel
theorem dX0_letIn_4 : decode cX0_letIn 4 = .ok (.istore_n 2, 1) := by decide +kernel
theorem dX0_letIn_5 : decode cX0_letIn 5 = .ok (.iconst 1, 1) := by decide +kernel
theorem dX0_letIn_6 : decode cX0_letIn 6 = .ok (.aload_n 0, 1) := by decide +kernel
theorem dX0_letIn_7 : decode cX0_letIn 7 = .ok (.getfield 20, 3) := by decide +kernel
theorem dX0_letIn_10 : decode cX0_letIn 10 = .ok (.getfield 40, 3) := by decide +kernel
theorem dX0_letIn_13 : decode cX0_letIn 13 = .ok (.ishl, 1) := by decide +kernel
theorem dX0_letIn_14 : decode cX0_letIn 14 = .ok (.iconst 1, 1) := by decide +kernel
theorem dX0_letIn_15 : decode cX0_letIn 15 = .ok (.isub, 1) := by decide +kernel
theorem dX0_letIn_16 : decode cX0_letIn 16 = .ok (.istore_n 3, 1) := by decide +kernel
theorem dX0_letIn_17 : decode cX0_letIn 17 = .ok (.aload_n 0, 1) := by decide +kernel
theorem dX0_letIn_18 : decode cX0_letIn 18 = .ok (.iconst 2, 1) := by decide +kernel
theorem dX0_letIn_19 : decode cX0_letIn 19 = .ok (.iload_n 2, 1) := by decide +kernel
theorem dX0_letIn_20 : decode cX0_letIn 20 = .ok (.invokevirtual 65, 3) := by decide +kernel
theorem dX0_letIn_23 : decode cX0_letIn 23 = .ok (.istore 4, 2) := by decide +kernel
theorem dX0_letIn_25 : decode cX0_letIn 25 = .ok (.aload_n 0, 1) := by decide +kernel
theorem dX0_letIn_26 : decode cX0_letIn 26 = .ok (.iconst 0, 1) := by decide +kernel
theorem dX0_letIn_27 : decode cX0_letIn 27 = .ok (.iload_n 2, 1) := by decide +kernel
theorem dX0_letIn_28 : decode cX0_letIn 28 = .ok (.invokevirtual 65, 3) := by decide +kernel
theorem dX0_letIn_31 : decode cX0_letIn 31 = .ok (.istore 5, 2) := by decide +kernel
theorem dX0_letIn_33 : decode cX0_letIn 33 = .ok (.iload_n 1, 1) := by decide +kernel
theorem dX0_letIn_34 : decode cX0_letIn 34 = .ok (.tableswitch 38 0 2 #[26, 28, 35], 26) := by decide +kernel
theorem dX0_letIn_60 : decode cX0_letIn 60 = .ok (.iload_n 3, 1) := by decide +kernel
theorem dX0_letIn_61 : decode cX0_letIn 61 = .ok (.ireturn, 1) := by decide +kernel
theorem dX0_letIn_62 : decode cX0_letIn 62 = .ok (.iload_n 3, 1) := by decide +kernel
theorem dX0_letIn_63 : decode cX0_letIn 63 = .ok (.iload 5, 2) := by decide +kernel
theorem dX0_letIn_65 : decode cX0_letIn 65 = .ok (.iconst (-1), 1) := by decide +kernel
theorem dX0_letIn_66 : decode cX0_letIn 66 = .ok (.ixor, 1) := by decide +kernel
theorem dX0_letIn_67 : decode cX0_letIn 67 = .ok (.iand, 1) := by decide +kernel
theorem dX0_letIn_68 : decode cX0_letIn 68 = .ok (.ireturn, 1) := by decide +kernel
theorem dX0_letIn_69 : decode cX0_letIn 69 = .ok (.iload 4, 2) := by decide +kernel
theorem dX0_letIn_71 : decode cX0_letIn 71 = .ok (.ireturn, 1) := by decide +kernel
theorem dX0_letIn_72 : decode cX0_letIn 72 = .ok (.iload 4, 2) := by decide +kernel
theorem dX0_letIn_74 : decode cX0_letIn 74 = .ok (.aload_n 0, 1) := by decide +kernel
theorem dX0_letIn_75 : decode cX0_letIn 75 = .ok (.iload 4, 2) := by decide +kernel
theorem dX0_letIn_77 : decode cX0_letIn 77 = .ok (.iload_n 3, 1) := by decide +kernel
theorem dX0_letIn_78 : decode cX0_letIn 78 = .ok (.iload 4, 2) := by decide +kernel
theorem dX0_letIn_80 : decode cX0_letIn 80 = .ok (.iconst (-1), 1) := by decide +kernel
theorem dX0_letIn_81 : decode cX0_letIn 81 = .ok (.ixor, 1) := by decide +kernel
theorem dX0_letIn_82 : decode cX0_letIn 82 = .ok (.iand, 1) := by decide +kernel
theorem dX0_letIn_83 : decode cX0_letIn 83 = .ok (.iload 5, 2) := by decide +kernel
theorem dX0_letIn_85 : decode cX0_letIn 85 = .ok (.iconst (-1), 1) := by decide +kernel
theorem dX0_letIn_86 : decode cX0_letIn 86 = .ok (.ixor, 1) := by decide +kernel
theorem dX0_letIn_87 : decode cX0_letIn 87 = .ok (.iand, 1) := by decide +kernel
theorem dX0_letIn_88 : decode cX0_letIn 88 = .ok (.invokevirtual 77, 3) := by decide +kernel
theorem dX0_letIn_91 : decode cX0_letIn 91 = .ok (.ior, 1) := by decide +kernel
theorem dX0_letIn_92 : decode cX0_letIn 92 = .ok (.ireturn, 1) := by decide +kernel
theorem dX0_apartFrom_0 : decode cX0_apartFrom 0 = .ok (.iconst 0, 1) := by decide +kernel
theorem dX0_apartFrom_1 : decode cX0_apartFrom 1 = .ok (.istore_n 3, 1) := by decide +kernel
theorem dX0_apartFrom_2 : decode cX0_apartFrom 2 = .ok (.iconst 0, 1) := by decide +kernel
theorem dX0_apartFrom_3 : decode cX0_apartFrom 3 = .ok (.istore 4, 2) := by decide +kernel
theorem dX0_apartFrom_5 : decode cX0_apartFrom 5 = .ok (.iload 4, 2) := by decide +kernel
theorem dX0_apartFrom_7 : decode cX0_apartFrom 7 = .ok (.aload_n 0, 1) := by decide +kernel
theorem dX0_apartFrom_8 : decode cX0_apartFrom 8 = .ok (.getfield 20, 3) := by decide +kernel
theorem dX0_apartFrom_11 : decode cX0_apartFrom 11 = .ok (.getfield 40, 3) := by decide +kernel
theorem dX0_apartFrom_14 : decode cX0_apartFrom 14 = .ok (.if_icmp .ge 32, 3) := by decide +kernel
theorem dX0_apartFrom_17 : decode cX0_apartFrom 17 = .ok (.iload_n 1, 1) := by decide +kernel
theorem dX0_apartFrom_18 : decode cX0_apartFrom 18 = .ok (.iload 4, 2) := by decide +kernel
theorem dX0_apartFrom_20 : decode cX0_apartFrom 20 = .ok (.invokestatic 47, 3) := by decide +kernel
theorem dX0_apartFrom_23 : decode cX0_apartFrom 23 = .ok (.iconst 1, 1) := by decide +kernel
theorem dX0_apartFrom_24 : decode cX0_apartFrom 24 = .ok (.if_icmp .ne 16, 3) := by decide +kernel
theorem dX0_apartFrom_27 : decode cX0_apartFrom 27 = .ok (.iload_n 3, 1) := by decide +kernel
theorem dX0_apartFrom_28 : decode cX0_apartFrom 28 = .ok (.aload_n 0, 1) := by decide +kernel
theorem dX0_apartFrom_29 : decode cX0_apartFrom 29 = .ok (.getfield 20, 3) := by decide +kernel
theorem dX0_apartFrom_32 : decode cX0_apartFrom 32 = .ok (.iload 4, 2) := by decide +kernel
theorem dX0_apartFrom_34 : decode cX0_apartFrom 34 = .ok (.iconst 2, 1) := by decide +kernel
theorem dX0_apartFrom_35 : decode cX0_apartFrom 35 = .ok (.invokevirtual 43, 3) := by decide +kernel
theorem dX0_apartFrom_38 : decode cX0_apartFrom 38 = .ok (.ior, 1) := by decide +kernel
theorem dX0_apartFrom_39 : decode cX0_apartFrom 39 = .ok (.istore_n 3, 1) := by decide +kernel
theorem dX0_apartFrom_40 : decode cX0_apartFrom 40 = .ok (.iinc 4 1, 3) := by decide +kernel
theorem dX0_apartFrom_43 : decode cX0_apartFrom 43 = .ok (.goto (-38), 3) := by decide +kernel
theorem dX0_apartFrom_46 : decode cX0_apartFrom 46 = .ok (.iconst 0, 1) := by decide +kernel
theorem dX0_apartFrom_47 : decode cX0_apartFrom 47 = .ok (.istore 4, 2) := by decide +kernel
theorem dX0_apartFrom_49 : decode cX0_apartFrom 49 = .ok (.iconst 0, 1) := by decide +kernel
theorem dX0_apartFrom_50 : decode cX0_apartFrom 50 = .ok (.istore 5, 2) := by decide +kernel
theorem dX0_apartFrom_52 : decode cX0_apartFrom 52 = .ok (.iload 5, 2) := by decide +kernel
theorem dX0_apartFrom_54 : decode cX0_apartFrom 54 = .ok (.aload_n 0, 1) := by decide +kernel
theorem dX0_apartFrom_55 : decode cX0_apartFrom 55 = .ok (.getfield 20, 3) := by decide +kernel
theorem dX0_apartFrom_58 : decode cX0_apartFrom 58 = .ok (.getfield 40, 3) := by decide +kernel
theorem dX0_apartFrom_61 : decode cX0_apartFrom 61 = .ok (.if_icmp .ge 43, 3) := by decide +kernel
theorem dX0_apartFrom_64 : decode cX0_apartFrom 64 = .ok (.iload_n 2, 1) := by decide +kernel
theorem dX0_apartFrom_65 : decode cX0_apartFrom 65 = .ok (.iload 5, 2) := by decide +kernel
theorem dX0_apartFrom_67 : decode cX0_apartFrom 67 = .ok (.invokestatic 47, 3) := by decide +kernel
theorem dX0_apartFrom_70 : decode cX0_apartFrom 70 = .ok (.iconst 1, 1) := by decide +kernel
theorem dX0_apartFrom_71 : decode cX0_apartFrom 71 = .ok (.if_icmp .ne 27, 3) := by decide +kernel
theorem dX0_apartFrom_74 : decode cX0_apartFrom 74 = .ok (.aload_n 0, 1) := by decide +kernel
theorem dX0_apartFrom_75 : decode cX0_apartFrom 75 = .ok (.getfield 20, 3) := by decide +kernel
theorem dX0_apartFrom_78 : decode cX0_apartFrom 78 = .ok (.iload 5, 2) := by decide +kernel
theorem dX0_apartFrom_80 : decode cX0_apartFrom 80 = .ok (.iconst 2, 1) := by decide +kernel
theorem dX0_apartFrom_81 : decode cX0_apartFrom 81 = .ok (.invokevirtual 43, 3) := by decide +kernel
theorem dX0_apartFrom_84 : decode cX0_apartFrom 84 = .ok (.iload_n 3, 1) := by decide +kernel
theorem dX0_apartFrom_85 : decode cX0_apartFrom 85 = .ok (.iand, 1) := by decide +kernel
theorem dX0_apartFrom_86 : decode cX0_apartFrom 86 = .ok (.ifCond .ne 12, 3) := by decide +kernel
theorem dX0_apartFrom_89 : decode cX0_apartFrom 89 = .ok (.iload 4, 2) := by decide +kernel
theorem dX0_apartFrom_91 : decode cX0_apartFrom 91 = .ok (.iconst 1, 1) := by decide +kernel
theorem dX0_apartFrom_92 : decode cX0_apartFrom 92 = .ok (.iload 5, 2) := by decide +kernel
theorem dX0_apartFrom_94 : decode cX0_apartFrom 94 = .ok (.ishl, 1) := by decide +kernel
theorem dX0_apartFrom_95 : decode cX0_apartFrom 95 = .ok (.ior, 1) := by decide +kernel
theorem dX0_apartFrom_96 : decode cX0_apartFrom 96 = .ok (.istore 4, 2) := by decide +kernel
theorem dX0_apartFrom_98 : decode cX0_apartFrom 98 = .ok (.iinc 5 1, 3) := by decide +kernel
theorem dX0_apartFrom_101 : decode cX0_apartFrom 101 = .ok (.goto (-49), 3) := by decide +kernel
theorem dX0_apartFrom_104 : decode cX0_apartFrom 104 = .ok (.iload 4, 2) := by decide +kernel
theorem dX0_apartFrom_106 : decode cX0_apartFrom 106 = .ok (.ireturn, 1) := by decide +kernel
theorem dX0_routeTo_0 : decode cX0_routeTo 0 = .ok (.aload_n 0, 1) := by decide +kernel
theorem dX0_routeTo_1 : decode cX0_routeTo 1 = .ok (.iload_n 2, 1) := by decide +kernel
theorem dX0_routeTo_2 : decode cX0_routeTo 2 = .ok (.invokevirtual 80, 3) := by decide +kernel
theorem dX0_routeTo_5 : decode cX0_routeTo 5 = .ok (.istore_n 3, 1) := by decide +kernel
theorem dX0_routeTo_6 : decode cX0_routeTo 6 = .ok (.bipush (-9), 2) := by decide +kernel
theorem dX0_routeTo_8 : decode cX0_routeTo 8 = .ok (.istore 4, 2) := by decide +kernel
theorem dX0_routeTo_10 : decode cX0_routeTo 10 = .ok (.iconst 0, 1) := by decide +kernel
theorem dX0_routeTo_11 : decode cX0_routeTo 11 = .ok (.istore 5, 2) := by decide +kernel
theorem dX0_routeTo_13 : decode cX0_routeTo 13 = .ok (.iload 5, 2) := by decide +kernel
theorem dX0_routeTo_15 : decode cX0_routeTo 15 = .ok (.aload_n 0, 1) := by decide +kernel
theorem dX0_routeTo_16 : decode cX0_routeTo 16 = .ok (.getfield 20, 3) := by decide +kernel
theorem dX0_routeTo_19 : decode cX0_routeTo 19 = .ok (.getfield 40, 3) := by decide +kernel
theorem dX0_routeTo_22 : decode cX0_routeTo 22 = .ok (.if_icmp .ge 71, 3) := by decide +kernel
theorem dX0_routeTo_25 : decode cX0_routeTo 25 = .ok (.iload_n 3, 1) := by decide +kernel
theorem dX0_routeTo_26 : decode cX0_routeTo 26 = .ok (.iload 5, 2) := by decide +kernel
theorem dX0_routeTo_28 : decode cX0_routeTo 28 = .ok (.invokestatic 47, 3) := by decide +kernel
theorem dX0_routeTo_31 : decode cX0_routeTo 31 = .ok (.iconst 1, 1) := by decide +kernel
theorem dX0_routeTo_32 : decode cX0_routeTo 32 = .ok (.if_icmp .ne 55, 3) := by decide +kernel
theorem dX0_routeTo_35 : decode cX0_routeTo 35 = .ok (.aload_n 0, 1) := by decide +kernel
theorem dX0_routeTo_36 : decode cX0_routeTo 36 = .ok (.getfield 20, 3) := by decide +kernel
theorem dX0_routeTo_39 : decode cX0_routeTo 39 = .ok (.iload 5, 2) := by decide +kernel
theorem dX0_routeTo_41 : decode cX0_routeTo 41 = .ok (.iconst 2, 1) := by decide +kernel
theorem dX0_routeTo_42 : decode cX0_routeTo 42 = .ok (.invokevirtual 43, 3) := by decide +kernel
theorem dX0_routeTo_45 : decode cX0_routeTo 45 = .ok (.iload_n 1, 1) := by decide +kernel
theorem dX0_routeTo_46 : decode cX0_routeTo 46 = .ok (.invokestatic 47, 3) := by decide +kernel
theorem dX0_routeTo_49 : decode cX0_routeTo 49 = .ok (.iconst 1, 1) := by decide +kernel
theorem dX0_routeTo_50 : decode cX0_routeTo 50 = .ok (.if_icmp .ne 37, 3) := by decide +kernel
theorem dX0_routeTo_53 : decode cX0_routeTo 53 = .ok (.iload 4, 2) := by decide +kernel
theorem dX0_routeTo_55 : decode cX0_routeTo 55 = .ok (.bipush (-9), 2) := by decide +kernel
theorem dX0_routeTo_57 : decode cX0_routeTo 57 = .ok (.if_icmp .eq 26, 3) := by decide +kernel
theorem dX0_routeTo_60 : decode cX0_routeTo 60 = .ok (.aload_n 0, 1) := by decide +kernel
theorem dX0_routeTo_61 : decode cX0_routeTo 61 = .ok (.getfield 20, 3) := by decide +kernel
theorem dX0_routeTo_64 : decode cX0_routeTo 64 = .ok (.iload 5, 2) := by decide +kernel
theorem dX0_routeTo_66 : decode cX0_routeTo 66 = .ok (.iconst 1, 1) := by decide +kernel
theorem dX0_routeTo_67 : decode cX0_routeTo 67 = .ok (.invokevirtual 43, 3) := by decide +kernel
theorem dX0_routeTo_70 : decode cX0_routeTo 70 = .ok (.aload_n 0, 1) := by decide +kernel
theorem dX0_routeTo_71 : decode cX0_routeTo 71 = .ok (.getfield 20, 3) := by decide +kernel
theorem dX0_routeTo_74 : decode cX0_routeTo 74 = .ok (.iload 4, 2) := by decide +kernel
theorem dX0_routeTo_76 : decode cX0_routeTo 76 = .ok (.iconst 1, 1) := by decide +kernel
theorem dX0_routeTo_77 : decode cX0_routeTo 77 = .ok (.invokevirtual 43, 3) := by decide +kernel
theorem dX0_routeTo_80 : decode cX0_routeTo 80 = .ok (.if_icmp .le 7, 3) := by decide +kernel
theorem dX0_routeTo_83 : decode cX0_routeTo 83 = .ok (.iload 5, 2) := by decide +kernel
theorem dX0_routeTo_85 : decode cX0_routeTo 85 = .ok (.istore 4, 2) := by decide +kernel
theorem dX0_routeTo_87 : decode cX0_routeTo 87 = .ok (.iinc 5 1, 3) := by decide +kernel
theorem dX0_routeTo_90 : decode cX0_routeTo 90 = .ok (.goto (-77), 3) := by decide +kernel
theorem dX0_routeTo_93 : decode cX0_routeTo 93 = .ok (.iload 4, 2) := by decide +kernel
theorem dX0_routeTo_95 : decode cX0_routeTo 95 = .ok (.ireturn, 1) := by decide +kernel
theorem dX0_agreesWith_0 : decode cX0_agreesWith 0 = .ok (.aload_n 0, 1) := by decide +kernel
theorem dX0_agreesWith_1 : decode cX0_agreesWith 1 = .ok (.invokevirtual 68, 3) := by decide +kernel
theorem dX0_agreesWith_4 : decode cX0_agreesWith 4 = .ok (.istore_n 2, 1) := by decide +kernel
theorem dX0_agreesWith_5 : decode cX0_agreesWith 5 = .ok (.iconst 0, 1) := by decide +kernel
theorem dX0_agreesWith_6 : decode cX0_agreesWith 6 = .ok (.istore_n 3, 1) := by decide +kernel
theorem dX0_agreesWith_7 : decode cX0_agreesWith 7 = .ok (.iload_n 3, 1) := by decide +kernel
theorem dX0_agreesWith_8 : decode cX0_agreesWith 8 = .ok (.aload_n 1, 1) := by decide +kernel
theorem dX0_agreesWith_9 : decode cX0_agreesWith 9 = .ok (.getfield 40, 3) := by decide +kernel
theorem dX0_agreesWith_12 : decode cX0_agreesWith 12 = .ok (.if_icmp .ge 47, 3) := by decide +kernel
theorem dX0_agreesWith_15 : decode cX0_agreesWith 15 = .ok (.aload_n 0, 1) := by decide +kernel
theorem dX0_agreesWith_16 : decode cX0_agreesWith 16 = .ok (.aload_n 1, 1) := by decide +kernel
theorem dX0_agreesWith_17 : decode cX0_agreesWith 17 = .ok (.iload_n 3, 1) := by decide +kernel
theorem dX0_agreesWith_18 : decode cX0_agreesWith 18 = .ok (.iconst 2, 1) := by decide +kernel
theorem dX0_agreesWith_19 : decode cX0_agreesWith 19 = .ok (.invokevirtual 43, 3) := by decide +kernel
theorem dX0_agreesWith_22 : decode cX0_agreesWith 22 = .ok (.aload_n 1, 1) := by decide +kernel
theorem dX0_agreesWith_23 : decode cX0_agreesWith 23 = .ok (.iload_n 3, 1) := by decide +kernel
theorem dX0_agreesWith_24 : decode cX0_agreesWith 24 = .ok (.iconst 1, 1) := by decide +kernel
theorem dX0_agreesWith_25 : decode cX0_agreesWith 25 = .ok (.invokevirtual 43, 3) := by decide +kernel
theorem dX0_agreesWith_28 : decode cX0_agreesWith 28 = .ok (.aload_n 1, 1) := by decide +kernel
theorem dX0_agreesWith_29 : decode cX0_agreesWith 29 = .ok (.iload_n 3, 1) := by decide +kernel
theorem dX0_agreesWith_30 : decode cX0_agreesWith 30 = .ok (.iconst 3, 1) := by decide +kernel
theorem dX0_agreesWith_31 : decode cX0_agreesWith 31 = .ok (.invokevirtual 43, 3) := by decide +kernel
theorem dX0_agreesWith_34 : decode cX0_agreesWith 34 = .ok (.iload_n 2, 1) := by decide +kernel
theorem dX0_agreesWith_35 : decode cX0_agreesWith 35 = .ok (.invokevirtual 61, 3) := by decide +kernel
theorem dX0_agreesWith_38 : decode cX0_agreesWith 38 = .ok (.istore 4, 2) := by decide +kernel
theorem dX0_agreesWith_40 : decode cX0_agreesWith 40 = .ok (.iload 4, 2) := by decide +kernel
theorem dX0_agreesWith_42 : decode cX0_agreesWith 42 = .ok (.aload_n 1, 1) := by decide +kernel
theorem dX0_agreesWith_43 : decode cX0_agreesWith 43 = .ok (.iload_n 3, 1) := by decide +kernel
theorem dX0_agreesWith_44 : decode cX0_agreesWith 44 = .ok (.iconst 4, 1) := by decide +kernel
theorem dX0_agreesWith_45 : decode cX0_agreesWith 45 = .ok (.invokevirtual 43, 3) := by decide +kernel
theorem dX0_agreesWith_48 : decode cX0_agreesWith 48 = .ok (.if_icmp .eq 5, 3) := by decide +kernel
theorem dX0_agreesWith_51 : decode cX0_agreesWith 51 = .ok (.iconst 0, 1) := by decide +kernel
theorem dX0_agreesWith_52 : decode cX0_agreesWith 52 = .ok (.ireturn, 1) := by decide +kernel
theorem dX0_agreesWith_53 : decode cX0_agreesWith 53 = .ok (.iinc 3 1, 3) := by decide +kernel
theorem dX0_agreesWith_56 : decode cX0_agreesWith 56 = .ok (.goto (-49), 3) := by decide +kernel
theorem dX0_agreesWith_59 : decode cX0_agreesWith 59 = .ok (.iconst 1, 1) := by decide +kernel
theorem dX0_agreesWith_60 : decode cX0_agreesWith 60 = .ok (.ireturn, 1) := by decide +kernel
theorem dX0_canBe_0 : decode cX0_canBe 0 = .ok (.iload_n 1, 1) := by decide +kernel
theorem dX0_canBe_1 : decode cX0_canBe 1 = .ok (.bipush 100, 2) := by decide +kernel
theorem dX0_canBe_3 : decode cX0_canBe 3 = .ok (.idiv, 1) := by decide +kernel
theorem dX0_canBe_4 : decode cX0_canBe 4 = .ok (.bipush 10, 2) := by decide +kernel
theorem dX0_canBe_6 : decode cX0_canBe 6 = .ok (.irem, 1) := by decide +kernel
theorem dX0_canBe_7 : decode cX0_canBe 7 = .ok (.istore_n 2, 1) := by decide +kernel
theorem dX0_canBe_8 : decode cX0_canBe 8 = .ok (.iload_n 1, 1) := by decide +kernel
theorem dX0_canBe_9 : decode cX0_canBe 9 = .ok (.bipush 10, 2) := by decide +kernel
theorem dX0_canBe_11 : decode cX0_canBe 11 = .ok (.irem, 1) := by decide +kernel
theorem dX0_canBe_12 : decode cX0_canBe 12 = .ok (.istore_n 3, 1) := by decide +kernel
theorem dX0_canBe_13 : decode cX0_canBe 13 = .ok (.iload_n 1, 1) := by decide +kernel
theorem dX0_canBe_14 : decode cX0_canBe 14 = .ok (.bipush 10, 2) := by decide +kernel
theorem dX0_canBe_16 : decode cX0_canBe 16 = .ok (.idiv, 1) := by decide +kernel
theorem dX0_canBe_17 : decode cX0_canBe 17 = .ok (.bipush 10, 2) := by decide +kernel
theorem dX0_canBe_19 : decode cX0_canBe 19 = .ok (.irem, 1) := by decide +kernel
theorem dX0_canBe_20 : decode cX0_canBe 20 = .ok (.ifCond .ne 7, 3) := by decide +kernel
theorem dX0_canBe_23 : decode cX0_canBe 23 = .ok (.iconst 1, 1) := by decide +kernel
theorem dX0_canBe_24 : decode cX0_canBe 24 = .ok (.goto 4, 3) := by decide +kernel
theorem dX0_canBe_27 : decode cX0_canBe 27 = .ok (.iconst 0, 1) := by decide +kernel
theorem dX0_canBe_28 : decode cX0_canBe 28 = .ok (.istore 4, 2) := by decide +kernel
theorem dX0_canBe_30 : decode cX0_canBe 30 = .ok (.iload_n 1, 1) := by decide +kernel
theorem dX0_canBe_31 : decode cX0_canBe 31 = .ok (.sipush 1000, 3) := by decide +kernel
theorem dX0_canBe_34 : decode cX0_canBe 34 = .ok (.idiv, 1) := by decide +kernel
theorem dX0_canBe_35 : decode cX0_canBe 35 = .ok (.tableswitch 288 1 8 #[45, 68, 94, 117, 156, 193, 231, 265], 45) := by decide +kernel
theorem dX0_canBe_80 : decode cX0_canBe 80 = .ok (.iload 4, 2) := by decide +kernel
theorem dX0_canBe_82 : decode cX0_canBe 82 = .ok (.ifCond .eq 19, 3) := by decide +kernel
theorem dX0_canBe_85 : decode cX0_canBe 85 = .ok (.iload_n 3, 1) := by decide +kernel
theorem dX0_canBe_86 : decode cX0_canBe 86 = .ok (.ifCond .ne 15, 3) := by decide +kernel
theorem dX0_canBe_89 : decode cX0_canBe 89 = .ok (.aload_n 0, 1) := by decide +kernel
theorem dX0_canBe_90 : decode cX0_canBe 90 = .ok (.iload_n 2, 1) := by decide +kernel
theorem dX0_canBe_91 : decode cX0_canBe 91 = .ok (.invokevirtual 83, 3) := by decide +kernel
theorem dX0_canBe_94 : decode cX0_canBe 94 = .ok (.ifCond .eq 7, 3) := by decide +kernel
theorem dX0_canBe_97 : decode cX0_canBe 97 = .ok (.iconst 1, 1) := by decide +kernel
theorem dX0_canBe_98 : decode cX0_canBe 98 = .ok (.goto 4, 3) := by decide +kernel
theorem dX0_canBe_101 : decode cX0_canBe 101 = .ok (.iconst 0, 1) := by decide +kernel
theorem dX0_canBe_102 : decode cX0_canBe 102 = .ok (.ireturn, 1) := by decide +kernel
theorem dX0_canBe_103 : decode cX0_canBe 103 = .ok (.iload 4, 2) := by decide +kernel
theorem dX0_canBe_105 : decode cX0_canBe 105 = .ok (.ifCond .eq 22, 3) := by decide +kernel
theorem dX0_canBe_108 : decode cX0_canBe 108 = .ok (.iload_n 3, 1) := by decide +kernel
theorem dX0_canBe_109 : decode cX0_canBe 109 = .ok (.ifCond .ne 18, 3) := by decide +kernel
theorem dX0_canBe_112 : decode cX0_canBe 112 = .ok (.iload_n 2, 1) := by decide +kernel
theorem dX0_canBe_113 : decode cX0_canBe 113 = .ok (.ifCond .ne 14, 3) := by decide +kernel
theorem dX0_canBe_116 : decode cX0_canBe 116 = .ok (.aload_n 0, 1) := by decide +kernel
theorem dX0_canBe_117 : decode cX0_canBe 117 = .ok (.invokevirtual 87, 3) := by decide +kernel
theorem dX0_canBe_120 : decode cX0_canBe 120 = .ok (.ifCond .eq 7, 3) := by decide +kernel
theorem dX0_canBe_123 : decode cX0_canBe 123 = .ok (.iconst 1, 1) := by decide +kernel
theorem dX0_canBe_124 : decode cX0_canBe 124 = .ok (.goto 4, 3) := by decide +kernel
theorem dX0_canBe_127 : decode cX0_canBe 127 = .ok (.iconst 0, 1) := by decide +kernel
theorem dX0_canBe_128 : decode cX0_canBe 128 = .ok (.ireturn, 1) := by decide +kernel
theorem dX0_canBe_129 : decode cX0_canBe 129 = .ok (.iload 4, 2) := by decide +kernel
theorem dX0_canBe_131 : decode cX0_canBe 131 = .ok (.ifCond .eq 19, 3) := by decide +kernel
theorem dX0_canBe_134 : decode cX0_canBe 134 = .ok (.iload_n 3, 1) := by decide +kernel
theorem dX0_canBe_135 : decode cX0_canBe 135 = .ok (.ifCond .ne 15, 3) := by decide +kernel
theorem dX0_canBe_138 : decode cX0_canBe 138 = .ok (.aload_n 0, 1) := by decide +kernel
theorem dX0_canBe_139 : decode cX0_canBe 139 = .ok (.iload_n 2, 1) := by decide +kernel
theorem dX0_canBe_140 : decode cX0_canBe 140 = .ok (.invokevirtual 91, 3) := by decide +kernel
theorem dX0_canBe_143 : decode cX0_canBe 143 = .ok (.ifCond .eq 7, 3) := by decide +kernel
theorem dX0_canBe_146 : decode cX0_canBe 146 = .ok (.iconst 1, 1) := by decide +kernel
theorem dX0_canBe_147 : decode cX0_canBe 147 = .ok (.goto 4, 3) := by decide +kernel
theorem dX0_canBe_150 : decode cX0_canBe 150 = .ok (.iconst 0, 1) := by decide +kernel
theorem dX0_canBe_151 : decode cX0_canBe 151 = .ok (.ireturn, 1) := by decide +kernel
theorem dX0_canBe_152 : decode cX0_canBe 152 = .ok (.iload 4, 2) := by decide +kernel
theorem dX0_canBe_154 : decode cX0_canBe 154 = .ok (.ifCond .eq 35, 3) := by decide +kernel
theorem dX0_canBe_157 : decode cX0_canBe 157 = .ok (.aload_n 0, 1) := by decide +kernel
theorem dX0_canBe_158 : decode cX0_canBe 158 = .ok (.getfield 20, 3) := by decide +kernel
theorem dX0_canBe_161 : decode cX0_canBe 161 = .ok (.iload_n 2, 1) := by decide +kernel
theorem dX0_canBe_162 : decode cX0_canBe 162 = .ok (.invokevirtual 94, 3) := by decide +kernel
theorem dX0_canBe_165 : decode cX0_canBe 165 = .ok (.ifCond .eq 24, 3) := by decide +kernel
theorem dX0_canBe_168 : decode cX0_canBe 168 = .ok (.aload_n 0, 1) := by decide +kernel
theorem dX0_canBe_169 : decode cX0_canBe 169 = .ok (.iload_n 3, 1) := by decide +kernel
theorem dX0_canBe_170 : decode cX0_canBe 170 = .ok (.aload_n 0, 1) := by decide +kernel
theorem dX0_canBe_171 : decode cX0_canBe 171 = .ok (.invokevirtual 68, 3) := by decide +kernel
theorem dX0_canBe_174 : decode cX0_canBe 174 = .ok (.invokevirtual 65, 3) := by decide +kernel
theorem dX0_canBe_177 : decode cX0_canBe 177 = .ok (.iload_n 2, 1) := by decide +kernel
theorem dX0_canBe_178 : decode cX0_canBe 178 = .ok (.invokestatic 47, 3) := by decide +kernel
theorem dX0_canBe_181 : decode cX0_canBe 181 = .ok (.iconst 1, 1) := by decide +kernel
theorem dX0_canBe_182 : decode cX0_canBe 182 = .ok (.if_icmp .ne 7, 3) := by decide +kernel
theorem dX0_canBe_185 : decode cX0_canBe 185 = .ok (.iconst 1, 1) := by decide +kernel
theorem dX0_canBe_186 : decode cX0_canBe 186 = .ok (.goto 4, 3) := by decide +kernel
theorem dX0_canBe_189 : decode cX0_canBe 189 = .ok (.iconst 0, 1) := by decide +kernel
theorem dX0_canBe_190 : decode cX0_canBe 190 = .ok (.ireturn, 1) := by decide +kernel
theorem dX0_canBe_191 : decode cX0_canBe 191 = .ok (.iload_n 2, 1) := by decide +kernel
theorem dX0_canBe_192 : decode cX0_canBe 192 = .ok (.invokestatic 97, 3) := by decide +kernel
theorem dX0_canBe_195 : decode cX0_canBe 195 = .ok (.ifCond .eq 31, 3) := by decide +kernel
theorem dX0_canBe_198 : decode cX0_canBe 198 = .ok (.iload_n 1, 1) := by decide +kernel
theorem dX0_canBe_199 : decode cX0_canBe 199 = .ok (.bipush 100, 2) := by decide +kernel
theorem dX0_canBe_201 : decode cX0_canBe 201 = .ok (.irem, 1) := by decide +kernel
theorem dX0_canBe_202 : decode cX0_canBe 202 = .ok (.invokestatic 100, 3) := by decide +kernel
theorem dX0_canBe_205 : decode cX0_canBe 205 = .ok (.ifCond .eq 21, 3) := by decide +kernel
theorem dX0_canBe_208 : decode cX0_canBe 208 = .ok (.aload_n 0, 1) := by decide +kernel
theorem dX0_canBe_209 : decode cX0_canBe 209 = .ok (.iload_n 1, 1) := by decide +kernel
theorem dX0_canBe_210 : decode cX0_canBe 210 = .ok (.bipush 100, 2) := by decide +kernel
theorem dX0_canBe_212 : decode cX0_canBe 212 = .ok (.irem, 1) := by decide +kernel
theorem dX0_canBe_213 : decode cX0_canBe 213 = .ok (.iload_n 2, 1) := by decide +kernel
theorem dX0_canBe_214 : decode cX0_canBe 214 = .ok (.invokevirtual 103, 3) := by decide +kernel
theorem dX0_canBe_217 : decode cX0_canBe 217 = .ok (.bipush (-9), 2) := by decide +kernel
theorem dX0_canBe_219 : decode cX0_canBe 219 = .ok (.if_icmp .ne 7, 3) := by decide +kernel
theorem dX0_canBe_222 : decode cX0_canBe 222 = .ok (.iconst 1, 1) := by decide +kernel
theorem dX0_canBe_223 : decode cX0_canBe 223 = .ok (.goto 4, 3) := by decide +kernel
theorem dX0_canBe_226 : decode cX0_canBe 226 = .ok (.iconst 0, 1) := by decide +kernel
theorem dX0_canBe_227 : decode cX0_canBe 227 = .ok (.ireturn, 1) := by decide +kernel
theorem dX0_canBe_228 : decode cX0_canBe 228 = .ok (.iload 4, 2) := by decide +kernel
theorem dX0_canBe_230 : decode cX0_canBe 230 = .ok (.ifCond .eq 34, 3) := by decide +kernel
theorem dX0_canBe_233 : decode cX0_canBe 233 = .ok (.aload_n 0, 1) := by decide +kernel
theorem dX0_canBe_234 : decode cX0_canBe 234 = .ok (.getfield 23, 3) := by decide +kernel
theorem dX0_canBe_237 : decode cX0_canBe 237 = .ok (.iload_n 2, 1) := by decide +kernel
theorem dX0_canBe_238 : decode cX0_canBe 238 = .ok (.invokevirtual 94, 3) := by decide +kernel
theorem dX0_canBe_241 : decode cX0_canBe 241 = .ok (.ifCond .eq 23, 3) := by decide +kernel
theorem dX0_canBe_244 : decode cX0_canBe 244 = .ok (.aload_n 0, 1) := by decide +kernel
theorem dX0_canBe_245 : decode cX0_canBe 245 = .ok (.aload_n 0, 1) := by decide +kernel
theorem dX0_canBe_246 : decode cX0_canBe 246 = .ok (.getfield 30, 3) := by decide +kernel
theorem dX0_canBe_249 : decode cX0_canBe 249 = .ok (.invokevirtual 54, 3) := by decide +kernel
theorem dX0_canBe_252 : decode cX0_canBe 252 = .ok (.iload_n 2, 1) := by decide +kernel
theorem dX0_canBe_253 : decode cX0_canBe 253 = .ok (.invokestatic 47, 3) := by decide +kernel
theorem dX0_canBe_256 : decode cX0_canBe 256 = .ok (.iload_n 3, 1) := by decide +kernel
theorem dX0_canBe_257 : decode cX0_canBe 257 = .ok (.if_icmp .ne 7, 3) := by decide +kernel
theorem dX0_canBe_260 : decode cX0_canBe 260 = .ok (.iconst 1, 1) := by decide +kernel
theorem dX0_canBe_261 : decode cX0_canBe 261 = .ok (.goto 4, 3) := by decide +kernel
theorem dX0_canBe_264 : decode cX0_canBe 264 = .ok (.iconst 0, 1) := by decide +kernel
theorem dX0_canBe_265 : decode cX0_canBe 265 = .ok (.ireturn, 1) := by decide +kernel
theorem dX0_canBe_266 : decode cX0_canBe 266 = .ok (.iload 4, 2) := by decide +kernel
theorem dX0_canBe_268 : decode cX0_canBe 268 = .ok (.ifCond .eq 30, 3) := by decide +kernel
theorem dX0_canBe_271 : decode cX0_canBe 271 = .ok (.aload_n 0, 1) := by decide +kernel
theorem dX0_canBe_272 : decode cX0_canBe 272 = .ok (.getfield 14, 3) := by decide +kernel
theorem dX0_canBe_275 : decode cX0_canBe 275 = .ok (.iload_n 2, 1) := by decide +kernel
theorem dX0_canBe_276 : decode cX0_canBe 276 = .ok (.invokevirtual 94, 3) := by decide +kernel
theorem dX0_canBe_279 : decode cX0_canBe 279 = .ok (.ifCond .eq 19, 3) := by decide +kernel
theorem dX0_canBe_282 : decode cX0_canBe 282 = .ok (.aload_n 0, 1) := by decide +kernel
theorem dX0_canBe_283 : decode cX0_canBe 283 = .ok (.invokevirtual 68, 3) := by decide +kernel
theorem dX0_canBe_286 : decode cX0_canBe 286 = .ok (.iload_n 2, 1) := by decide +kernel
theorem dX0_canBe_287 : decode cX0_canBe 287 = .ok (.invokestatic 47, 3) := by decide +kernel
theorem dX0_canBe_290 : decode cX0_canBe 290 = .ok (.iload_n 3, 1) := by decide +kernel
theorem dX0_canBe_291 : decode cX0_canBe 291 = .ok (.if_icmp .ne 7, 3) := by decide +kernel
theorem dX0_canBe_294 : decode cX0_canBe 294 = .ok (.iconst 1, 1) := by decide +kernel
theorem dX0_canBe_295 : decode cX0_canBe 295 = .ok (.goto 4, 3) := by decide +kernel
theorem dX0_canBe_298 : decode cX0_canBe 298 = .ok (.iconst 0, 1) := by decide +kernel
theorem dX0_canBe_299 : decode cX0_canBe 299 = .ok (.ireturn, 1) := by decide +kernel
theorem dX0_canBe_300 : decode cX0_canBe 300 = .ok (.iload 4, 2) := by decide +kernel
theorem dX0_canBe_302 : decode cX0_canBe 302 = .ok (.ifCond .eq 19, 3) := by decide +kernel
theorem dX0_canBe_305 : decode cX0_canBe 305 = .ok (.iload_n 3, 1) := by decide +kernel
theorem dX0_canBe_306 : decode cX0_canBe 306 = .ok (.ifCond .ne 15, 3) := by decide +kernel
theorem dX0_canBe_309 : decode cX0_canBe 309 = .ok (.aload_n 0, 1) := by decide +kernel
theorem dX0_canBe_310 : decode cX0_canBe 310 = .ok (.iload_n 2, 1) := by decide +kernel
theorem dX0_canBe_311 : decode cX0_canBe 311 = .ok (.invokevirtual 106, 3) := by decide +kernel
theorem dX0_canBe_314 : decode cX0_canBe 314 = .ok (.ifCond .eq 7, 3) := by decide +kernel
theorem dX0_canBe_317 : decode cX0_canBe 317 = .ok (.iconst 1, 1) := by decide +kernel
theorem dX0_canBe_318 : decode cX0_canBe 318 = .ok (.goto 4, 3) := by decide +kernel
theorem dX0_canBe_321 : decode cX0_canBe 321 = .ok (.iconst 0, 1) := by decide +kernel
theorem dX0_canBe_322 : decode cX0_canBe 322 = .ok (.ireturn, 1) := by decide +kernel
theorem dX0_canBe_323 : decode cX0_canBe 323 = .ok (.iconst 0, 1) := by decide +kernel
theorem dX0_canBe_324 : decode cX0_canBe 324 = .ok (.ireturn, 1) := by decide +kernel
theorem dX0_canRevoke_0 : decode cX0_canRevoke 0 = .ok (.iload_n 1, 1) := by decide +kernel
theorem dX0_canRevoke_1 : decode cX0_canRevoke 1 = .ok (.ifCond .eq 14, 3) := by decide +kernel
theorem dX0_canRevoke_4 : decode cX0_canRevoke 4 = .ok (.aload_n 0, 1) := by decide +kernel
theorem dX0_canRevoke_5 : decode cX0_canRevoke 5 = .ok (.getfield 23, 3) := by decide +kernel
theorem dX0_canRevoke_8 : decode cX0_canRevoke 8 = .ok (.iload_n 1, 1) := by decide +kernel
theorem dX0_canRevoke_9 : decode cX0_canRevoke 9 = .ok (.invokevirtual 94, 3) := by decide +kernel
theorem dX0_canRevoke_12 : decode cX0_canRevoke 12 = .ok (.ifCond .ne 5, 3) := by decide +kernel
theorem dX0_canRevoke_15 : decode cX0_canRevoke 15 = .ok (.iconst 0, 1) := by decide +kernel
theorem dX0_canRevoke_16 : decode cX0_canRevoke 16 = .ok (.ireturn, 1) := by decide +kernel
theorem dX0_canRevoke_17 : decode cX0_canRevoke 17 = .ok (.aload_n 0, 1) := by decide +kernel
theorem dX0_canRevoke_18 : decode cX0_canRevoke 18 = .ok (.dup, 1) := by decide +kernel
theorem dX0_canRevoke_19 : decode cX0_canRevoke 19 = .ok (.getfield 30, 3) := by decide +kernel
theorem dX0_canRevoke_22 : decode cX0_canRevoke 22 = .ok (.iconst 1, 1) := by decide +kernel
theorem dX0_canRevoke_23 : decode cX0_canRevoke 23 = .ok (.iload_n 1, 1) := by decide +kernel
theorem dX0_canRevoke_24 : decode cX0_canRevoke 24 = .ok (.ishl, 1) := by decide +kernel
theorem dX0_canRevoke_25 : decode cX0_canRevoke 25 = .ok (.ixor, 1) := by decide +kernel
theorem dX0_canRevoke_26 : decode cX0_canRevoke 26 = .ok (.putfield 30, 3) := by decide +kernel
theorem dX0_canRevoke_29 : decode cX0_canRevoke 29 = .ok (.iconst 1, 1) := by decide +kernel
theorem dX0_canRevoke_30 : decode cX0_canRevoke 30 = .ok (.ireturn, 1) := by decide +kernel
theorem dX0_canPassNight_0 : decode cX0_canPassNight 0 = .ok (.aload_n 0, 1) := by decide +kernel
theorem dX0_canPassNight_1 : decode cX0_canPassNight 1 = .ok (.getfield 37, 3) := by decide +kernel
theorem dX0_canPassNight_4 : decode cX0_canPassNight 4 = .ok (.bipush 9, 2) := by decide +kernel
theorem dX0_canPassNight_6 : decode cX0_canPassNight 6 = .ok (.if_icmp .lt 5, 3) := by decide +kernel
theorem dX0_canPassNight_9 : decode cX0_canPassNight 9 = .ok (.iconst 0, 1) := by decide +kernel
theorem dX0_canPassNight_10 : decode cX0_canPassNight 10 = .ok (.ireturn, 1) := by decide +kernel
theorem dX0_canPassNight_11 : decode cX0_canPassNight 11 = .ok (.aload_n 0, 1) := by decide +kernel
theorem dX0_canPassNight_12 : decode cX0_canPassNight 12 = .ok (.dup, 1) := by decide +kernel
theorem dX0_canPassNight_13 : decode cX0_canPassNight 13 = .ok (.getfield 37, 3) := by decide +kernel
theorem dX0_canPassNight_16 : decode cX0_canPassNight 16 = .ok (.iconst 1, 1) := by decide +kernel
theorem dX0_canPassNight_17 : decode cX0_canPassNight 17 = .ok (.iadd, 1) := by decide +kernel
theorem dX0_canPassNight_18 : decode cX0_canPassNight 18 = .ok (.putfield 37, 3) := by decide +kernel
theorem dX0_canPassNight_21 : decode cX0_canPassNight 21 = .ok (.iconst 1, 1) := by decide +kernel
theorem dX0_canPassNight_22 : decode cX0_canPassNight 22 = .ok (.ireturn, 1) := by decide +kernel
theorem dX0_canSetAside_0 : decode cX0_canSetAside 0 = .ok (.iload_n 1, 1) := by decide +kernel
theorem dX0_canSetAside_1 : decode cX0_canSetAside 1 = .ok (.invokestatic 109, 3) := by decide +kernel
theorem dX0_canSetAside_4 : decode cX0_canSetAside 4 = .ok (.ifCond .ne 5, 3) := by decide +kernel
theorem dX0_canSetAside_7 : decode cX0_canSetAside 7 = .ok (.iconst 0, 1) := by decide +kernel
theorem dX0_canSetAside_8 : decode cX0_canSetAside 8 = .ok (.ireturn, 1) := by decide +kernel
theorem dX0_canSetAside_9 : decode cX0_canSetAside 9 = .ok (.aload_n 0, 1) := by decide +kernel
theorem dX0_canSetAside_10 : decode cX0_canSetAside 10 = .ok (.dup, 1) := by decide +kernel
theorem dX0_canSetAside_11 : decode cX0_canSetAside 11 = .ok (.getfield 34, 3) := by decide +kernel
theorem dX0_canSetAside_14 : decode cX0_canSetAside 14 = .ok (.iconst 1, 1) := by decide +kernel
theorem dX0_canSetAside_15 : decode cX0_canSetAside 15 = .ok (.iload_n 1, 1) := by decide +kernel
theorem dX0_canSetAside_16 : decode cX0_canSetAside 16 = .ok (.ishl, 1) := by decide +kernel
theorem dX0_canSetAside_17 : decode cX0_canSetAside 17 = .ok (.ixor, 1) := by decide +kernel
theorem dX0_canSetAside_18 : decode cX0_canSetAside 18 = .ok (.putfield 34, 3) := by decide +kernel
theorem dX0_canSetAside_21 : decode cX0_canSetAside 21 = .ok (.iconst 1, 1) := by decide +kernel
theorem dX0_canSetAside_22 : decode cX0_canSetAside 22 = .ok (.ireturn, 1) := by decide +kernel
theorem dX0_canWithdraw_0 : decode cX0_canWithdraw 0 = .ok (.aload_n 0, 1) := by decide +kernel
theorem dX0_canWithdraw_1 : decode cX0_canWithdraw 1 = .ok (.getfield 20, 3) := by decide +kernel
theorem dX0_canWithdraw_4 : decode cX0_canWithdraw 4 = .ok (.iload_n 1, 1) := by decide +kernel
theorem dX0_canWithdraw_5 : decode cX0_canWithdraw 5 = .ok (.invokevirtual 94, 3) := by decide +kernel
theorem dX0_canWithdraw_8 : decode cX0_canWithdraw 8 = .ok (.ifCond .ne 5, 3) := by decide +kernel
theorem dX0_canWithdraw_11 : decode cX0_canWithdraw 11 = .ok (.iconst 0, 1) := by decide +kernel
theorem dX0_canWithdraw_12 : decode cX0_canWithdraw 12 = .ok (.ireturn, 1) := by decide +kernel
theorem dX0_canWithdraw_13 : decode cX0_canWithdraw 13 = .ok (.aload_n 0, 1) := by decide +kernel
theorem dX0_canWithdraw_14 : decode cX0_canWithdraw 14 = .ok (.getfield 20, 3) := by decide +kernel
theorem dX0_canWithdraw_17 : decode cX0_canWithdraw 17 = .ok (.iload_n 1, 1) := by decide +kernel
theorem dX0_canWithdraw_18 : decode cX0_canWithdraw 18 = .ok (.invokevirtual 112, 3) := by decide +kernel
theorem dX0_canWithdraw_21 : decode cX0_canWithdraw 21 = .ok (.iconst 1, 1) := by decide +kernel
theorem dX0_canWithdraw_22 : decode cX0_canWithdraw 22 = .ok (.ireturn, 1) := by decide +kernel
theorem dX1_init_0 : decode cX1_init 0 = .ok (.aload_n 0, 1) := by decide +kernel
theorem dX1_init_1 : decode cX1_init 1 = .ok (.invokespecial 3, 3) := by decide +kernel
theorem dX1_init_4 : decode cX1_init 4 = .ok (.aload_n 0, 1) := by decide +kernel
theorem dX1_init_5 : decode cX1_init 5 = .ok (.iload_n 1, 1) := by decide +kernel
theorem dX1_init_6 : decode cX1_init 6 = .ok (.iconst 0, 1) := by decide +kernel
theorem dX1_init_7 : decode cX1_init 7 = .ok (.invokestatic 9, 3) := by decide +kernel
theorem dX1_init_10 : decode cX1_init 10 = .ok (.putfield 15, 3) := by decide +kernel
theorem dX1_init_13 : decode cX1_init 13 = .ok (.aload_n 0, 1) := by decide +kernel
theorem dX1_init_14 : decode cX1_init 14 = .ok (.iload_n 2, 1) := by decide +kernel
theorem dX1_init_15 : decode cX1_init 15 = .ok (.iconst 0, 1) := by decide +kernel
theorem dX1_init_16 : decode cX1_init 16 = .ok (.invokestatic 9, 3) := by decide +kernel
theorem dX1_init_19 : decode cX1_init 19 = .ok (.putfield 21, 3) := by decide +kernel
theorem dX1_init_22 : decode cX1_init 22 = .ok (.aload_n 0, 1) := by decide +kernel
theorem dX1_init_23 : decode cX1_init 23 = .ok (.aload_n 0, 1) := by decide +kernel
theorem dX1_init_24 : decode cX1_init 24 = .ok (.getfield 15, 3) := by decide +kernel
theorem dX1_init_27 : decode cX1_init 27 = .ok (.aload_n 0, 1) := by decide +kernel
theorem dX1_init_28 : decode cX1_init 28 = .ok (.getfield 21, 3) := by decide +kernel
theorem dX1_init_31 : decode cX1_init 31 = .ok (.imul, 1) := by decide +kernel
theorem dX1_init_32 : decode cX1_init 32 = .ok (.newarray .int, 2) := by decide +kernel
theorem dX1_init_34 : decode cX1_init 34 = .ok (.putfield 24, 3) := by decide +kernel
theorem dX1_init_37 : decode cX1_init 37 = .ok (.return_, 1) := by decide +kernel
theorem dX1_has_0 : decode cX1_has 0 = .ok (.iload_n 1, 1) := by decide +kernel
theorem dX1_has_1 : decode cX1_has 1 = .ok (.ifCond .lt 15, 3) := by decide +kernel
theorem dX1_has_4 : decode cX1_has 4 = .ok (.iload_n 1, 1) := by decide +kernel
theorem dX1_has_5 : decode cX1_has 5 = .ok (.aload_n 0, 1) := by decide +kernel
theorem dX1_has_6 : decode cX1_has 6 = .ok (.getfield 28, 3) := by decide +kernel
theorem dX1_has_9 : decode cX1_has 9 = .ok (.if_icmp .ge 7, 3) := by decide +kernel
theorem dX1_has_12 : decode cX1_has 12 = .ok (.iconst 1, 1) := by decide +kernel
theorem dX1_has_13 : decode cX1_has 13 = .ok (.goto 4, 3) := by decide +kernel
theorem dX1_has_16 : decode cX1_has 16 = .ok (.iconst 0, 1) := by decide +kernel
theorem dX1_has_17 : decode cX1_has 17 = .ok (.ireturn, 1) := by decide +kernel
theorem dX1_at_0 : decode cX1_at 0 = .ok (.iload_n 1, 1) := by decide +kernel
theorem dX1_at_1 : decode cX1_at 1 = .ok (.ifCond .lt 23, 3) := by decide +kernel
theorem dX1_at_4 : decode cX1_at 4 = .ok (.iload_n 1, 1) := by decide +kernel
theorem dX1_at_5 : decode cX1_at 5 = .ok (.aload_n 0, 1) := by decide +kernel
theorem dX1_at_6 : decode cX1_at 6 = .ok (.getfield 28, 3) := by decide +kernel
theorem dX1_at_9 : decode cX1_at 9 = .ok (.if_icmp .ge 15, 3) := by decide +kernel
theorem dX1_at_12 : decode cX1_at 12 = .ok (.iload_n 2, 1) := by decide +kernel
theorem dX1_at_13 : decode cX1_at 13 = .ok (.ifCond .lt 11, 3) := by decide +kernel
theorem dX1_at_16 : decode cX1_at 16 = .ok (.iload_n 2, 1) := by decide +kernel
theorem dX1_at_17 : decode cX1_at 17 = .ok (.aload_n 0, 1) := by decide +kernel
theorem dX1_at_18 : decode cX1_at 18 = .ok (.getfield 21, 3) := by decide +kernel
theorem dX1_at_21 : decode cX1_at 21 = .ok (.if_icmp .lt 5, 3) := by decide +kernel
theorem dX1_at_24 : decode cX1_at 24 = .ok (.iconst 0, 1) := by decide +kernel
theorem dX1_at_25 : decode cX1_at 25 = .ok (.ireturn, 1) := by decide +kernel
theorem dX1_at_26 : decode cX1_at 26 = .ok (.aload_n 0, 1) := by decide +kernel
theorem dX1_at_27 : decode cX1_at 27 = .ok (.getfield 24, 3) := by decide +kernel
theorem dX1_at_30 : decode cX1_at 30 = .ok (.iload_n 1, 1) := by decide +kernel
theorem dX1_at_31 : decode cX1_at 31 = .ok (.aload_n 0, 1) := by decide +kernel
theorem dX1_at_32 : decode cX1_at 32 = .ok (.getfield 21, 3) := by decide +kernel
theorem dX1_at_35 : decode cX1_at 35 = .ok (.imul, 1) := by decide +kernel
theorem dX1_at_36 : decode cX1_at 36 = .ok (.iload_n 2, 1) := by decide +kernel
theorem dX1_at_37 : decode cX1_at 37 = .ok (.iadd, 1) := by decide +kernel
theorem dX1_at_38 : decode cX1_at 38 = .ok (.iaload, 1) := by decide +kernel
theorem dX1_at_39 : decode cX1_at 39 = .ok (.ireturn, 1) := by decide +kernel
theorem dX1_put_0 : decode cX1_put 0 = .ok (.iload_n 1, 1) := by decide +kernel
theorem dX1_put_1 : decode cX1_put 1 = .ok (.ifCond .lt 37, 3) := by decide +kernel
theorem dX1_put_4 : decode cX1_put 4 = .ok (.iload_n 1, 1) := by decide +kernel
theorem dX1_put_5 : decode cX1_put 5 = .ok (.aload_n 0, 1) := by decide +kernel
theorem dX1_put_6 : decode cX1_put 6 = .ok (.getfield 28, 3) := by decide +kernel
theorem dX1_put_9 : decode cX1_put 9 = .ok (.if_icmp .ge 29, 3) := by decide +kernel
theorem dX1_put_12 : decode cX1_put 12 = .ok (.iload_n 2, 1) := by decide +kernel
theorem dX1_put_13 : decode cX1_put 13 = .ok (.ifCond .lt 25, 3) := by decide +kernel
theorem dX1_put_16 : decode cX1_put 16 = .ok (.iload_n 2, 1) := by decide +kernel
theorem dX1_put_17 : decode cX1_put 17 = .ok (.aload_n 0, 1) := by decide +kernel
theorem dX1_put_18 : decode cX1_put 18 = .ok (.getfield 21, 3) := by decide +kernel
theorem dX1_put_21 : decode cX1_put 21 = .ok (.if_icmp .ge 17, 3) := by decide +kernel
theorem dX1_put_24 : decode cX1_put 24 = .ok (.aload_n 0, 1) := by decide +kernel
theorem dX1_put_25 : decode cX1_put 25 = .ok (.getfield 24, 3) := by decide +kernel
theorem dX1_put_28 : decode cX1_put 28 = .ok (.iload_n 1, 1) := by decide +kernel
theorem dX1_put_29 : decode cX1_put 29 = .ok (.aload_n 0, 1) := by decide +kernel
theorem dX1_put_30 : decode cX1_put 30 = .ok (.getfield 21, 3) := by decide +kernel
theorem dX1_put_33 : decode cX1_put 33 = .ok (.imul, 1) := by decide +kernel
theorem dX1_put_34 : decode cX1_put 34 = .ok (.iload_n 2, 1) := by decide +kernel
theorem dX1_put_35 : decode cX1_put 35 = .ok (.iadd, 1) := by decide +kernel
theorem dX1_put_36 : decode cX1_put 36 = .ok (.iload_n 3, 1) := by decide +kernel
theorem dX1_put_37 : decode cX1_put 37 = .ok (.iastore, 1) := by decide +kernel
theorem dX1_put_38 : decode cX1_put 38 = .ok (.return_, 1) := by decide +kernel
theorem dX1_addRange_0 : decode cX1_addRange 0 = .ok (.aload_n 0, 1) := by decide +kernel
theorem dX1_addRange_1 : decode cX1_addRange 1 = .ok (.getfield 28, 3) := by decide +kernel
theorem dX1_addRange_4 : decode cX1_addRange 4 = .ok (.istore 6, 2) := by decide +kernel
theorem dX1_addRange_6 : decode cX1_addRange 6 = .ok (.aload_n 0, 1) := by decide +kernel
theorem dX1_addRange_7 : decode cX1_addRange 7 = .ok (.iload 6, 2) := by decide +kernel
theorem dX1_addRange_9 : decode cX1_addRange 9 = .ok (.invokevirtual 31, 3) := by decide +kernel
theorem dX1_addRange_12 : decode cX1_addRange 12 = .ok (.aload_n 0, 1) := by decide +kernel
theorem dX1_addRange_13 : decode cX1_addRange 13 = .ok (.iload 6, 2) := by decide +kernel
theorem dX1_addRange_15 : decode cX1_addRange 15 = .ok (.iconst 0, 1) := by decide +kernel
theorem dX1_addRange_16 : decode cX1_addRange 16 = .ok (.iload_n 1, 1) := by decide +kernel
theorem dX1_addRange_17 : decode cX1_addRange 17 = .ok (.invokevirtual 35, 3) := by decide +kernel
theorem dX1_addRange_20 : decode cX1_addRange 20 = .ok (.aload_n 0, 1) := by decide +kernel
theorem dX1_addRange_21 : decode cX1_addRange 21 = .ok (.iload 6, 2) := by decide +kernel
theorem dX1_addRange_23 : decode cX1_addRange 23 = .ok (.iconst 1, 1) := by decide +kernel
theorem dX1_addRange_24 : decode cX1_addRange 24 = .ok (.iload_n 2, 1) := by decide +kernel
theorem dX1_addRange_25 : decode cX1_addRange 25 = .ok (.invokevirtual 35, 3) := by decide +kernel
theorem dX1_addRange_28 : decode cX1_addRange 28 = .ok (.aload_n 0, 1) := by decide +kernel
theorem dX1_addRange_29 : decode cX1_addRange 29 = .ok (.iload 6, 2) := by decide +kernel
theorem dX1_addRange_31 : decode cX1_addRange 31 = .ok (.iconst 2, 1) := by decide +kernel
theorem dX1_addRange_32 : decode cX1_addRange 32 = .ok (.iload_n 1, 1) := by decide +kernel
theorem dX1_addRange_33 : decode cX1_addRange 33 = .ok (.iload_n 2, 1) := by decide +kernel
theorem dX1_addRange_34 : decode cX1_addRange 34 = .ok (.invokestatic 39, 3) := by decide +kernel
theorem dX1_addRange_37 : decode cX1_addRange 37 = .ok (.invokevirtual 35, 3) := by decide +kernel
theorem dX1_addRange_40 : decode cX1_addRange 40 = .ok (.aload_n 0, 1) := by decide +kernel
theorem dX1_addRange_41 : decode cX1_addRange 41 = .ok (.iload 6, 2) := by decide +kernel
theorem dX1_addRange_43 : decode cX1_addRange 43 = .ok (.iconst 3, 1) := by decide +kernel
theorem dX1_addRange_44 : decode cX1_addRange 44 = .ok (.iload_n 3, 1) := by decide +kernel
theorem dX1_addRange_45 : decode cX1_addRange 45 = .ok (.invokevirtual 35, 3) := by decide +kernel
theorem dX1_addRange_48 : decode cX1_addRange 48 = .ok (.aload_n 0, 1) := by decide +kernel
theorem dX1_addRange_49 : decode cX1_addRange 49 = .ok (.iload 6, 2) := by decide +kernel
theorem dX1_addRange_51 : decode cX1_addRange 51 = .ok (.iconst 4, 1) := by decide +kernel
theorem dX1_addRange_52 : decode cX1_addRange 52 = .ok (.iload 4, 2) := by decide +kernel
theorem dX1_addRange_54 : decode cX1_addRange 54 = .ok (.invokevirtual 35, 3) := by decide +kernel
theorem dX1_addRange_57 : decode cX1_addRange 57 = .ok (.aload_n 0, 1) := by decide +kernel
theorem dX1_addRange_58 : decode cX1_addRange 58 = .ok (.iload 6, 2) := by decide +kernel
theorem dX1_addRange_60 : decode cX1_addRange 60 = .ok (.iconst 5, 1) := by decide +kernel
theorem dX1_addRange_61 : decode cX1_addRange 61 = .ok (.iload 5, 2) := by decide +kernel
theorem dX1_addRange_63 : decode cX1_addRange 63 = .ok (.invokevirtual 35, 3) := by decide +kernel
theorem dX1_addRange_66 : decode cX1_addRange 66 = .ok (.iload 6, 2) := by decide +kernel
theorem dX1_addRange_68 : decode cX1_addRange 68 = .ok (.ireturn, 1) := by decide +kernel
theorem dX1_openAt_0 : decode cX1_openAt 0 = .ok (.iload_n 1, 1) := by decide +kernel
theorem dX1_openAt_1 : decode cX1_openAt 1 = .ok (.ifCond .lt 22, 3) := by decide +kernel
theorem dX1_openAt_4 : decode cX1_openAt 4 = .ok (.iload_n 1, 1) := by decide +kernel
theorem dX1_openAt_5 : decode cX1_openAt 5 = .ok (.aload_n 0, 1) := by decide +kernel
theorem dX1_openAt_6 : decode cX1_openAt 6 = .ok (.getfield 28, 3) := by decide +kernel
theorem dX1_openAt_9 : decode cX1_openAt 9 = .ok (.if_icmp .gt 14, 3) := by decide +kernel
theorem dX1_openAt_12 : decode cX1_openAt 12 = .ok (.aload_n 0, 1) := by decide +kernel
theorem dX1_openAt_13 : decode cX1_openAt 13 = .ok (.getfield 28, 3) := by decide +kernel
theorem dX1_openAt_16 : decode cX1_openAt 16 = .ok (.aload_n 0, 1) := by decide +kernel
theorem dX1_openAt_17 : decode cX1_openAt 17 = .ok (.getfield 15, 3) := by decide +kernel
theorem dX1_openAt_20 : decode cX1_openAt 20 = .ok (.if_icmp .lt 4, 3) := by decide +kernel
theorem dX1_openAt_23 : decode cX1_openAt 23 = .ok (.return_, 1) := by decide +kernel
theorem dX1_openAt_24 : decode cX1_openAt 24 = .ok (.aload_n 0, 1) := by decide +kernel
theorem dX1_openAt_25 : decode cX1_openAt 25 = .ok (.getfield 24, 3) := by decide +kernel
theorem dX1_openAt_28 : decode cX1_openAt 28 = .ok (.iload_n 1, 1) := by decide +kernel
theorem dX1_openAt_29 : decode cX1_openAt 29 = .ok (.aload_n 0, 1) := by decide +kernel
theorem dX1_openAt_30 : decode cX1_openAt 30 = .ok (.getfield 21, 3) := by decide +kernel
theorem dX1_openAt_33 : decode cX1_openAt 33 = .ok (.imul, 1) := by decide +kernel
theorem dX1_openAt_34 : decode cX1_openAt 34 = .ok (.aload_n 0, 1) := by decide +kernel
theorem dX1_openAt_35 : decode cX1_openAt 35 = .ok (.getfield 24, 3) := by decide +kernel
theorem dX1_openAt_38 : decode cX1_openAt 38 = .ok (.iload_n 1, 1) := by decide +kernel
theorem dX1_openAt_39 : decode cX1_openAt 39 = .ok (.iconst 1, 1) := by decide +kernel
theorem dX1_openAt_40 : decode cX1_openAt 40 = .ok (.iadd, 1) := by decide +kernel
theorem dX1_openAt_41 : decode cX1_openAt 41 = .ok (.aload_n 0, 1) := by decide +kernel
theorem dX1_openAt_42 : decode cX1_openAt 42 = .ok (.getfield 21, 3) := by decide +kernel
theorem dX1_openAt_45 : decode cX1_openAt 45 = .ok (.imul, 1) := by decide +kernel
theorem dX1_openAt_46 : decode cX1_openAt 46 = .ok (.aload_n 0, 1) := by decide +kernel
theorem dX1_openAt_47 : decode cX1_openAt 47 = .ok (.getfield 28, 3) := by decide +kernel
theorem dX1_openAt_50 : decode cX1_openAt 50 = .ok (.iload_n 1, 1) := by decide +kernel
theorem dX1_openAt_51 : decode cX1_openAt 51 = .ok (.isub, 1) := by decide +kernel
theorem dX1_openAt_52 : decode cX1_openAt 52 = .ok (.aload_n 0, 1) := by decide +kernel
theorem dX1_openAt_53 : decode cX1_openAt 53 = .ok (.getfield 21, 3) := by decide +kernel
theorem dX1_openAt_56 : decode cX1_openAt 56 = .ok (.imul, 1) := by decide +kernel
theorem dX1_openAt_57 : decode cX1_openAt 57 = .ok (.invokestatic 42, 3) := by decide +kernel
theorem dX1_openAt_60 : decode cX1_openAt 60 = .ok (.aload_n 0, 1) := by decide +kernel
theorem dX1_openAt_61 : decode cX1_openAt 61 = .ok (.dup, 1) := by decide +kernel
theorem dX1_openAt_62 : decode cX1_openAt 62 = .ok (.getfield 28, 3) := by decide +kernel
theorem dX1_openAt_65 : decode cX1_openAt 65 = .ok (.iconst 1, 1) := by decide +kernel
theorem dX1_openAt_66 : decode cX1_openAt 66 = .ok (.iadd, 1) := by decide +kernel
theorem dX1_openAt_67 : decode cX1_openAt 67 = .ok (.putfield 28, 3) := by decide +kernel
theorem dX1_openAt_70 : decode cX1_openAt 70 = .ok (.return_, 1) := by decide +kernel
theorem dX1_closeAt_0 : decode cX1_closeAt 0 = .ok (.iload_n 1, 1) := by decide +kernel
theorem dX1_closeAt_1 : decode cX1_closeAt 1 = .ok (.ifCond .lt 11, 3) := by decide +kernel
theorem dX1_closeAt_4 : decode cX1_closeAt 4 = .ok (.iload_n 1, 1) := by decide +kernel
theorem dX1_closeAt_5 : decode cX1_closeAt 5 = .ok (.aload_n 0, 1) := by decide +kernel
theorem dX1_closeAt_6 : decode cX1_closeAt 6 = .ok (.getfield 28, 3) := by decide +kernel
theorem dX1_closeAt_9 : decode cX1_closeAt 9 = .ok (.if_icmp .lt 4, 3) := by decide +kernel
theorem dX1_closeAt_12 : decode cX1_closeAt 12 = .ok (.return_, 1) := by decide +kernel
theorem dX1_closeAt_13 : decode cX1_closeAt 13 = .ok (.aload_n 0, 1) := by decide +kernel
theorem dX1_closeAt_14 : decode cX1_closeAt 14 = .ok (.dup, 1) := by decide +kernel
theorem dX1_closeAt_15 : decode cX1_closeAt 15 = .ok (.getfield 28, 3) := by decide +kernel
theorem dX1_closeAt_18 : decode cX1_closeAt 18 = .ok (.iconst 1, 1) := by decide +kernel
theorem dX1_closeAt_19 : decode cX1_closeAt 19 = .ok (.isub, 1) := by decide +kernel
theorem dX1_closeAt_20 : decode cX1_closeAt 20 = .ok (.putfield 28, 3) := by decide +kernel
theorem dX1_closeAt_23 : decode cX1_closeAt 23 = .ok (.aload_n 0, 1) := by decide +kernel
theorem dX1_closeAt_24 : decode cX1_closeAt 24 = .ok (.getfield 24, 3) := by decide +kernel
theorem dX1_closeAt_27 : decode cX1_closeAt 27 = .ok (.iload_n 1, 1) := by decide +kernel
theorem dX1_closeAt_28 : decode cX1_closeAt 28 = .ok (.iconst 1, 1) := by decide +kernel
theorem dX1_closeAt_29 : decode cX1_closeAt 29 = .ok (.iadd, 1) := by decide +kernel
theorem dX1_closeAt_30 : decode cX1_closeAt 30 = .ok (.aload_n 0, 1) := by decide +kernel
theorem dX1_closeAt_31 : decode cX1_closeAt 31 = .ok (.getfield 21, 3) := by decide +kernel
theorem dX1_closeAt_34 : decode cX1_closeAt 34 = .ok (.imul, 1) := by decide +kernel
theorem dX1_closeAt_35 : decode cX1_closeAt 35 = .ok (.aload_n 0, 1) := by decide +kernel
theorem dX1_closeAt_36 : decode cX1_closeAt 36 = .ok (.getfield 24, 3) := by decide +kernel
theorem dX1_closeAt_39 : decode cX1_closeAt 39 = .ok (.iload_n 1, 1) := by decide +kernel
theorem dX1_closeAt_40 : decode cX1_closeAt 40 = .ok (.aload_n 0, 1) := by decide +kernel
theorem dX1_closeAt_41 : decode cX1_closeAt 41 = .ok (.getfield 21, 3) := by decide +kernel
theorem dX1_closeAt_44 : decode cX1_closeAt 44 = .ok (.imul, 1) := by decide +kernel
theorem dX1_closeAt_45 : decode cX1_closeAt 45 = .ok (.aload_n 0, 1) := by decide +kernel
theorem dX1_closeAt_46 : decode cX1_closeAt 46 = .ok (.getfield 28, 3) := by decide +kernel
theorem dX1_closeAt_49 : decode cX1_closeAt 49 = .ok (.iload_n 1, 1) := by decide +kernel
theorem dX1_closeAt_50 : decode cX1_closeAt 50 = .ok (.isub, 1) := by decide +kernel
theorem dX1_closeAt_51 : decode cX1_closeAt 51 = .ok (.aload_n 0, 1) := by decide +kernel
theorem dX1_closeAt_52 : decode cX1_closeAt 52 = .ok (.getfield 21, 3) := by decide +kernel
theorem dX1_closeAt_55 : decode cX1_closeAt 55 = .ok (.imul, 1) := by decide +kernel
theorem dX1_closeAt_56 : decode cX1_closeAt 56 = .ok (.invokestatic 42, 3) := by decide +kernel
theorem dX1_closeAt_59 : decode cX1_closeAt 59 = .ok (.return_, 1) := by decide +kernel
theorem dX1_copyFrom_0 : decode cX1_copyFrom 0 = .ok (.aload_n 1, 1) := by decide +kernel
theorem dX1_copyFrom_1 : decode cX1_copyFrom 1 = .ok (.getfield 21, 3) := by decide +kernel
theorem dX1_copyFrom_4 : decode cX1_copyFrom 4 = .ok (.aload_n 0, 1) := by decide +kernel
theorem dX1_copyFrom_5 : decode cX1_copyFrom 5 = .ok (.getfield 21, 3) := by decide +kernel
theorem dX1_copyFrom_8 : decode cX1_copyFrom 8 = .ok (.if_icmp .ne 14, 3) := by decide +kernel
theorem dX1_copyFrom_11 : decode cX1_copyFrom 11 = .ok (.aload_n 1, 1) := by decide +kernel
theorem dX1_copyFrom_12 : decode cX1_copyFrom 12 = .ok (.getfield 28, 3) := by decide +kernel
theorem dX1_copyFrom_15 : decode cX1_copyFrom 15 = .ok (.aload_n 0, 1) := by decide +kernel
theorem dX1_copyFrom_16 : decode cX1_copyFrom 16 = .ok (.getfield 15, 3) := by decide +kernel
theorem dX1_copyFrom_19 : decode cX1_copyFrom 19 = .ok (.if_icmp .le 4, 3) := by decide +kernel
theorem dX1_copyFrom_22 : decode cX1_copyFrom 22 = .ok (.return_, 1) := by decide +kernel
theorem dX1_copyFrom_23 : decode cX1_copyFrom 23 = .ok (.aload_n 1, 1) := by decide +kernel
theorem dX1_copyFrom_24 : decode cX1_copyFrom 24 = .ok (.getfield 24, 3) := by decide +kernel
theorem dX1_copyFrom_27 : decode cX1_copyFrom 27 = .ok (.iconst 0, 1) := by decide +kernel
theorem dX1_copyFrom_28 : decode cX1_copyFrom 28 = .ok (.aload_n 0, 1) := by decide +kernel
theorem dX1_copyFrom_29 : decode cX1_copyFrom 29 = .ok (.getfield 24, 3) := by decide +kernel
theorem dX1_copyFrom_32 : decode cX1_copyFrom 32 = .ok (.iconst 0, 1) := by decide +kernel
theorem dX1_copyFrom_33 : decode cX1_copyFrom 33 = .ok (.aload_n 1, 1) := by decide +kernel
theorem dX1_copyFrom_34 : decode cX1_copyFrom 34 = .ok (.getfield 28, 3) := by decide +kernel
theorem dX1_copyFrom_37 : decode cX1_copyFrom 37 = .ok (.aload_n 0, 1) := by decide +kernel
theorem dX1_copyFrom_38 : decode cX1_copyFrom 38 = .ok (.getfield 21, 3) := by decide +kernel
theorem dX1_copyFrom_41 : decode cX1_copyFrom 41 = .ok (.imul, 1) := by decide +kernel
theorem dX1_copyFrom_42 : decode cX1_copyFrom 42 = .ok (.invokestatic 42, 3) := by decide +kernel
theorem dX1_copyFrom_45 : decode cX1_copyFrom 45 = .ok (.aload_n 0, 1) := by decide +kernel
theorem dX1_copyFrom_46 : decode cX1_copyFrom 46 = .ok (.aload_n 1, 1) := by decide +kernel
theorem dX1_copyFrom_47 : decode cX1_copyFrom 47 = .ok (.getfield 28, 3) := by decide +kernel
theorem dX1_copyFrom_50 : decode cX1_copyFrom 50 = .ok (.putfield 28, 3) := by decide +kernel
theorem dX1_copyFrom_53 : decode cX1_copyFrom 53 = .ok (.return_, 1) := by decide +kernel
theorem dX2_init_0 : decode cX2_init 0 = .ok (.aload_n 0, 1) := by decide +kernel
theorem dX2_init_1 : decode cX2_init 1 = .ok (.invokespecial 3, 3) := by decide +kernel
theorem dX2_init_4 : decode cX2_init 4 = .ok (.aload_n 0, 1) := by decide +kernel
theorem dX2_init_5 : decode cX2_init 5 = .ok (.bipush 99, 2) := by decide +kernel
theorem dX2_init_7 : decode cX2_init 7 = .ok (.newarray .char, 2) := by decide +kernel
theorem dX2_init_9 : decode cX2_init 9 = .ok (.putfield 9, 3) := by decide +kernel
theorem dX2_init_12 : decode cX2_init 12 = .ok (.aload_n 0, 1) := by decide +kernel
theorem dX2_init_13 : decode cX2_init 13 = .ok (.new 15, 3) := by decide +kernel
theorem dX2_init_16 : decode cX2_init 16 = .ok (.dup, 1) := by decide +kernel
theorem dX2_init_17 : decode cX2_init 17 = .ok (.bipush 6, 2) := by decide +kernel
theorem dX2_init_19 : decode cX2_init 19 = .ok (.iconst 5, 1) := by decide +kernel
theorem dX2_init_20 : decode cX2_init 20 = .ok (.invokespecial 17, 3) := by decide +kernel
theorem dX2_init_23 : decode cX2_init 23 = .ok (.putfield 20, 3) := by decide +kernel
theorem dX2_init_26 : decode cX2_init 26 = .ok (.aload_n 0, 1) := by decide +kernel
theorem dX2_init_27 : decode cX2_init 27 = .ok (.new 15, 3) := by decide +kernel
theorem dX2_init_30 : decode cX2_init 30 = .ok (.dup, 1) := by decide +kernel
theorem dX2_init_31 : decode cX2_init 31 = .ok (.bipush 8, 2) := by decide +kernel
theorem dX2_init_33 : decode cX2_init 33 = .ok (.bipush 6, 2) := by decide +kernel
theorem dX2_init_35 : decode cX2_init 35 = .ok (.invokespecial 17, 3) := by decide +kernel
theorem dX2_init_38 : decode cX2_init 38 = .ok (.putfield 24, 3) := by decide +kernel
theorem dX2_init_41 : decode cX2_init 41 = .ok (.aload_n 0, 1) := by decide +kernel
theorem dX2_init_42 : decode cX2_init 42 = .ok (.new 15, 3) := by decide +kernel
theorem dX2_init_45 : decode cX2_init 45 = .ok (.dup, 1) := by decide +kernel
theorem dX2_init_46 : decode cX2_init 46 = .ok (.bipush 6, 2) := by decide +kernel
theorem dX2_init_48 : decode cX2_init 48 = .ok (.iconst 4, 1) := by decide +kernel
theorem dX2_init_49 : decode cX2_init 49 = .ok (.invokespecial 17, 3) := by decide +kernel
theorem dX2_init_52 : decode cX2_init 52 = .ok (.putfield 27, 3) := by decide +kernel
theorem dX2_init_55 : decode cX2_init 55 = .ok (.return_, 1) := by decide +kernel
theorem dX2_append_0 : decode cX2_append 0 = .ok (.aload_n 0, 1) := by decide +kernel
theorem dX2_append_1 : decode cX2_append 1 = .ok (.getfield 30, 3) := by decide +kernel
theorem dX2_append_4 : decode cX2_append 4 = .ok (.bipush 99, 2) := by decide +kernel
theorem dX2_append_6 : decode cX2_append 6 = .ok (.if_icmp .ge 24, 3) := by decide +kernel
theorem dX2_append_9 : decode cX2_append 9 = .ok (.aload_n 0, 1) := by decide +kernel
theorem dX2_append_10 : decode cX2_append 10 = .ok (.getfield 9, 3) := by decide +kernel
theorem dX2_append_13 : decode cX2_append 13 = .ok (.aload_n 0, 1) := by decide +kernel
theorem dX2_append_14 : decode cX2_append 14 = .ok (.getfield 30, 3) := by decide +kernel
theorem dX2_append_17 : decode cX2_append 17 = .ok (.iload_n 1, 1) := by decide +kernel
theorem dX2_append_18 : decode cX2_append 18 = .ok (.i2c, 1) := by decide +kernel
theorem dX2_append_19 : decode cX2_append 19 = .ok (.castore, 1) := by decide +kernel
theorem dX2_append_20 : decode cX2_append 20 = .ok (.aload_n 0, 1) := by decide +kernel
theorem dX2_append_21 : decode cX2_append 21 = .ok (.dup, 1) := by decide +kernel
theorem dX2_append_22 : decode cX2_append 22 = .ok (.getfield 30, 3) := by decide +kernel
theorem dX2_append_25 : decode cX2_append 25 = .ok (.iconst 1, 1) := by decide +kernel
theorem dX2_append_26 : decode cX2_append 26 = .ok (.iadd, 1) := by decide +kernel
theorem dX2_append_27 : decode cX2_append 27 = .ok (.putfield 30, 3) := by decide +kernel
theorem dX2_append_30 : decode cX2_append 30 = .ok (.return_, 1) := by decide +kernel
theorem dX2_readAll_0 : decode cX2_readAll 0 = .ok (.aload_n 0, 1) := by decide +kernel
theorem dX2_readAll_1 : decode cX2_readAll 1 = .ok (.getfield 20, 3) := by decide +kernel
theorem dX2_readAll_4 : decode cX2_readAll 4 = .ok (.iconst 0, 1) := by decide +kernel
theorem dX2_readAll_5 : decode cX2_readAll 5 = .ok (.putfield 34, 3) := by decide +kernel
theorem dX2_readAll_8 : decode cX2_readAll 8 = .ok (.aload_n 0, 1) := by decide +kernel
theorem dX2_readAll_9 : decode cX2_readAll 9 = .ok (.getfield 20, 3) := by decide +kernel
theorem dX2_readAll_12 : decode cX2_readAll 12 = .ok (.iconst 0, 1) := by decide +kernel
theorem dX2_readAll_13 : decode cX2_readAll 13 = .ok (.iconst 0, 1) := by decide +kernel
theorem dX2_readAll_14 : decode cX2_readAll 14 = .ok (.bipush (-9), 2) := by decide +kernel
theorem dX2_readAll_16 : decode cX2_readAll 16 = .ok (.bipush (-9), 2) := by decide +kernel
theorem dX2_readAll_18 : decode cX2_readAll 18 = .ok (.iconst 0, 1) := by decide +kernel
theorem dX2_readAll_19 : decode cX2_readAll 19 = .ok (.invokevirtual 37, 3) := by decide +kernel
theorem dX2_readAll_22 : decode cX2_readAll 22 = .ok (.pop, 1) := by decide +kernel
theorem dX2_readAll_23 : decode cX2_readAll 23 = .ok (.aload_n 0, 1) := by decide +kernel
theorem dX2_readAll_24 : decode cX2_readAll 24 = .ok (.getfield 24, 3) := by decide +kernel
theorem dX2_readAll_27 : decode cX2_readAll 27 = .ok (.iconst 0, 1) := by decide +kernel
theorem dX2_readAll_28 : decode cX2_readAll 28 = .ok (.putfield 34, 3) := by decide +kernel
theorem dX2_readAll_31 : decode cX2_readAll 31 = .ok (.aload_n 0, 1) := by decide +kernel
theorem dX2_readAll_32 : decode cX2_readAll 32 = .ok (.getfield 27, 3) := by decide +kernel
theorem dX2_readAll_35 : decode cX2_readAll 35 = .ok (.iconst 0, 1) := by decide +kernel
theorem dX2_readAll_36 : decode cX2_readAll 36 = .ok (.putfield 34, 3) := by decide +kernel
theorem dX2_readAll_39 : decode cX2_readAll 39 = .ok (.aload_n 0, 1) := by decide +kernel
theorem dX2_readAll_40 : decode cX2_readAll 40 = .ok (.bipush (-9), 2) := by decide +kernel
theorem dX2_readAll_42 : decode cX2_readAll 42 = .ok (.putfield 41, 3) := by decide +kernel
theorem dX2_readAll_45 : decode cX2_readAll 45 = .ok (.aload_n 0, 1) := by decide +kernel
theorem dX2_readAll_46 : decode cX2_readAll 46 = .ok (.iconst 0, 1) := by decide +kernel
theorem dX2_readAll_47 : decode cX2_readAll 47 = .ok (.invokevirtual 44, 3) := by decide +kernel
theorem dX2_readAll_50 : decode cX2_readAll 50 = .ok (.bipush 80, 2) := by decide +kernel
theorem dX2_readAll_52 : decode cX2_readAll 52 = .ok (.if_icmp .eq 5, 3) := by decide +kernel
theorem dX2_readAll_55 : decode cX2_readAll 55 = .ok (.iconst 0, 1) := by decide +kernel
theorem dX2_readAll_56 : decode cX2_readAll 56 = .ok (.ireturn, 1) := by decide +kernel
theorem dX2_readAll_57 : decode cX2_readAll 57 = .ok (.aload_n 0, 1) := by decide +kernel
theorem dX2_readAll_58 : decode cX2_readAll 58 = .ok (.iconst 1, 1) := by decide +kernel
theorem dX2_readAll_59 : decode cX2_readAll 59 = .ok (.putfield 48, 3) := by decide +kernel
theorem dX2_readAll_62 : decode cX2_readAll 62 = .ok (.iconst 0, 1) := by decide +kernel
theorem dX2_readAll_63 : decode cX2_readAll 63 = .ok (.istore_n 1, 1) := by decide +kernel
theorem dX2_readAll_64 : decode cX2_readAll 64 = .ok (.iload_n 1, 1) := by decide +kernel
theorem dX2_readAll_65 : decode cX2_readAll 65 = .ok (.bipush 99, 2) := by decide +kernel
theorem dX2_readAll_67 : decode cX2_readAll 67 = .ok (.if_icmp .ge 33, 3) := by decide +kernel
theorem dX2_readAll_70 : decode cX2_readAll 70 = .ok (.aload_n 0, 1) := by decide +kernel
theorem dX2_readAll_71 : decode cX2_readAll 71 = .ok (.getfield 48, 3) := by decide +kernel
theorem dX2_readAll_74 : decode cX2_readAll 74 = .ok (.aload_n 0, 1) := by decide +kernel
theorem dX2_readAll_75 : decode cX2_readAll 75 = .ok (.getfield 30, 3) := by decide +kernel
theorem dX2_readAll_78 : decode cX2_readAll 78 = .ok (.if_icmp .ge 22, 3) := by decide +kernel
theorem dX2_readAll_81 : decode cX2_readAll 81 = .ok (.aload_n 0, 1) := by decide +kernel
theorem dX2_readAll_82 : decode cX2_readAll 82 = .ok (.getfield 41, 3) := by decide +kernel
theorem dX2_readAll_85 : decode cX2_readAll 85 = .ok (.bipush (-9), 2) := by decide +kernel
theorem dX2_readAll_87 : decode cX2_readAll 87 = .ok (.if_icmp .ne 13, 3) := by decide +kernel
theorem dX2_readAll_90 : decode cX2_readAll 90 = .ok (.aload_n 0, 1) := by decide +kernel
theorem dX2_readAll_91 : decode cX2_readAll 91 = .ok (.invokevirtual 51, 3) := by decide +kernel
theorem dX2_readAll_94 : decode cX2_readAll 94 = .ok (.iinc 1 1, 3) := by decide +kernel
theorem dX2_readAll_97 : decode cX2_readAll 97 = .ok (.goto (-33), 3) := by decide +kernel
theorem dX2_readAll_100 : decode cX2_readAll 100 = .ok (.aload_n 0, 1) := by decide +kernel
theorem dX2_readAll_101 : decode cX2_readAll 101 = .ok (.getfield 41, 3) := by decide +kernel
theorem dX2_readAll_104 : decode cX2_readAll 104 = .ok (.ireturn, 1) := by decide +kernel
theorem dX2_readPart_0 : decode cX2_readPart 0 = .ok (.aload_n 0, 1) := by decide +kernel
theorem dX2_readPart_1 : decode cX2_readPart 1 = .ok (.aload_n 0, 1) := by decide +kernel
theorem dX2_readPart_2 : decode cX2_readPart 2 = .ok (.getfield 48, 3) := by decide +kernel
theorem dX2_readPart_5 : decode cX2_readPart 5 = .ok (.invokevirtual 44, 3) := by decide +kernel
theorem dX2_readPart_8 : decode cX2_readPart 8 = .ok (.istore_n 1, 1) := by decide +kernel
theorem dX2_readPart_9 : decode cX2_readPart 9 = .ok (.iload_n 1, 1) := by decide +kernel
theorem dX2_readPart_10 : decode cX2_readPart 10 = .ok (.bipush 112, 2) := by decide +kernel
theorem dX2_readPart_12 : decode cX2_readPart 12 = .ok (.if_icmp .ne 32, 3) := by decide +kernel
theorem dX2_readPart_15 : decode cX2_readPart 15 = .ok (.aload_n 0, 1) := by decide +kernel
theorem dX2_readPart_16 : decode cX2_readPart 16 = .ok (.getfield 20, 3) := by decide +kernel
theorem dX2_readPart_19 : decode cX2_readPart 19 = .ok (.getfield 34, 3) := by decide +kernel
theorem dX2_readPart_22 : decode cX2_readPart 22 = .ok (.bipush 6, 2) := by decide +kernel
theorem dX2_readPart_24 : decode cX2_readPart 24 = .ok (.if_icmp .ge 20, 3) := by decide +kernel
theorem dX2_readPart_27 : decode cX2_readPart 27 = .ok (.aload_n 0, 1) := by decide +kernel
theorem dX2_readPart_28 : decode cX2_readPart 28 = .ok (.dup, 1) := by decide +kernel
theorem dX2_readPart_29 : decode cX2_readPart 29 = .ok (.getfield 48, 3) := by decide +kernel
theorem dX2_readPart_32 : decode cX2_readPart 32 = .ok (.iconst 1, 1) := by decide +kernel
theorem dX2_readPart_33 : decode cX2_readPart 33 = .ok (.iadd, 1) := by decide +kernel
theorem dX2_readPart_34 : decode cX2_readPart 34 = .ok (.putfield 48, 3) := by decide +kernel
theorem dX2_readPart_37 : decode cX2_readPart 37 = .ok (.aload_n 0, 1) := by decide +kernel
theorem dX2_readPart_38 : decode cX2_readPart 38 = .ok (.invokevirtual 54, 3) := by decide +kernel
theorem dX2_readPart_41 : decode cX2_readPart 41 = .ok (.goto 81, 3) := by decide +kernel
theorem dX2_readPart_44 : decode cX2_readPart 44 = .ok (.iload_n 1, 1) := by decide +kernel
theorem dX2_readPart_45 : decode cX2_readPart 45 = .ok (.bipush 103, 2) := by decide +kernel
theorem dX2_readPart_47 : decode cX2_readPart 47 = .ok (.if_icmp .ne 32, 3) := by decide +kernel
theorem dX2_readPart_50 : decode cX2_readPart 50 = .ok (.aload_n 0, 1) := by decide +kernel
theorem dX2_readPart_51 : decode cX2_readPart 51 = .ok (.getfield 24, 3) := by decide +kernel
theorem dX2_readPart_54 : decode cX2_readPart 54 = .ok (.getfield 34, 3) := by decide +kernel
theorem dX2_readPart_57 : decode cX2_readPart 57 = .ok (.bipush 8, 2) := by decide +kernel
theorem dX2_readPart_59 : decode cX2_readPart 59 = .ok (.if_icmp .ge 20, 3) := by decide +kernel
theorem dX2_readPart_62 : decode cX2_readPart 62 = .ok (.aload_n 0, 1) := by decide +kernel
theorem dX2_readPart_63 : decode cX2_readPart 63 = .ok (.dup, 1) := by decide +kernel
theorem dX2_readPart_64 : decode cX2_readPart 64 = .ok (.getfield 48, 3) := by decide +kernel
theorem dX2_readPart_67 : decode cX2_readPart 67 = .ok (.iconst 1, 1) := by decide +kernel
theorem dX2_readPart_68 : decode cX2_readPart 68 = .ok (.iadd, 1) := by decide +kernel
theorem dX2_readPart_69 : decode cX2_readPart 69 = .ok (.putfield 48, 3) := by decide +kernel
theorem dX2_readPart_72 : decode cX2_readPart 72 = .ok (.aload_n 0, 1) := by decide +kernel
theorem dX2_readPart_73 : decode cX2_readPart 73 = .ok (.invokevirtual 57, 3) := by decide +kernel
theorem dX2_readPart_76 : decode cX2_readPart 76 = .ok (.goto 46, 3) := by decide +kernel
theorem dX2_readPart_79 : decode cX2_readPart 79 = .ok (.iload_n 1, 1) := by decide +kernel
theorem dX2_readPart_80 : decode cX2_readPart 80 = .ok (.bipush 114, 2) := by decide +kernel
theorem dX2_readPart_82 : decode cX2_readPart 82 = .ok (.if_icmp .ne 32, 3) := by decide +kernel
theorem dX2_readPart_85 : decode cX2_readPart 85 = .ok (.aload_n 0, 1) := by decide +kernel
theorem dX2_readPart_86 : decode cX2_readPart 86 = .ok (.getfield 27, 3) := by decide +kernel
theorem dX2_readPart_89 : decode cX2_readPart 89 = .ok (.getfield 34, 3) := by decide +kernel
theorem dX2_readPart_92 : decode cX2_readPart 92 = .ok (.bipush 6, 2) := by decide +kernel
theorem dX2_readPart_94 : decode cX2_readPart 94 = .ok (.if_icmp .ge 20, 3) := by decide +kernel
theorem dX2_readPart_97 : decode cX2_readPart 97 = .ok (.aload_n 0, 1) := by decide +kernel
theorem dX2_readPart_98 : decode cX2_readPart 98 = .ok (.dup, 1) := by decide +kernel
theorem dX2_readPart_99 : decode cX2_readPart 99 = .ok (.getfield 48, 3) := by decide +kernel
theorem dX2_readPart_102 : decode cX2_readPart 102 = .ok (.iconst 1, 1) := by decide +kernel
theorem dX2_readPart_103 : decode cX2_readPart 103 = .ok (.iadd, 1) := by decide +kernel
theorem dX2_readPart_104 : decode cX2_readPart 104 = .ok (.putfield 48, 3) := by decide +kernel
theorem dX2_readPart_107 : decode cX2_readPart 107 = .ok (.aload_n 0, 1) := by decide +kernel
theorem dX2_readPart_108 : decode cX2_readPart 108 = .ok (.invokevirtual 60, 3) := by decide +kernel
theorem dX2_readPart_111 : decode cX2_readPart 111 = .ok (.goto 11, 3) := by decide +kernel
theorem dX2_readPart_114 : decode cX2_readPart 114 = .ok (.aload_n 0, 1) := by decide +kernel
theorem dX2_readPart_115 : decode cX2_readPart 115 = .ok (.aload_n 0, 1) := by decide +kernel
theorem dX2_readPart_116 : decode cX2_readPart 116 = .ok (.getfield 48, 3) := by decide +kernel
theorem dX2_readPart_119 : decode cX2_readPart 119 = .ok (.putfield 41, 3) := by decide +kernel
theorem dX2_readPart_122 : decode cX2_readPart 122 = .ok (.return_, 1) := by decide +kernel
theorem dX2_readPaper_0 : decode cX2_readPaper 0 = .ok (.aload_n 0, 1) := by decide +kernel
theorem dX2_readPaper_1 : decode cX2_readPaper 1 = .ok (.iconst 0, 1) := by decide +kernel
theorem dX2_readPaper_2 : decode cX2_readPaper 2 = .ok (.aload_n 0, 1) := by decide +kernel
theorem dX2_readPaper_3 : decode cX2_readPaper 3 = .ok (.getfield 20, 3) := by decide +kernel
theorem dX2_readPaper_6 : decode cX2_readPaper 6 = .ok (.getfield 34, 3) := by decide +kernel
theorem dX2_readPaper_9 : decode cX2_readPaper 9 = .ok (.iconst 1, 1) := by decide +kernel
theorem dX2_readPaper_10 : decode cX2_readPaper 10 = .ok (.isub, 1) := by decide +kernel
theorem dX2_readPaper_11 : decode cX2_readPaper 11 = .ok (.invokevirtual 63, 3) := by decide +kernel
theorem dX2_readPaper_14 : decode cX2_readPaper 14 = .ok (.istore_n 1, 1) := by decide +kernel
theorem dX2_readPaper_15 : decode cX2_readPaper 15 = .ok (.aload_n 0, 1) := by decide +kernel
theorem dX2_readPaper_16 : decode cX2_readPaper 16 = .ok (.invokevirtual 67, 3) := by decide +kernel
theorem dX2_readPaper_19 : decode cX2_readPaper 19 = .ok (.istore_n 2, 1) := by decide +kernel
theorem dX2_readPaper_20 : decode cX2_readPaper 20 = .ok (.aload_n 0, 1) := by decide +kernel
theorem dX2_readPaper_21 : decode cX2_readPaper 21 = .ok (.iload_n 2, 1) := by decide +kernel
theorem dX2_readPaper_22 : decode cX2_readPaper 22 = .ok (.invokevirtual 71, 3) := by decide +kernel
theorem dX2_readPaper_25 : decode cX2_readPaper 25 = .ok (.istore_n 3, 1) := by decide +kernel
theorem dX2_readPaper_26 : decode cX2_readPaper 26 = .ok (.aload_n 0, 1) := by decide +kernel
theorem dX2_readPaper_27 : decode cX2_readPaper 27 = .ok (.iconst 0, 1) := by decide +kernel
theorem dX2_readPaper_28 : decode cX2_readPaper 28 = .ok (.bipush 9, 2) := by decide +kernel
theorem dX2_readPaper_30 : decode cX2_readPaper 30 = .ok (.invokevirtual 63, 3) := by decide +kernel
theorem dX2_readPaper_33 : decode cX2_readPaper 33 = .ok (.istore 4, 2) := by decide +kernel
theorem dX2_readPaper_35 : decode cX2_readPaper 35 = .ok (.aload_n 0, 1) := by decide +kernel
theorem dX2_readPaper_36 : decode cX2_readPaper 36 = .ok (.getfield 41, 3) := by decide +kernel
theorem dX2_readPaper_39 : decode cX2_readPaper 39 = .ok (.bipush (-9), 2) := by decide +kernel
theorem dX2_readPaper_41 : decode cX2_readPaper 41 = .ok (.if_icmp .ne 17, 3) := by decide +kernel
theorem dX2_readPaper_44 : decode cX2_readPaper 44 = .ok (.aload_n 0, 1) := by decide +kernel
theorem dX2_readPaper_45 : decode cX2_readPaper 45 = .ok (.getfield 20, 3) := by decide +kernel
theorem dX2_readPaper_48 : decode cX2_readPaper 48 = .ok (.iload_n 2, 1) := by decide +kernel
theorem dX2_readPaper_49 : decode cX2_readPaper 49 = .ok (.iload_n 3, 1) := by decide +kernel
theorem dX2_readPaper_50 : decode cX2_readPaper 50 = .ok (.iload_n 1, 1) := by decide +kernel
theorem dX2_readPaper_51 : decode cX2_readPaper 51 = .ok (.iload 4, 2) := by decide +kernel
theorem dX2_readPaper_53 : decode cX2_readPaper 53 = .ok (.iconst 0, 1) := by decide +kernel
theorem dX2_readPaper_54 : decode cX2_readPaper 54 = .ok (.invokevirtual 37, 3) := by decide +kernel
theorem dX2_readPaper_57 : decode cX2_readPaper 57 = .ok (.pop, 1) := by decide +kernel
theorem dX2_readPaper_58 : decode cX2_readPaper 58 = .ok (.return_, 1) := by decide +kernel
theorem dX2_readGrant_0 : decode cX2_readGrant 0 = .ok (.aload_n 0, 1) := by decide +kernel
theorem dX2_readGrant_1 : decode cX2_readGrant 1 = .ok (.invokevirtual 75, 3) := by decide +kernel
theorem dX2_readGrant_4 : decode cX2_readGrant 4 = .ok (.istore_n 1, 1) := by decide +kernel
theorem dX2_readGrant_5 : decode cX2_readGrant 5 = .ok (.aload_n 0, 1) := by decide +kernel
theorem dX2_readGrant_6 : decode cX2_readGrant 6 = .ok (.iconst 0, 1) := by decide +kernel
theorem dX2_readGrant_7 : decode cX2_readGrant 7 = .ok (.iconst 5, 1) := by decide +kernel
theorem dX2_readGrant_8 : decode cX2_readGrant 8 = .ok (.invokevirtual 63, 3) := by decide +kernel
theorem dX2_readGrant_11 : decode cX2_readGrant 11 = .ok (.istore_n 2, 1) := by decide +kernel
theorem dX2_readGrant_12 : decode cX2_readGrant 12 = .ok (.aload_n 0, 1) := by decide +kernel
theorem dX2_readGrant_13 : decode cX2_readGrant 13 = .ok (.invokevirtual 67, 3) := by decide +kernel
theorem dX2_readGrant_16 : decode cX2_readGrant 16 = .ok (.istore_n 3, 1) := by decide +kernel
theorem dX2_readGrant_17 : decode cX2_readGrant 17 = .ok (.aload_n 0, 1) := by decide +kernel
theorem dX2_readGrant_18 : decode cX2_readGrant 18 = .ok (.iload_n 3, 1) := by decide +kernel
theorem dX2_readGrant_19 : decode cX2_readGrant 19 = .ok (.invokevirtual 71, 3) := by decide +kernel
theorem dX2_readGrant_22 : decode cX2_readGrant 22 = .ok (.istore 4, 2) := by decide +kernel
theorem dX2_readGrant_24 : decode cX2_readGrant 24 = .ok (.aload_n 0, 1) := by decide +kernel
theorem dX2_readGrant_25 : decode cX2_readGrant 25 = .ok (.iload 4, 2) := by decide +kernel
theorem dX2_readGrant_27 : decode cX2_readGrant 27 = .ok (.iconst 5, 1) := by decide +kernel
theorem dX2_readGrant_28 : decode cX2_readGrant 28 = .ok (.invokevirtual 63, 3) := by decide +kernel
theorem dX2_readGrant_31 : decode cX2_readGrant 31 = .ok (.istore 5, 2) := by decide +kernel
theorem dX2_readGrant_33 : decode cX2_readGrant 33 = .ok (.aload_n 0, 1) := by decide +kernel
theorem dX2_readGrant_34 : decode cX2_readGrant 34 = .ok (.getfield 41, 3) := by decide +kernel
theorem dX2_readGrant_37 : decode cX2_readGrant 37 = .ok (.bipush (-9), 2) := by decide +kernel
theorem dX2_readGrant_39 : decode cX2_readGrant 39 = .ok (.if_icmp .ne 18, 3) := by decide +kernel
theorem dX2_readGrant_42 : decode cX2_readGrant 42 = .ok (.aload_n 0, 1) := by decide +kernel
theorem dX2_readGrant_43 : decode cX2_readGrant 43 = .ok (.getfield 24, 3) := by decide +kernel
theorem dX2_readGrant_46 : decode cX2_readGrant 46 = .ok (.iload_n 3, 1) := by decide +kernel
theorem dX2_readGrant_47 : decode cX2_readGrant 47 = .ok (.iload 4, 2) := by decide +kernel
theorem dX2_readGrant_49 : decode cX2_readGrant 49 = .ok (.iload_n 2, 1) := by decide +kernel
theorem dX2_readGrant_50 : decode cX2_readGrant 50 = .ok (.iload_n 1, 1) := by decide +kernel
theorem dX2_readGrant_51 : decode cX2_readGrant 51 = .ok (.iload 5, 2) := by decide +kernel
theorem dX2_readGrant_53 : decode cX2_readGrant 53 = .ok (.invokevirtual 37, 3) := by decide +kernel
theorem dX2_readGrant_56 : decode cX2_readGrant 56 = .ok (.pop, 1) := by decide +kernel
theorem dX2_readGrant_57 : decode cX2_readGrant 57 = .ok (.return_, 1) := by decide +kernel
theorem dX2_readRoute_0 : decode cX2_readRoute 0 = .ok (.aload_n 0, 1) := by decide +kernel
theorem dX2_readRoute_1 : decode cX2_readRoute 1 = .ok (.invokevirtual 67, 3) := by decide +kernel
theorem dX2_readRoute_4 : decode cX2_readRoute 4 = .ok (.istore_n 1, 1) := by decide +kernel
theorem dX2_readRoute_5 : decode cX2_readRoute 5 = .ok (.aload_n 0, 1) := by decide +kernel
theorem dX2_readRoute_6 : decode cX2_readRoute 6 = .ok (.iload_n 1, 1) := by decide +kernel
theorem dX2_readRoute_7 : decode cX2_readRoute 7 = .ok (.invokevirtual 71, 3) := by decide +kernel
theorem dX2_readRoute_10 : decode cX2_readRoute 10 = .ok (.istore_n 2, 1) := by decide +kernel
theorem dX2_readRoute_11 : decode cX2_readRoute 11 = .ok (.aload_n 0, 1) := by decide +kernel
theorem dX2_readRoute_12 : decode cX2_readRoute 12 = .ok (.iconst 0, 1) := by decide +kernel
theorem dX2_readRoute_13 : decode cX2_readRoute 13 = .ok (.iconst 5, 1) := by decide +kernel
theorem dX2_readRoute_14 : decode cX2_readRoute 14 = .ok (.invokevirtual 63, 3) := by decide +kernel
theorem dX2_readRoute_17 : decode cX2_readRoute 17 = .ok (.istore_n 3, 1) := by decide +kernel
theorem dX2_readRoute_18 : decode cX2_readRoute 18 = .ok (.aload_n 0, 1) := by decide +kernel
theorem dX2_readRoute_19 : decode cX2_readRoute 19 = .ok (.getfield 41, 3) := by decide +kernel
theorem dX2_readRoute_22 : decode cX2_readRoute 22 = .ok (.bipush (-9), 2) := by decide +kernel
theorem dX2_readRoute_24 : decode cX2_readRoute 24 = .ok (.if_icmp .ne 16, 3) := by decide +kernel
theorem dX2_readRoute_27 : decode cX2_readRoute 27 = .ok (.aload_n 0, 1) := by decide +kernel
theorem dX2_readRoute_28 : decode cX2_readRoute 28 = .ok (.getfield 27, 3) := by decide +kernel
theorem dX2_readRoute_31 : decode cX2_readRoute 31 = .ok (.iload_n 1, 1) := by decide +kernel
theorem dX2_readRoute_32 : decode cX2_readRoute 32 = .ok (.iload_n 2, 1) := by decide +kernel
theorem dX2_readRoute_33 : decode cX2_readRoute 33 = .ok (.iload_n 3, 1) := by decide +kernel
theorem dX2_readRoute_34 : decode cX2_readRoute 34 = .ok (.iconst 0, 1) := by decide +kernel
theorem dX2_readRoute_35 : decode cX2_readRoute 35 = .ok (.iconst 0, 1) := by decide +kernel
theorem dX2_readRoute_36 : decode cX2_readRoute 36 = .ok (.invokevirtual 37, 3) := by decide +kernel
theorem dX2_readRoute_39 : decode cX2_readRoute 39 = .ok (.pop, 1) := by decide +kernel
theorem dX2_readRoute_40 : decode cX2_readRoute 40 = .ok (.return_, 1) := by decide +kernel
theorem dX2_readHolder_0 : decode cX2_readHolder 0 = .ok (.aload_n 0, 1) := by decide +kernel
theorem dX2_readHolder_1 : decode cX2_readHolder 1 = .ok (.aload_n 0, 1) := by decide +kernel
theorem dX2_readHolder_2 : decode cX2_readHolder 2 = .ok (.getfield 48, 3) := by decide +kernel
theorem dX2_readHolder_5 : decode cX2_readHolder 5 = .ok (.invokevirtual 44, 3) := by decide +kernel
theorem dX2_readHolder_8 : decode cX2_readHolder 8 = .ok (.bipush 57, 2) := by decide +kernel
theorem dX2_readHolder_10 : decode cX2_readHolder 10 = .ok (.if_icmp .ne 7, 3) := by decide +kernel
theorem dX2_readHolder_13 : decode cX2_readHolder 13 = .ok (.iconst 1, 1) := by decide +kernel
theorem dX2_readHolder_14 : decode cX2_readHolder 14 = .ok (.goto 4, 3) := by decide +kernel
theorem dX2_readHolder_17 : decode cX2_readHolder 17 = .ok (.iconst 0, 1) := by decide +kernel
theorem dX2_readHolder_18 : decode cX2_readHolder 18 = .ok (.istore_n 1, 1) := by decide +kernel
theorem dX2_readHolder_19 : decode cX2_readHolder 19 = .ok (.iload_n 1, 1) := by decide +kernel
theorem dX2_readHolder_20 : decode cX2_readHolder 20 = .ok (.ifCond .eq 14, 3) := by decide +kernel
theorem dX2_readHolder_23 : decode cX2_readHolder 23 = .ok (.aload_n 0, 1) := by decide +kernel
theorem dX2_readHolder_24 : decode cX2_readHolder 24 = .ok (.bipush 9, 2) := by decide +kernel
theorem dX2_readHolder_26 : decode cX2_readHolder 26 = .ok (.bipush 9, 2) := by decide +kernel
theorem dX2_readHolder_28 : decode cX2_readHolder 28 = .ok (.invokevirtual 63, 3) := by decide +kernel
theorem dX2_readHolder_31 : decode cX2_readHolder 31 = .ok (.goto 17, 3) := by decide +kernel
theorem dX2_readHolder_34 : decode cX2_readHolder 34 = .ok (.aload_n 0, 1) := by decide +kernel
theorem dX2_readHolder_35 : decode cX2_readHolder 35 = .ok (.iconst 0, 1) := by decide +kernel
theorem dX2_readHolder_36 : decode cX2_readHolder 36 = .ok (.aload_n 0, 1) := by decide +kernel
theorem dX2_readHolder_37 : decode cX2_readHolder 37 = .ok (.getfield 20, 3) := by decide +kernel
theorem dX2_readHolder_40 : decode cX2_readHolder 40 = .ok (.getfield 34, 3) := by decide +kernel
theorem dX2_readHolder_43 : decode cX2_readHolder 43 = .ok (.iconst 1, 1) := by decide +kernel
theorem dX2_readHolder_44 : decode cX2_readHolder 44 = .ok (.isub, 1) := by decide +kernel
theorem dX2_readHolder_45 : decode cX2_readHolder 45 = .ok (.invokevirtual 63, 3) := by decide +kernel
theorem dX2_readHolder_48 : decode cX2_readHolder 48 = .ok (.ireturn, 1) := by decide +kernel
theorem dX2_readStart_0 : decode cX2_readStart 0 = .ok (.aload_n 0, 1) := by decide +kernel
theorem dX2_readStart_1 : decode cX2_readStart 1 = .ok (.iconst 0, 1) := by decide +kernel
theorem dX2_readStart_2 : decode cX2_readStart 2 = .ok (.iconst 3, 1) := by decide +kernel
theorem dX2_readStart_3 : decode cX2_readStart 3 = .ok (.invokevirtual 63, 3) := by decide +kernel
theorem dX2_readStart_6 : decode cX2_readStart 6 = .ok (.istore_n 1, 1) := by decide +kernel
theorem dX2_readStart_7 : decode cX2_readStart 7 = .ok (.iload_n 1, 1) := by decide +kernel
theorem dX2_readStart_8 : decode cX2_readStart 8 = .ok (.bipush 10, 2) := by decide +kernel
theorem dX2_readStart_10 : decode cX2_readStart 10 = .ok (.imul, 1) := by decide +kernel
theorem dX2_readStart_11 : decode cX2_readStart 11 = .ok (.aload_n 0, 1) := by decide +kernel
theorem dX2_readStart_12 : decode cX2_readStart 12 = .ok (.iconst 0, 1) := by decide +kernel
theorem dX2_readStart_13 : decode cX2_readStart 13 = .ok (.iload_n 1, 1) := by decide +kernel
theorem dX2_readStart_14 : decode cX2_readStart 14 = .ok (.iconst 3, 1) := by decide +kernel
theorem dX2_readStart_15 : decode cX2_readStart 15 = .ok (.if_icmp .ne 7, 3) := by decide +kernel
theorem dX2_readStart_18 : decode cX2_readStart 18 = .ok (.iconst 1, 1) := by decide +kernel
theorem dX2_readStart_19 : decode cX2_readStart 19 = .ok (.goto 5, 3) := by decide +kernel
theorem dX2_readStart_22 : decode cX2_readStart 22 = .ok (.bipush 9, 2) := by decide +kernel
theorem dX2_readStart_24 : decode cX2_readStart 24 = .ok (.invokevirtual 63, 3) := by decide +kernel
theorem dX2_readStart_27 : decode cX2_readStart 27 = .ok (.iadd, 1) := by decide +kernel
theorem dX2_readStart_28 : decode cX2_readStart 28 = .ok (.ireturn, 1) := by decide +kernel
theorem dX2_readLength_0 : decode cX2_readLength 0 = .ok (.iconst 0, 1) := by decide +kernel
theorem dX2_readLength_1 : decode cX2_readLength 1 = .ok (.istore_n 2, 1) := by decide +kernel
theorem dX2_readLength_2 : decode cX2_readLength 2 = .ok (.iload_n 2, 1) := by decide +kernel
theorem dX2_readLength_3 : decode cX2_readLength 3 = .ok (.iconst 5, 1) := by decide +kernel
theorem dX2_readLength_4 : decode cX2_readLength 4 = .ok (.if_icmp .ge 17, 3) := by decide +kernel
theorem dX2_readLength_7 : decode cX2_readLength 7 = .ok (.iload_n 1, 1) := by decide +kernel
theorem dX2_readLength_8 : decode cX2_readLength 8 = .ok (.iload_n 2, 1) := by decide +kernel
theorem dX2_readLength_9 : decode cX2_readLength 9 = .ok (.invokestatic 78, 3) := by decide +kernel
theorem dX2_readLength_12 : decode cX2_readLength 12 = .ok (.ifCond .eq 9, 3) := by decide +kernel
theorem dX2_readLength_15 : decode cX2_readLength 15 = .ok (.iinc 2 1, 3) := by decide +kernel
theorem dX2_readLength_18 : decode cX2_readLength 18 = .ok (.goto (-16), 3) := by decide +kernel
theorem dX2_readLength_21 : decode cX2_readLength 21 = .ok (.aload_n 0, 1) := by decide +kernel
theorem dX2_readLength_22 : decode cX2_readLength 22 = .ok (.iload_n 2, 1) := by decide +kernel
theorem dX2_readLength_23 : decode cX2_readLength 23 = .ok (.iconst 5, 1) := by decide +kernel
theorem dX2_readLength_24 : decode cX2_readLength 24 = .ok (.invokevirtual 63, 3) := by decide +kernel
theorem dX2_readLength_27 : decode cX2_readLength 27 = .ok (.ireturn, 1) := by decide +kernel
theorem dX2_readFigure_0 : decode cX2_readFigure 0 = .ok (.aload_n 0, 1) := by decide +kernel
theorem dX2_readFigure_1 : decode cX2_readFigure 1 = .ok (.getfield 41, 3) := by decide +kernel
theorem dX2_readFigure_4 : decode cX2_readFigure 4 = .ok (.bipush (-9), 2) := by decide +kernel
theorem dX2_readFigure_6 : decode cX2_readFigure 6 = .ok (.if_icmp .eq 5, 3) := by decide +kernel
theorem dX2_readFigure_9 : decode cX2_readFigure 9 = .ok (.iload_n 1, 1) := by decide +kernel
theorem dX2_readFigure_10 : decode cX2_readFigure 10 = .ok (.ireturn, 1) := by decide +kernel
theorem dX2_readFigure_11 : decode cX2_readFigure 11 = .ok (.aload_n 0, 1) := by decide +kernel
theorem dX2_readFigure_12 : decode cX2_readFigure 12 = .ok (.aload_n 0, 1) := by decide +kernel
theorem dX2_readFigure_13 : decode cX2_readFigure 13 = .ok (.getfield 48, 3) := by decide +kernel
theorem dX2_readFigure_16 : decode cX2_readFigure 16 = .ok (.invokevirtual 44, 3) := by decide +kernel
theorem dX2_readFigure_19 : decode cX2_readFigure 19 = .ok (.bipush 48, 2) := by decide +kernel
theorem dX2_readFigure_21 : decode cX2_readFigure 21 = .ok (.isub, 1) := by decide +kernel
theorem dX2_readFigure_22 : decode cX2_readFigure 22 = .ok (.istore_n 3, 1) := by decide +kernel
theorem dX2_readFigure_23 : decode cX2_readFigure 23 = .ok (.aload_n 0, 1) := by decide +kernel
theorem dX2_readFigure_24 : decode cX2_readFigure 24 = .ok (.getfield 48, 3) := by decide +kernel
theorem dX2_readFigure_27 : decode cX2_readFigure 27 = .ok (.aload_n 0, 1) := by decide +kernel
theorem dX2_readFigure_28 : decode cX2_readFigure 28 = .ok (.getfield 30, 3) := by decide +kernel
theorem dX2_readFigure_31 : decode cX2_readFigure 31 = .ok (.if_icmp .ge 13, 3) := by decide +kernel
theorem dX2_readFigure_34 : decode cX2_readFigure 34 = .ok (.iload_n 3, 1) := by decide +kernel
theorem dX2_readFigure_35 : decode cX2_readFigure 35 = .ok (.iload_n 1, 1) := by decide +kernel
theorem dX2_readFigure_36 : decode cX2_readFigure 36 = .ok (.if_icmp .lt 8, 3) := by decide +kernel
theorem dX2_readFigure_39 : decode cX2_readFigure 39 = .ok (.iload_n 3, 1) := by decide +kernel
theorem dX2_readFigure_40 : decode cX2_readFigure 40 = .ok (.iload_n 2, 1) := by decide +kernel
theorem dX2_readFigure_41 : decode cX2_readFigure 41 = .ok (.if_icmp .le 13, 3) := by decide +kernel
theorem dX2_readFigure_44 : decode cX2_readFigure 44 = .ok (.aload_n 0, 1) := by decide +kernel
theorem dX2_readFigure_45 : decode cX2_readFigure 45 = .ok (.aload_n 0, 1) := by decide +kernel
theorem dX2_readFigure_46 : decode cX2_readFigure 46 = .ok (.getfield 48, 3) := by decide +kernel
theorem dX2_readFigure_49 : decode cX2_readFigure 49 = .ok (.putfield 41, 3) := by decide +kernel
theorem dX2_readFigure_52 : decode cX2_readFigure 52 = .ok (.iload_n 1, 1) := by decide +kernel
theorem dX2_readFigure_53 : decode cX2_readFigure 53 = .ok (.ireturn, 1) := by decide +kernel
theorem dX2_readFigure_54 : decode cX2_readFigure 54 = .ok (.aload_n 0, 1) := by decide +kernel
theorem dX2_readFigure_55 : decode cX2_readFigure 55 = .ok (.dup, 1) := by decide +kernel
theorem dX2_readFigure_56 : decode cX2_readFigure 56 = .ok (.getfield 48, 3) := by decide +kernel
theorem dX2_readFigure_59 : decode cX2_readFigure 59 = .ok (.iconst 1, 1) := by decide +kernel
theorem dX2_readFigure_60 : decode cX2_readFigure 60 = .ok (.iadd, 1) := by decide +kernel
theorem dX2_readFigure_61 : decode cX2_readFigure 61 = .ok (.putfield 48, 3) := by decide +kernel
theorem dX2_readFigure_64 : decode cX2_readFigure 64 = .ok (.iload_n 3, 1) := by decide +kernel
theorem dX2_readFigure_65 : decode cX2_readFigure 65 = .ok (.ireturn, 1) := by decide +kernel
theorem dX2_letterAt_0 : decode cX2_letterAt 0 = .ok (.iload_n 1, 1) := by decide +kernel
theorem dX2_letterAt_1 : decode cX2_letterAt 1 = .ok (.ifCond .lt 26, 3) := by decide +kernel
theorem dX2_letterAt_4 : decode cX2_letterAt 4 = .ok (.iload_n 1, 1) := by decide +kernel
theorem dX2_letterAt_5 : decode cX2_letterAt 5 = .ok (.aload_n 0, 1) := by decide +kernel
theorem dX2_letterAt_6 : decode cX2_letterAt 6 = .ok (.getfield 30, 3) := by decide +kernel
theorem dX2_letterAt_9 : decode cX2_letterAt 9 = .ok (.if_icmp .ge 18, 3) := by decide +kernel
theorem dX2_letterAt_12 : decode cX2_letterAt 12 = .ok (.iload_n 1, 1) := by decide +kernel
theorem dX2_letterAt_13 : decode cX2_letterAt 13 = .ok (.bipush 99, 2) := by decide +kernel
theorem dX2_letterAt_15 : decode cX2_letterAt 15 = .ok (.if_icmp .ge 12, 3) := by decide +kernel
theorem dX2_letterAt_18 : decode cX2_letterAt 18 = .ok (.aload_n 0, 1) := by decide +kernel
theorem dX2_letterAt_19 : decode cX2_letterAt 19 = .ok (.getfield 9, 3) := by decide +kernel
theorem dX2_letterAt_22 : decode cX2_letterAt 22 = .ok (.iload_n 1, 1) := by decide +kernel
theorem dX2_letterAt_23 : decode cX2_letterAt 23 = .ok (.caload, 1) := by decide +kernel
theorem dX2_letterAt_24 : decode cX2_letterAt 24 = .ok (.goto 4, 3) := by decide +kernel
theorem dX2_letterAt_27 : decode cX2_letterAt 27 = .ok (.iconst 0, 1) := by decide +kernel
theorem dX2_letterAt_28 : decode cX2_letterAt 28 = .ok (.ireturn, 1) := by decide +kernel
theorem dX3_init_0 : decode cX3_init 0 = .ok (.aload_n 0, 1) := by decide +kernel
theorem dX3_init_1 : decode cX3_init 1 = .ok (.invokespecial 3, 3) := by decide +kernel
theorem dX3_init_4 : decode cX3_init 4 = .ok (.aload_n 0, 1) := by decide +kernel
theorem dX3_init_5 : decode cX3_init 5 = .ok (.new 9, 3) := by decide +kernel
theorem dX3_init_8 : decode cX3_init 8 = .ok (.dup, 1) := by decide +kernel
theorem dX3_init_9 : decode cX3_init 9 = .ok (.bipush 6, 2) := by decide +kernel
theorem dX3_init_11 : decode cX3_init 11 = .ok (.iconst 5, 1) := by decide +kernel
theorem dX3_init_12 : decode cX3_init 12 = .ok (.invokespecial 11, 3) := by decide +kernel
theorem dX3_init_15 : decode cX3_init 15 = .ok (.putfield 14, 3) := by decide +kernel
theorem dX3_init_18 : decode cX3_init 18 = .ok (.aload_n 0, 1) := by decide +kernel
theorem dX3_init_19 : decode cX3_init 19 = .ok (.new 18, 3) := by decide +kernel
theorem dX3_init_22 : decode cX3_init 22 = .ok (.dup, 1) := by decide +kernel
theorem dX3_init_23 : decode cX3_init 23 = .ok (.aload_n 0, 1) := by decide +kernel
theorem dX3_init_24 : decode cX3_init 24 = .ok (.getfield 14, 3) := by decide +kernel
theorem dX3_init_27 : decode cX3_init 27 = .ok (.invokespecial 20, 3) := by decide +kernel
theorem dX3_init_30 : decode cX3_init 30 = .ok (.putfield 23, 3) := by decide +kernel
theorem dX3_init_33 : decode cX3_init 33 = .ok (.aload_n 0, 1) := by decide +kernel
theorem dX3_init_34 : decode cX3_init 34 = .ok (.new 18, 3) := by decide +kernel
theorem dX3_init_37 : decode cX3_init 37 = .ok (.dup, 1) := by decide +kernel
theorem dX3_init_38 : decode cX3_init 38 = .ok (.aload_n 0, 1) := by decide +kernel
theorem dX3_init_39 : decode cX3_init 39 = .ok (.getfield 14, 3) := by decide +kernel
theorem dX3_init_42 : decode cX3_init 42 = .ok (.invokespecial 20, 3) := by decide +kernel
theorem dX3_init_45 : decode cX3_init 45 = .ok (.putfield 27, 3) := by decide +kernel
theorem dX3_init_48 : decode cX3_init 48 = .ok (.aload_n 0, 1) := by decide +kernel
theorem dX3_init_49 : decode cX3_init 49 = .ok (.new 18, 3) := by decide +kernel
theorem dX3_init_52 : decode cX3_init 52 = .ok (.dup, 1) := by decide +kernel
theorem dX3_init_53 : decode cX3_init 53 = .ok (.aload_n 0, 1) := by decide +kernel
theorem dX3_init_54 : decode cX3_init 54 = .ok (.getfield 14, 3) := by decide +kernel
theorem dX3_init_57 : decode cX3_init 57 = .ok (.invokespecial 20, 3) := by decide +kernel
theorem dX3_init_60 : decode cX3_init 60 = .ok (.putfield 30, 3) := by decide +kernel
theorem dX3_init_63 : decode cX3_init 63 = .ok (.aload_n 0, 1) := by decide +kernel
theorem dX3_init_64 : decode cX3_init 64 = .ok (.new 18, 3) := by decide +kernel
theorem dX3_init_67 : decode cX3_init 67 = .ok (.dup, 1) := by decide +kernel
theorem dX3_init_68 : decode cX3_init 68 = .ok (.aload_n 0, 1) := by decide +kernel
theorem dX3_init_69 : decode cX3_init 69 = .ok (.getfield 14, 3) := by decide +kernel
theorem dX3_init_72 : decode cX3_init 72 = .ok (.invokespecial 20, 3) := by decide +kernel
theorem dX3_init_75 : decode cX3_init 75 = .ok (.putfield 33, 3) := by decide +kernel
theorem dX3_init_78 : decode cX3_init 78 = .ok (.aload_n 0, 1) := by decide +kernel
theorem dX3_init_79 : decode cX3_init 79 = .ok (.new 9, 3) := by decide +kernel
theorem dX3_init_82 : decode cX3_init 82 = .ok (.dup, 1) := by decide +kernel
theorem dX3_init_83 : decode cX3_init 83 = .ok (.bipush 14, 2) := by decide +kernel
theorem dX3_init_85 : decode cX3_init 85 = .ok (.bipush 8, 2) := by decide +kernel
theorem dX3_init_87 : decode cX3_init 87 = .ok (.invokespecial 11, 3) := by decide +kernel
theorem dX3_init_90 : decode cX3_init 90 = .ok (.putfield 36, 3) := by decide +kernel
theorem dX3_init_93 : decode cX3_init 93 = .ok (.aload_n 0, 1) := by decide +kernel
theorem dX3_init_94 : decode cX3_init 94 = .ok (.new 9, 3) := by decide +kernel
theorem dX3_init_97 : decode cX3_init 97 = .ok (.dup, 1) := by decide +kernel
theorem dX3_init_98 : decode cX3_init 98 = .ok (.bipush 6, 2) := by decide +kernel
theorem dX3_init_100 : decode cX3_init 100 = .ok (.iconst 5, 1) := by decide +kernel
theorem dX3_init_101 : decode cX3_init 101 = .ok (.invokespecial 11, 3) := by decide +kernel
theorem dX3_init_104 : decode cX3_init 104 = .ok (.putfield 39, 3) := by decide +kernel
theorem dX3_init_107 : decode cX3_init 107 = .ok (.aload_n 0, 1) := by decide +kernel
theorem dX3_init_108 : decode cX3_init 108 = .ok (.new 42, 3) := by decide +kernel
theorem dX3_init_111 : decode cX3_init 111 = .ok (.dup, 1) := by decide +kernel
theorem dX3_init_112 : decode cX3_init 112 = .ok (.invokespecial 44, 3) := by decide +kernel
theorem dX3_init_115 : decode cX3_init 115 = .ok (.putfield 45, 3) := by decide +kernel
theorem dX3_init_118 : decode cX3_init 118 = .ok (.aload_n 0, 1) := by decide +kernel
theorem dX3_init_119 : decode cX3_init 119 = .ok (.iconst 4, 1) := by decide +kernel
theorem dX3_init_120 : decode cX3_init 120 = .ok (.newarray .int, 2) := by decide +kernel
theorem dX3_init_122 : decode cX3_init 122 = .ok (.putfield 49, 3) := by decide +kernel
theorem dX3_init_125 : decode cX3_init 125 = .ok (.aload_n 0, 1) := by decide +kernel
theorem dX3_init_126 : decode cX3_init 126 = .ok (.getfield 14, 3) := by decide +kernel
theorem dX3_init_129 : decode cX3_init 129 = .ok (.iconst 0, 1) := by decide +kernel
theorem dX3_init_130 : decode cX3_init 130 = .ok (.iconst 0, 1) := by decide +kernel
theorem dX3_init_131 : decode cX3_init 131 = .ok (.bipush (-9), 2) := by decide +kernel
theorem dX3_init_133 : decode cX3_init 133 = .ok (.bipush (-9), 2) := by decide +kernel
theorem dX3_init_135 : decode cX3_init 135 = .ok (.iconst 0, 1) := by decide +kernel
theorem dX3_init_136 : decode cX3_init 136 = .ok (.invokevirtual 53, 3) := by decide +kernel
theorem dX3_init_139 : decode cX3_init 139 = .ok (.pop, 1) := by decide +kernel
theorem dX3_init_140 : decode cX3_init 140 = .ok (.return_, 1) := by decide +kernel
theorem dX3_write_0 : decode cX3_write 0 = .ok (.iload_n 1, 1) := by decide +kernel
theorem dX3_write_1 : decode cX3_write 1 = .ok (.ifCond .lt 10, 3) := by decide +kernel
theorem dX3_write_4 : decode cX3_write 4 = .ok (.iload_n 1, 1) := by decide +kernel
theorem dX3_write_5 : decode cX3_write 5 = .ok (.sipush 255, 3) := by decide +kernel
theorem dX3_write_8 : decode cX3_write 8 = .ok (.if_icmp .le 6, 3) := by decide +kernel
theorem dX3_write_11 : decode cX3_write 11 = .ok (.bipush (-2), 2) := by decide +kernel
theorem dX3_write_13 : decode cX3_write 13 = .ok (.ireturn, 1) := by decide +kernel
theorem dX3_write_14 : decode cX3_write 14 = .ok (.aload_n 0, 1) := by decide +kernel
theorem dX3_write_15 : decode cX3_write 15 = .ok (.getfield 45, 3) := by decide +kernel
theorem dX3_write_18 : decode cX3_write 18 = .ok (.getfield 57, 3) := by decide +kernel
theorem dX3_write_21 : decode cX3_write 21 = .ok (.bipush 99, 2) := by decide +kernel
theorem dX3_write_23 : decode cX3_write 23 = .ok (.if_icmp .lt 6, 3) := by decide +kernel
theorem dX3_write_26 : decode cX3_write 26 = .ok (.bipush (-4), 2) := by decide +kernel
theorem dX3_write_28 : decode cX3_write 28 = .ok (.ireturn, 1) := by decide +kernel
theorem dX3_write_29 : decode cX3_write 29 = .ok (.aload_n 0, 1) := by decide +kernel
theorem dX3_write_30 : decode cX3_write 30 = .ok (.getfield 45, 3) := by decide +kernel
theorem dX3_write_33 : decode cX3_write 33 = .ok (.iload_n 1, 1) := by decide +kernel
theorem dX3_write_34 : decode cX3_write 34 = .ok (.invokevirtual 61, 3) := by decide +kernel
theorem dX3_write_37 : decode cX3_write 37 = .ok (.aload_n 0, 1) := by decide +kernel
theorem dX3_write_38 : decode cX3_write 38 = .ok (.getfield 45, 3) := by decide +kernel
theorem dX3_write_41 : decode cX3_write 41 = .ok (.getfield 57, 3) := by decide +kernel
theorem dX3_write_44 : decode cX3_write 44 = .ok (.ireturn, 1) := by decide +kernel
theorem dX3_wipe_0 : decode cX3_wipe 0 = .ok (.aload_n 0, 1) := by decide +kernel
theorem dX3_wipe_1 : decode cX3_wipe 1 = .ok (.getfield 45, 3) := by decide +kernel
theorem dX3_wipe_4 : decode cX3_wipe 4 = .ok (.getfield 57, 3) := by decide +kernel
theorem dX3_wipe_7 : decode cX3_wipe 7 = .ok (.istore_n 1, 1) := by decide +kernel
theorem dX3_wipe_8 : decode cX3_wipe 8 = .ok (.aload_n 0, 1) := by decide +kernel
theorem dX3_wipe_9 : decode cX3_wipe 9 = .ok (.getfield 45, 3) := by decide +kernel
theorem dX3_wipe_12 : decode cX3_wipe 12 = .ok (.iconst 0, 1) := by decide +kernel
theorem dX3_wipe_13 : decode cX3_wipe 13 = .ok (.putfield 57, 3) := by decide +kernel
theorem dX3_wipe_16 : decode cX3_wipe 16 = .ok (.iload_n 1, 1) := by decide +kernel
theorem dX3_wipe_17 : decode cX3_wipe 17 = .ok (.ireturn, 1) := by decide +kernel
theorem dX3_fault_0 : decode cX3_fault 0 = .ok (.aload_n 0, 1) := by decide +kernel
theorem dX3_fault_1 : decode cX3_fault 1 = .ok (.getfield 45, 3) := by decide +kernel
theorem dX3_fault_4 : decode cX3_fault 4 = .ok (.invokevirtual 65, 3) := by decide +kernel
theorem dX3_fault_7 : decode cX3_fault 7 = .ok (.ireturn, 1) := by decide +kernel
theorem dX3_tree_0 : decode cX3_tree 0 = .ok (.aload_n 0, 1) := by decide +kernel
theorem dX3_tree_1 : decode cX3_tree 1 = .ok (.getfield 45, 3) := by decide +kernel
theorem dX3_tree_4 : decode cX3_tree 4 = .ok (.invokevirtual 65, 3) := by decide +kernel
theorem dX3_tree_7 : decode cX3_tree 7 = .ok (.bipush (-9), 2) := by decide +kernel
theorem dX3_tree_9 : decode cX3_tree 9 = .ok (.if_icmp .eq 6, 3) := by decide +kernel
theorem dX3_tree_12 : decode cX3_tree 12 = .ok (.bipush (-3), 2) := by decide +kernel
theorem dX3_tree_14 : decode cX3_tree 14 = .ok (.ireturn, 1) := by decide +kernel
theorem dX3_tree_15 : decode cX3_tree 15 = .ok (.aload_n 0, 1) := by decide +kernel
theorem dX3_tree_16 : decode cX3_tree 16 = .ok (.getfield 14, 3) := by decide +kernel
theorem dX3_tree_19 : decode cX3_tree 19 = .ok (.aload_n 0, 1) := by decide +kernel
theorem dX3_tree_20 : decode cX3_tree 20 = .ok (.getfield 45, 3) := by decide +kernel
theorem dX3_tree_23 : decode cX3_tree 23 = .ok (.getfield 69, 3) := by decide +kernel
theorem dX3_tree_26 : decode cX3_tree 26 = .ok (.invokevirtual 70, 3) := by decide +kernel
theorem dX3_tree_29 : decode cX3_tree 29 = .ok (.aload_n 0, 1) := by decide +kernel
theorem dX3_tree_30 : decode cX3_tree 30 = .ok (.getfield 23, 3) := by decide +kernel
theorem dX3_tree_33 : decode cX3_tree 33 = .ok (.aload_n 0, 1) := by decide +kernel
theorem dX3_tree_34 : decode cX3_tree 34 = .ok (.getfield 45, 3) := by decide +kernel
theorem dX3_tree_37 : decode cX3_tree 37 = .ok (.getfield 73, 3) := by decide +kernel
theorem dX3_tree_40 : decode cX3_tree 40 = .ok (.aload_n 0, 1) := by decide +kernel
theorem dX3_tree_41 : decode cX3_tree 41 = .ok (.getfield 45, 3) := by decide +kernel
theorem dX3_tree_44 : decode cX3_tree 44 = .ok (.getfield 76, 3) := by decide +kernel
theorem dX3_tree_47 : decode cX3_tree 47 = .ok (.invokevirtual 79, 3) := by decide +kernel
theorem dX3_tree_50 : decode cX3_tree 50 = .ok (.aload_n 0, 1) := by decide +kernel
theorem dX3_tree_51 : decode cX3_tree 51 = .ok (.getfield 36, 3) := by decide +kernel
theorem dX3_tree_54 : decode cX3_tree 54 = .ok (.iconst 0, 1) := by decide +kernel
theorem dX3_tree_55 : decode cX3_tree 55 = .ok (.putfield 83, 3) := by decide +kernel
theorem dX3_tree_58 : decode cX3_tree 58 = .ok (.aload_n 0, 1) := by decide +kernel
theorem dX3_tree_59 : decode cX3_tree 59 = .ok (.iconst 0, 1) := by decide +kernel
theorem dX3_tree_60 : decode cX3_tree 60 = .ok (.putfield 86, 3) := by decide +kernel
theorem dX3_tree_63 : decode cX3_tree 63 = .ok (.aload_n 0, 1) := by decide +kernel
theorem dX3_tree_64 : decode cX3_tree 64 = .ok (.getfield 14, 3) := by decide +kernel
theorem dX3_tree_67 : decode cX3_tree 67 = .ok (.getfield 83, 3) := by decide +kernel
theorem dX3_tree_70 : decode cX3_tree 70 = .ok (.ireturn, 1) := by decide +kernel
theorem dX3_about_0 : decode cX3_about 0 = .ok (.iload_n 1, 1) := by decide +kernel
theorem dX3_about_1 : decode cX3_about 1 = .ok (.tableswitch 200 0 12 #[67, 75, 86, 97, 105, 113, 128, 136, 152, 168, 176, 184, 192], 67) := by decide +kernel
theorem dX3_about_68 : decode cX3_about 68 = .ok (.aload_n 0, 1) := by decide +kernel
theorem dX3_about_69 : decode cX3_about 69 = .ok (.getfield 14, 3) := by decide +kernel
theorem dX3_about_72 : decode cX3_about 72 = .ok (.getfield 83, 3) := by decide +kernel
theorem dX3_about_75 : decode cX3_about 75 = .ok (.ireturn, 1) := by decide +kernel
theorem dX3_about_76 : decode cX3_about 76 = .ok (.aload_n 0, 1) := by decide +kernel
theorem dX3_about_77 : decode cX3_about 77 = .ok (.getfield 23, 3) := by decide +kernel
theorem dX3_about_80 : decode cX3_about 80 = .ok (.getfield 89, 3) := by decide +kernel
theorem dX3_about_83 : decode cX3_about 83 = .ok (.getfield 83, 3) := by decide +kernel
theorem dX3_about_86 : decode cX3_about 86 = .ok (.ireturn, 1) := by decide +kernel
theorem dX3_about_87 : decode cX3_about 87 = .ok (.aload_n 0, 1) := by decide +kernel
theorem dX3_about_88 : decode cX3_about 88 = .ok (.getfield 23, 3) := by decide +kernel
theorem dX3_about_91 : decode cX3_about 91 = .ok (.getfield 90, 3) := by decide +kernel
theorem dX3_about_94 : decode cX3_about 94 = .ok (.getfield 83, 3) := by decide +kernel
theorem dX3_about_97 : decode cX3_about 97 = .ok (.ireturn, 1) := by decide +kernel
theorem dX3_about_98 : decode cX3_about 98 = .ok (.aload_n 0, 1) := by decide +kernel
theorem dX3_about_99 : decode cX3_about 99 = .ok (.getfield 23, 3) := by decide +kernel
theorem dX3_about_102 : decode cX3_about 102 = .ok (.getfield 91, 3) := by decide +kernel
theorem dX3_about_105 : decode cX3_about 105 = .ok (.ireturn, 1) := by decide +kernel
theorem dX3_about_106 : decode cX3_about 106 = .ok (.aload_n 0, 1) := by decide +kernel
theorem dX3_about_107 : decode cX3_about 107 = .ok (.getfield 23, 3) := by decide +kernel
theorem dX3_about_110 : decode cX3_about 110 = .ok (.getfield 94, 3) := by decide +kernel
theorem dX3_about_113 : decode cX3_about 113 = .ok (.ireturn, 1) := by decide +kernel
theorem dX3_about_114 : decode cX3_about 114 = .ok (.aload_n 0, 1) := by decide +kernel
theorem dX3_about_115 : decode cX3_about 115 = .ok (.getfield 23, 3) := by decide +kernel
theorem dX3_about_118 : decode cX3_about 118 = .ok (.aload_n 0, 1) := by decide +kernel
theorem dX3_about_119 : decode cX3_about 119 = .ok (.getfield 23, 3) := by decide +kernel
theorem dX3_about_122 : decode cX3_about 122 = .ok (.getfield 94, 3) := by decide +kernel
theorem dX3_about_125 : decode cX3_about 125 = .ok (.invokevirtual 97, 3) := by decide +kernel
theorem dX3_about_128 : decode cX3_about 128 = .ok (.ireturn, 1) := by decide +kernel
theorem dX3_about_129 : decode cX3_about 129 = .ok (.aload_n 0, 1) := by decide +kernel
theorem dX3_about_130 : decode cX3_about 130 = .ok (.getfield 23, 3) := by decide +kernel
theorem dX3_about_133 : decode cX3_about 133 = .ok (.getfield 101, 3) := by decide +kernel
theorem dX3_about_136 : decode cX3_about 136 = .ok (.ireturn, 1) := by decide +kernel
theorem dX3_about_137 : decode cX3_about 137 = .ok (.aload_n 0, 1) := by decide +kernel
theorem dX3_about_138 : decode cX3_about 138 = .ok (.getfield 23, 3) := by decide +kernel
theorem dX3_about_141 : decode cX3_about 141 = .ok (.iconst 2, 1) := by decide +kernel
theorem dX3_about_142 : decode cX3_about 142 = .ok (.aload_n 0, 1) := by decide +kernel
theorem dX3_about_143 : decode cX3_about 143 = .ok (.getfield 23, 3) := by decide +kernel
theorem dX3_about_146 : decode cX3_about 146 = .ok (.invokevirtual 104, 3) := by decide +kernel
theorem dX3_about_149 : decode cX3_about 149 = .ok (.invokevirtual 107, 3) := by decide +kernel
theorem dX3_about_152 : decode cX3_about 152 = .ok (.ireturn, 1) := by decide +kernel
theorem dX3_about_153 : decode cX3_about 153 = .ok (.aload_n 0, 1) := by decide +kernel
theorem dX3_about_154 : decode cX3_about 154 = .ok (.getfield 23, 3) := by decide +kernel
theorem dX3_about_157 : decode cX3_about 157 = .ok (.iconst 0, 1) := by decide +kernel
theorem dX3_about_158 : decode cX3_about 158 = .ok (.aload_n 0, 1) := by decide +kernel
theorem dX3_about_159 : decode cX3_about 159 = .ok (.getfield 23, 3) := by decide +kernel
theorem dX3_about_162 : decode cX3_about 162 = .ok (.invokevirtual 104, 3) := by decide +kernel
theorem dX3_about_165 : decode cX3_about 165 = .ok (.invokevirtual 107, 3) := by decide +kernel
theorem dX3_about_168 : decode cX3_about 168 = .ok (.ireturn, 1) := by decide +kernel
theorem dX3_about_169 : decode cX3_about 169 = .ok (.aload_n 0, 1) := by decide +kernel
theorem dX3_about_170 : decode cX3_about 170 = .ok (.getfield 23, 3) := by decide +kernel
theorem dX3_about_173 : decode cX3_about 173 = .ok (.invokevirtual 111, 3) := by decide +kernel
theorem dX3_about_176 : decode cX3_about 176 = .ok (.ireturn, 1) := by decide +kernel
theorem dX3_about_177 : decode cX3_about 177 = .ok (.aload_n 0, 1) := by decide +kernel
theorem dX3_about_178 : decode cX3_about 178 = .ok (.getfield 36, 3) := by decide +kernel
theorem dX3_about_181 : decode cX3_about 181 = .ok (.getfield 83, 3) := by decide +kernel
theorem dX3_about_184 : decode cX3_about 184 = .ok (.ireturn, 1) := by decide +kernel
theorem dX3_about_185 : decode cX3_about 185 = .ok (.aload_n 0, 1) := by decide +kernel
theorem dX3_about_186 : decode cX3_about 186 = .ok (.getfield 39, 3) := by decide +kernel
theorem dX3_about_189 : decode cX3_about 189 = .ok (.getfield 83, 3) := by decide +kernel
theorem dX3_about_192 : decode cX3_about 192 = .ok (.ireturn, 1) := by decide +kernel
theorem dX3_about_193 : decode cX3_about 193 = .ok (.aload_n 0, 1) := by decide +kernel
theorem dX3_about_194 : decode cX3_about 194 = .ok (.getfield 45, 3) := by decide +kernel
theorem dX3_about_197 : decode cX3_about 197 = .ok (.getfield 57, 3) := by decide +kernel
theorem dX3_about_200 : decode cX3_about 200 = .ok (.ireturn, 1) := by decide +kernel
theorem dX3_about_201 : decode cX3_about 201 = .ok (.bipush (-2), 2) := by decide +kernel
theorem dX3_about_203 : decode cX3_about 203 = .ok (.ireturn, 1) := by decide +kernel
theorem dX3_paper_0 : decode cX3_paper 0 = .ok (.aload_n 0, 1) := by decide +kernel
theorem dX3_paper_1 : decode cX3_paper 1 = .ok (.getfield 14, 3) := by decide +kernel
theorem dX3_paper_4 : decode cX3_paper 4 = .ok (.iload_n 1, 1) := by decide +kernel
theorem dX3_paper_5 : decode cX3_paper 5 = .ok (.invokevirtual 114, 3) := by decide +kernel
theorem dX3_paper_8 : decode cX3_paper 8 = .ok (.ifCond .ne 5, 3) := by decide +kernel
theorem dX3_paper_11 : decode cX3_paper 11 = .ok (.iconst (-1), 1) := by decide +kernel
theorem dX3_paper_12 : decode cX3_paper 12 = .ok (.ireturn, 1) := by decide +kernel
theorem dX3_paper_13 : decode cX3_paper 13 = .ok (.iload_n 2, 1) := by decide +kernel
theorem dX3_paper_14 : decode cX3_paper 14 = .ok (.tableswitch 93 0 4 #[34, 44, 54, 64, 74], 34) := by decide +kernel
theorem dX3_paper_48 : decode cX3_paper 48 = .ok (.aload_n 0, 1) := by decide +kernel
theorem dX3_paper_49 : decode cX3_paper 49 = .ok (.getfield 14, 3) := by decide +kernel
theorem dX3_paper_52 : decode cX3_paper 52 = .ok (.iload_n 1, 1) := by decide +kernel
theorem dX3_paper_53 : decode cX3_paper 53 = .ok (.iconst 3, 1) := by decide +kernel
theorem dX3_paper_54 : decode cX3_paper 54 = .ok (.invokevirtual 118, 3) := by decide +kernel
theorem dX3_paper_57 : decode cX3_paper 57 = .ok (.ireturn, 1) := by decide +kernel
theorem dX3_paper_58 : decode cX3_paper 58 = .ok (.aload_n 0, 1) := by decide +kernel
theorem dX3_paper_59 : decode cX3_paper 59 = .ok (.getfield 14, 3) := by decide +kernel
theorem dX3_paper_62 : decode cX3_paper 62 = .ok (.iload_n 1, 1) := by decide +kernel
theorem dX3_paper_63 : decode cX3_paper 63 = .ok (.iconst 0, 1) := by decide +kernel
theorem dX3_paper_64 : decode cX3_paper 64 = .ok (.invokevirtual 118, 3) := by decide +kernel
theorem dX3_paper_67 : decode cX3_paper 67 = .ok (.ireturn, 1) := by decide +kernel
theorem dX3_paper_68 : decode cX3_paper 68 = .ok (.aload_n 0, 1) := by decide +kernel
theorem dX3_paper_69 : decode cX3_paper 69 = .ok (.getfield 14, 3) := by decide +kernel
theorem dX3_paper_72 : decode cX3_paper 72 = .ok (.iload_n 1, 1) := by decide +kernel
theorem dX3_paper_73 : decode cX3_paper 73 = .ok (.iconst 1, 1) := by decide +kernel
theorem dX3_paper_74 : decode cX3_paper 74 = .ok (.invokevirtual 118, 3) := by decide +kernel
theorem dX3_paper_77 : decode cX3_paper 77 = .ok (.ireturn, 1) := by decide +kernel
theorem dX3_paper_78 : decode cX3_paper 78 = .ok (.aload_n 0, 1) := by decide +kernel
theorem dX3_paper_79 : decode cX3_paper 79 = .ok (.getfield 14, 3) := by decide +kernel
theorem dX3_paper_82 : decode cX3_paper 82 = .ok (.iload_n 1, 1) := by decide +kernel
theorem dX3_paper_83 : decode cX3_paper 83 = .ok (.iconst 4, 1) := by decide +kernel
theorem dX3_paper_84 : decode cX3_paper 84 = .ok (.invokevirtual 118, 3) := by decide +kernel
theorem dX3_paper_87 : decode cX3_paper 87 = .ok (.ireturn, 1) := by decide +kernel
theorem dX3_paper_88 : decode cX3_paper 88 = .ok (.aload_n 0, 1) := by decide +kernel
theorem dX3_paper_89 : decode cX3_paper 89 = .ok (.getfield 23, 3) := by decide +kernel
theorem dX3_paper_92 : decode cX3_paper 92 = .ok (.aload_n 0, 1) := by decide +kernel
theorem dX3_paper_93 : decode cX3_paper 93 = .ok (.getfield 23, 3) := by decide +kernel
theorem dX3_paper_96 : decode cX3_paper 96 = .ok (.getfield 94, 3) := by decide +kernel
theorem dX3_paper_99 : decode cX3_paper 99 = .ok (.invokevirtual 97, 3) := by decide +kernel
theorem dX3_paper_102 : decode cX3_paper 102 = .ok (.iload_n 1, 1) := by decide +kernel
theorem dX3_paper_103 : decode cX3_paper 103 = .ok (.invokestatic 121, 3) := by decide +kernel
theorem dX3_paper_106 : decode cX3_paper 106 = .ok (.ireturn, 1) := by decide +kernel
theorem dX3_paper_107 : decode cX3_paper 107 = .ok (.bipush (-2), 2) := by decide +kernel
