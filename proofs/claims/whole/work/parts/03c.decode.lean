theorem dX4_readOneGrant_5 : decode cX4_readOneGrant 5 = .ok (.getfield 62, 3) := by decide +kernel
theorem dX4_readOneGrant_8 : decode cX4_readOneGrant 8 = .ok (.if_icmp .ge 28, 3) := by decide +kernel
theorem dX4_readOneGrant_11 : decode cX4_readOneGrant 11 = .ok (.aload_n 0, 1) := by decide +kernel
theorem dX4_readOneGrant_12 : decode cX4_readOneGrant 12 = .ok (.getfield 7, 3) := by decide +kernel
theorem dX4_readOneGrant_15 : decode cX4_readOneGrant 15 = .ok (.aload_n 0, 1) := by decide +kernel
theorem dX4_readOneGrant_16 : decode cX4_readOneGrant 16 = .ok (.getfield 65, 3) := by decide +kernel
theorem dX4_readOneGrant_19 : decode cX4_readOneGrant 19 = .ok (.iaload, 1) := by decide +kernel
theorem dX4_readOneGrant_20 : decode cX4_readOneGrant 20 = .ok (.bipush 57, 2) := by decide +kernel
theorem dX4_readOneGrant_22 : decode cX4_readOneGrant 22 = .ok (.if_icmp .ne 14, 3) := by decide +kernel
theorem dX4_readOneGrant_25 : decode cX4_readOneGrant 25 = .ok (.aload_n 0, 1) := by decide +kernel
theorem dX4_readOneGrant_26 : decode cX4_readOneGrant 26 = .ok (.bipush 9, 2) := by decide +kernel
theorem dX4_readOneGrant_28 : decode cX4_readOneGrant 28 = .ok (.bipush 9, 2) := by decide +kernel
theorem dX4_readOneGrant_30 : decode cX4_readOneGrant 30 = .ok (.invokevirtual 68, 3) := by decide +kernel
theorem dX4_readOneGrant_33 : decode cX4_readOneGrant 33 = .ok (.goto 14, 3) := by decide +kernel
theorem dX4_readOneGrant_36 : decode cX4_readOneGrant 36 = .ok (.aload_n 0, 1) := by decide +kernel
theorem dX4_readOneGrant_37 : decode cX4_readOneGrant 37 = .ok (.iconst 0, 1) := by decide +kernel
theorem dX4_readOneGrant_38 : decode cX4_readOneGrant 38 = .ok (.aload_n 0, 1) := by decide +kernel
theorem dX4_readOneGrant_39 : decode cX4_readOneGrant 39 = .ok (.getfield 82, 3) := by decide +kernel
theorem dX4_readOneGrant_42 : decode cX4_readOneGrant 42 = .ok (.iconst 1, 1) := by decide +kernel
theorem dX4_readOneGrant_43 : decode cX4_readOneGrant 43 = .ok (.isub, 1) := by decide +kernel
theorem dX4_readOneGrant_44 : decode cX4_readOneGrant 44 = .ok (.invokevirtual 68, 3) := by decide +kernel
theorem dX4_readOneGrant_47 : decode cX4_readOneGrant 47 = .ok (.istore_n 1, 1) := by decide +kernel
theorem dX4_readOneGrant_48 : decode cX4_readOneGrant 48 = .ok (.iload_n 1, 1) := by decide +kernel
theorem dX4_readOneGrant_49 : decode cX4_readOneGrant 49 = .ok (.bipush (-9), 2) := by decide +kernel
theorem dX4_readOneGrant_51 : decode cX4_readOneGrant 51 = .ok (.if_icmp .ne 8, 3) := by decide +kernel
theorem dX4_readOneGrant_54 : decode cX4_readOneGrant 54 = .ok (.bipush (-9), 2) := by decide +kernel
theorem dX4_readOneGrant_56 : decode cX4_readOneGrant 56 = .ok (.goto 9, 3) := by decide +kernel
theorem dX4_readOneGrant_59 : decode cX4_readOneGrant 59 = .ok (.aload_n 0, 1) := by decide +kernel
theorem dX4_readOneGrant_60 : decode cX4_readOneGrant 60 = .ok (.iconst 0, 1) := by decide +kernel
theorem dX4_readOneGrant_61 : decode cX4_readOneGrant 61 = .ok (.iconst 5, 1) := by decide +kernel
theorem dX4_readOneGrant_62 : decode cX4_readOneGrant 62 = .ok (.invokevirtual 68, 3) := by decide +kernel
theorem dX4_readOneGrant_65 : decode cX4_readOneGrant 65 = .ok (.istore_n 2, 1) := by decide +kernel
theorem dX4_readOneGrant_66 : decode cX4_readOneGrant 66 = .ok (.iload_n 2, 1) := by decide +kernel
theorem dX4_readOneGrant_67 : decode cX4_readOneGrant 67 = .ok (.bipush (-9), 2) := by decide +kernel
theorem dX4_readOneGrant_69 : decode cX4_readOneGrant 69 = .ok (.if_icmp .eq 10, 3) := by decide +kernel
theorem dX4_readOneGrant_72 : decode cX4_readOneGrant 72 = .ok (.aload_n 0, 1) := by decide +kernel
theorem dX4_readOneGrant_73 : decode cX4_readOneGrant 73 = .ok (.invokevirtual 85, 3) := by decide +kernel
theorem dX4_readOneGrant_76 : decode cX4_readOneGrant 76 = .ok (.ifCond .ne 5, 3) := by decide +kernel
theorem dX4_readOneGrant_79 : decode cX4_readOneGrant 79 = .ok (.iconst 0, 1) := by decide +kernel
theorem dX4_readOneGrant_80 : decode cX4_readOneGrant 80 = .ok (.ireturn, 1) := by decide +kernel
theorem dX4_readOneGrant_81 : decode cX4_readOneGrant 81 = .ok (.aload_n 0, 1) := by decide +kernel
theorem dX4_readOneGrant_82 : decode cX4_readOneGrant 82 = .ok (.aload_n 0, 1) := by decide +kernel
theorem dX4_readOneGrant_83 : decode cX4_readOneGrant 83 = .ok (.getfield 79, 3) := by decide +kernel
theorem dX4_readOneGrant_86 : decode cX4_readOneGrant 86 = .ok (.iconst 5, 1) := by decide +kernel
theorem dX4_readOneGrant_87 : decode cX4_readOneGrant 87 = .ok (.invokevirtual 68, 3) := by decide +kernel
theorem dX4_readOneGrant_90 : decode cX4_readOneGrant 90 = .ok (.istore_n 3, 1) := by decide +kernel
theorem dX4_readOneGrant_91 : decode cX4_readOneGrant 91 = .ok (.iload_n 3, 1) := by decide +kernel
theorem dX4_readOneGrant_92 : decode cX4_readOneGrant 92 = .ok (.bipush (-9), 2) := by decide +kernel
theorem dX4_readOneGrant_94 : decode cX4_readOneGrant 94 = .ok (.if_icmp .ne 5, 3) := by decide +kernel
theorem dX4_readOneGrant_97 : decode cX4_readOneGrant 97 = .ok (.iconst 0, 1) := by decide +kernel
theorem dX4_readOneGrant_98 : decode cX4_readOneGrant 98 = .ok (.ireturn, 1) := by decide +kernel
theorem dX4_readOneGrant_99 : decode cX4_readOneGrant 99 = .ok (.aload_n 0, 1) := by decide +kernel
theorem dX4_readOneGrant_100 : decode cX4_readOneGrant 100 = .ok (.getfield 41, 3) := by decide +kernel
theorem dX4_readOneGrant_103 : decode cX4_readOneGrant 103 = .ok (.iload_n 1, 1) := by decide +kernel
theorem dX4_readOneGrant_104 : decode cX4_readOneGrant 104 = .ok (.iload_n 2, 1) := by decide +kernel
theorem dX4_readOneGrant_105 : decode cX4_readOneGrant 105 = .ok (.aload_n 0, 1) := by decide +kernel
theorem dX4_readOneGrant_106 : decode cX4_readOneGrant 106 = .ok (.getfield 72, 3) := by decide +kernel
theorem dX4_readOneGrant_109 : decode cX4_readOneGrant 109 = .ok (.aload_n 0, 1) := by decide +kernel
theorem dX4_readOneGrant_110 : decode cX4_readOneGrant 110 = .ok (.getfield 79, 3) := by decide +kernel
theorem dX4_readOneGrant_113 : decode cX4_readOneGrant 113 = .ok (.iload_n 3, 1) := by decide +kernel
theorem dX4_readOneGrant_114 : decode cX4_readOneGrant 114 = .ok (.invokestatic 89, 3) := by decide +kernel
theorem dX4_readOneGrant_117 : decode cX4_readOneGrant 117 = .ok (.iconst 1, 1) := by decide +kernel
theorem dX4_readOneGrant_118 : decode cX4_readOneGrant 118 = .ok (.ireturn, 1) := by decide +kernel
theorem dX4_readOneRoute_0 : decode cX4_readOneRoute 0 = .ok (.aload_n 0, 1) := by decide +kernel
theorem dX4_readOneRoute_1 : decode cX4_readOneRoute 1 = .ok (.invokevirtual 85, 3) := by decide +kernel
theorem dX4_readOneRoute_4 : decode cX4_readOneRoute 4 = .ok (.ifCond .ne 5, 3) := by decide +kernel
theorem dX4_readOneRoute_7 : decode cX4_readOneRoute 7 = .ok (.iconst 0, 1) := by decide +kernel
theorem dX4_readOneRoute_8 : decode cX4_readOneRoute 8 = .ok (.ireturn, 1) := by decide +kernel
theorem dX4_readOneRoute_9 : decode cX4_readOneRoute 9 = .ok (.aload_n 0, 1) := by decide +kernel
theorem dX4_readOneRoute_10 : decode cX4_readOneRoute 10 = .ok (.iconst 0, 1) := by decide +kernel
theorem dX4_readOneRoute_11 : decode cX4_readOneRoute 11 = .ok (.iconst 5, 1) := by decide +kernel
theorem dX4_readOneRoute_12 : decode cX4_readOneRoute 12 = .ok (.invokevirtual 68, 3) := by decide +kernel
theorem dX4_readOneRoute_15 : decode cX4_readOneRoute 15 = .ok (.istore_n 1, 1) := by decide +kernel
theorem dX4_readOneRoute_16 : decode cX4_readOneRoute 16 = .ok (.iload_n 1, 1) := by decide +kernel
theorem dX4_readOneRoute_17 : decode cX4_readOneRoute 17 = .ok (.bipush (-9), 2) := by decide +kernel
theorem dX4_readOneRoute_19 : decode cX4_readOneRoute 19 = .ok (.if_icmp .ne 5, 3) := by decide +kernel
theorem dX4_readOneRoute_22 : decode cX4_readOneRoute 22 = .ok (.iconst 0, 1) := by decide +kernel
theorem dX4_readOneRoute_23 : decode cX4_readOneRoute 23 = .ok (.ireturn, 1) := by decide +kernel
theorem dX4_readOneRoute_24 : decode cX4_readOneRoute 24 = .ok (.aload_n 0, 1) := by decide +kernel
theorem dX4_readOneRoute_25 : decode cX4_readOneRoute 25 = .ok (.getfield 41, 3) := by decide +kernel
theorem dX4_readOneRoute_28 : decode cX4_readOneRoute 28 = .ok (.aload_n 0, 1) := by decide +kernel
theorem dX4_readOneRoute_29 : decode cX4_readOneRoute 29 = .ok (.getfield 72, 3) := by decide +kernel
theorem dX4_readOneRoute_32 : decode cX4_readOneRoute 32 = .ok (.aload_n 0, 1) := by decide +kernel
theorem dX4_readOneRoute_33 : decode cX4_readOneRoute 33 = .ok (.getfield 79, 3) := by decide +kernel
theorem dX4_readOneRoute_36 : decode cX4_readOneRoute 36 = .ok (.iload_n 1, 1) := by decide +kernel
theorem dX4_readOneRoute_37 : decode cX4_readOneRoute 37 = .ok (.invokestatic 93, 3) := by decide +kernel
theorem dX4_readOneRoute_40 : decode cX4_readOneRoute 40 = .ok (.iconst 1, 1) := by decide +kernel
theorem dX4_readOneRoute_41 : decode cX4_readOneRoute 41 = .ok (.ireturn, 1) := by decide +kernel
theorem dX4_readPart_0 : decode cX4_readPart 0 = .ok (.aload_n 0, 1) := by decide +kernel
theorem dX4_readPart_1 : decode cX4_readPart 1 = .ok (.getfield 7, 3) := by decide +kernel
theorem dX4_readPart_4 : decode cX4_readPart 4 = .ok (.aload_n 0, 1) := by decide +kernel
theorem dX4_readPart_5 : decode cX4_readPart 5 = .ok (.getfield 65, 3) := by decide +kernel
theorem dX4_readPart_8 : decode cX4_readPart 8 = .ok (.iaload, 1) := by decide +kernel
theorem dX4_readPart_9 : decode cX4_readPart 9 = .ok (.istore_n 1, 1) := by decide +kernel
theorem dX4_readPart_10 : decode cX4_readPart 10 = .ok (.iload_n 1, 1) := by decide +kernel
theorem dX4_readPart_11 : decode cX4_readPart 11 = .ok (.bipush 112, 2) := by decide +kernel
theorem dX4_readPart_13 : decode cX4_readPart 13 = .ok (.if_icmp .ne 12, 3) := by decide +kernel
theorem dX4_readPart_16 : decode cX4_readPart 16 = .ok (.aload_n 0, 1) := by decide +kernel
theorem dX4_readPart_17 : decode cX4_readPart 17 = .ok (.getfield 82, 3) := by decide +kernel
theorem dX4_readPart_20 : decode cX4_readPart 20 = .ok (.bipush 6, 2) := by decide +kernel
theorem dX4_readPart_22 : decode cX4_readPart 22 = .ok (.if_icmp .lt 38, 3) := by decide +kernel
theorem dX4_readPart_25 : decode cX4_readPart 25 = .ok (.iload_n 1, 1) := by decide +kernel
theorem dX4_readPart_26 : decode cX4_readPart 26 = .ok (.bipush 103, 2) := by decide +kernel
theorem dX4_readPart_28 : decode cX4_readPart 28 = .ok (.if_icmp .ne 14, 3) := by decide +kernel
theorem dX4_readPart_31 : decode cX4_readPart 31 = .ok (.aload_n 0, 1) := by decide +kernel
theorem dX4_readPart_32 : decode cX4_readPart 32 = .ok (.getfield 41, 3) := by decide +kernel
theorem dX4_readPart_35 : decode cX4_readPart 35 = .ok (.iconst 0, 1) := by decide +kernel
theorem dX4_readPart_36 : decode cX4_readPart 36 = .ok (.iaload, 1) := by decide +kernel
theorem dX4_readPart_37 : decode cX4_readPart 37 = .ok (.bipush 8, 2) := by decide +kernel
theorem dX4_readPart_39 : decode cX4_readPart 39 = .ok (.if_icmp .lt 21, 3) := by decide +kernel
theorem dX4_readPart_42 : decode cX4_readPart 42 = .ok (.iload_n 1, 1) := by decide +kernel
theorem dX4_readPart_43 : decode cX4_readPart 43 = .ok (.bipush 114, 2) := by decide +kernel
theorem dX4_readPart_45 : decode cX4_readPart 45 = .ok (.if_icmp .ne 19, 3) := by decide +kernel
theorem dX4_readPart_48 : decode cX4_readPart 48 = .ok (.aload_n 0, 1) := by decide +kernel
theorem dX4_readPart_49 : decode cX4_readPart 49 = .ok (.getfield 41, 3) := by decide +kernel
theorem dX4_readPart_52 : decode cX4_readPart 52 = .ok (.bipush 41, 2) := by decide +kernel
theorem dX4_readPart_54 : decode cX4_readPart 54 = .ok (.iaload, 1) := by decide +kernel
theorem dX4_readPart_55 : decode cX4_readPart 55 = .ok (.bipush 6, 2) := by decide +kernel
theorem dX4_readPart_57 : decode cX4_readPart 57 = .ok (.if_icmp .ge 7, 3) := by decide +kernel
theorem dX4_readPart_60 : decode cX4_readPart 60 = .ok (.iconst 1, 1) := by decide +kernel
theorem dX4_readPart_61 : decode cX4_readPart 61 = .ok (.goto 4, 3) := by decide +kernel
theorem dX4_readPart_64 : decode cX4_readPart 64 = .ok (.iconst 0, 1) := by decide +kernel
theorem dX4_readPart_65 : decode cX4_readPart 65 = .ok (.istore_n 2, 1) := by decide +kernel
theorem dX4_readPart_66 : decode cX4_readPart 66 = .ok (.iload_n 2, 1) := by decide +kernel
theorem dX4_readPart_67 : decode cX4_readPart 67 = .ok (.ifCond .ne 5, 3) := by decide +kernel
theorem dX4_readPart_70 : decode cX4_readPart 70 = .ok (.iconst 0, 1) := by decide +kernel
theorem dX4_readPart_71 : decode cX4_readPart 71 = .ok (.ireturn, 1) := by decide +kernel
theorem dX4_readPart_72 : decode cX4_readPart 72 = .ok (.aload_n 0, 1) := by decide +kernel
theorem dX4_readPart_73 : decode cX4_readPart 73 = .ok (.dup, 1) := by decide +kernel
theorem dX4_readPart_74 : decode cX4_readPart 74 = .ok (.getfield 65, 3) := by decide +kernel
theorem dX4_readPart_77 : decode cX4_readPart 77 = .ok (.iconst 1, 1) := by decide +kernel
theorem dX4_readPart_78 : decode cX4_readPart 78 = .ok (.iadd, 1) := by decide +kernel
theorem dX4_readPart_79 : decode cX4_readPart 79 = .ok (.putfield 65, 3) := by decide +kernel
theorem dX4_readPart_82 : decode cX4_readPart 82 = .ok (.iload_n 1, 1) := by decide +kernel
theorem dX4_readPart_83 : decode cX4_readPart 83 = .ok (.bipush 112, 2) := by decide +kernel
theorem dX4_readPart_85 : decode cX4_readPart 85 = .ok (.if_icmp .ne 10, 3) := by decide +kernel
theorem dX4_readPart_88 : decode cX4_readPart 88 = .ok (.aload_n 0, 1) := by decide +kernel
theorem dX4_readPart_89 : decode cX4_readPart 89 = .ok (.invokevirtual 97, 3) := by decide +kernel
theorem dX4_readPart_92 : decode cX4_readPart 92 = .ok (.goto 20, 3) := by decide +kernel
theorem dX4_readPart_95 : decode cX4_readPart 95 = .ok (.iload_n 1, 1) := by decide +kernel
theorem dX4_readPart_96 : decode cX4_readPart 96 = .ok (.bipush 103, 2) := by decide +kernel
theorem dX4_readPart_98 : decode cX4_readPart 98 = .ok (.if_icmp .ne 10, 3) := by decide +kernel
theorem dX4_readPart_101 : decode cX4_readPart 101 = .ok (.aload_n 0, 1) := by decide +kernel
theorem dX4_readPart_102 : decode cX4_readPart 102 = .ok (.invokevirtual 100, 3) := by decide +kernel
theorem dX4_readPart_105 : decode cX4_readPart 105 = .ok (.goto 7, 3) := by decide +kernel
theorem dX4_readPart_108 : decode cX4_readPart 108 = .ok (.aload_n 0, 1) := by decide +kernel
theorem dX4_readPart_109 : decode cX4_readPart 109 = .ok (.invokevirtual 103, 3) := by decide +kernel
theorem dX4_readPart_112 : decode cX4_readPart 112 = .ok (.ireturn, 1) := by decide +kernel
theorem dX4_readText_0 : decode cX4_readText 0 = .ok (.aload_n 0, 1) := by decide +kernel
theorem dX4_readText_1 : decode cX4_readText 1 = .ok (.iconst 1, 1) := by decide +kernel
theorem dX4_readText_2 : decode cX4_readText 2 = .ok (.putfield 82, 3) := by decide +kernel
theorem dX4_readText_5 : decode cX4_readText 5 = .ok (.iconst 0, 1) := by decide +kernel
theorem dX4_readText_6 : decode cX4_readText 6 = .ok (.istore_n 1, 1) := by decide +kernel
theorem dX4_readText_7 : decode cX4_readText 7 = .ok (.iload_n 1, 1) := by decide +kernel
theorem dX4_readText_8 : decode cX4_readText 8 = .ok (.bipush 66, 2) := by decide +kernel
theorem dX4_readText_10 : decode cX4_readText 10 = .ok (.if_icmp .ge 16, 3) := by decide +kernel
theorem dX4_readText_13 : decode cX4_readText 13 = .ok (.aload_n 0, 1) := by decide +kernel
theorem dX4_readText_14 : decode cX4_readText 14 = .ok (.getfield 41, 3) := by decide +kernel
theorem dX4_readText_17 : decode cX4_readText 17 = .ok (.iload_n 1, 1) := by decide +kernel
theorem dX4_readText_18 : decode cX4_readText 18 = .ok (.iconst 0, 1) := by decide +kernel
theorem dX4_readText_19 : decode cX4_readText 19 = .ok (.iastore, 1) := by decide +kernel
theorem dX4_readText_20 : decode cX4_readText 20 = .ok (.iinc 1 1, 3) := by decide +kernel
theorem dX4_readText_23 : decode cX4_readText 23 = .ok (.goto (-16), 3) := by decide +kernel
theorem dX4_readText_26 : decode cX4_readText 26 = .ok (.aload_n 0, 1) := by decide +kernel
theorem dX4_readText_27 : decode cX4_readText 27 = .ok (.getfield 62, 3) := by decide +kernel
theorem dX4_readText_30 : decode cX4_readText 30 = .ok (.ifCond .eq 14, 3) := by decide +kernel
theorem dX4_readText_33 : decode cX4_readText 33 = .ok (.aload_n 0, 1) := by decide +kernel
theorem dX4_readText_34 : decode cX4_readText 34 = .ok (.getfield 7, 3) := by decide +kernel
theorem dX4_readText_37 : decode cX4_readText 37 = .ok (.iconst 0, 1) := by decide +kernel
theorem dX4_readText_38 : decode cX4_readText 38 = .ok (.iaload, 1) := by decide +kernel
theorem dX4_readText_39 : decode cX4_readText 39 = .ok (.bipush 80, 2) := by decide +kernel
theorem dX4_readText_41 : decode cX4_readText 41 = .ok (.if_icmp .eq 5, 3) := by decide +kernel
theorem dX4_readText_44 : decode cX4_readText 44 = .ok (.iconst 0, 1) := by decide +kernel
theorem dX4_readText_45 : decode cX4_readText 45 = .ok (.ireturn, 1) := by decide +kernel
theorem dX4_readText_46 : decode cX4_readText 46 = .ok (.aload_n 0, 1) := by decide +kernel
theorem dX4_readText_47 : decode cX4_readText 47 = .ok (.iconst 1, 1) := by decide +kernel
theorem dX4_readText_48 : decode cX4_readText 48 = .ok (.putfield 65, 3) := by decide +kernel
theorem dX4_readText_51 : decode cX4_readText 51 = .ok (.aload_n 0, 1) := by decide +kernel
theorem dX4_readText_52 : decode cX4_readText 52 = .ok (.getfield 65, 3) := by decide +kernel
theorem dX4_readText_55 : decode cX4_readText 55 = .ok (.aload_n 0, 1) := by decide +kernel
theorem dX4_readText_56 : decode cX4_readText 56 = .ok (.getfield 62, 3) := by decide +kernel
theorem dX4_readText_59 : decode cX4_readText 59 = .ok (.if_icmp .ge 15, 3) := by decide +kernel
theorem dX4_readText_62 : decode cX4_readText 62 = .ok (.aload_n 0, 1) := by decide +kernel
theorem dX4_readText_63 : decode cX4_readText 63 = .ok (.invokevirtual 106, 3) := by decide +kernel
theorem dX4_readText_66 : decode cX4_readText 66 = .ok (.ifCond .ne (-15), 3) := by decide +kernel
theorem dX4_readText_69 : decode cX4_readText 69 = .ok (.aload_n 0, 1) := by decide +kernel
theorem dX4_readText_70 : decode cX4_readText 70 = .ok (.getfield 65, 3) := by decide +kernel
theorem dX4_readText_73 : decode cX4_readText 73 = .ok (.ireturn, 1) := by decide +kernel
theorem dX4_readText_74 : decode cX4_readText 74 = .ok (.bipush (-9), 2) := by decide +kernel
theorem dX4_readText_76 : decode cX4_readText 76 = .ok (.ireturn, 1) := by decide +kernel
theorem dX4_fault_0 : decode cX4_fault 0 = .ok (.aload_n 0, 1) := by decide +kernel
theorem dX4_fault_1 : decode cX4_fault 1 = .ok (.invokevirtual 109, 3) := by decide +kernel
theorem dX4_fault_4 : decode cX4_fault 4 = .ok (.ireturn, 1) := by decide +kernel
theorem dX4_tree_0 : decode cX4_tree 0 = .ok (.aload_n 0, 1) := by decide +kernel
theorem dX4_tree_1 : decode cX4_tree 1 = .ok (.invokevirtual 109, 3) := by decide +kernel
theorem dX4_tree_4 : decode cX4_tree 4 = .ok (.bipush (-9), 2) := by decide +kernel
theorem dX4_tree_6 : decode cX4_tree 6 = .ok (.if_icmp .eq 6, 3) := by decide +kernel
theorem dX4_tree_9 : decode cX4_tree 9 = .ok (.bipush (-3), 2) := by decide +kernel
theorem dX4_tree_11 : decode cX4_tree 11 = .ok (.ireturn, 1) := by decide +kernel
theorem dX4_tree_12 : decode cX4_tree 12 = .ok (.aload_n 0, 1) := by decide +kernel
theorem dX4_tree_13 : decode cX4_tree 13 = .ok (.aload_n 0, 1) := by decide +kernel
theorem dX4_tree_14 : decode cX4_tree 14 = .ok (.getfield 82, 3) := by decide +kernel
theorem dX4_tree_17 : decode cX4_tree 17 = .ok (.putfield 44, 3) := by decide +kernel
theorem dX4_tree_20 : decode cX4_tree 20 = .ok (.iconst 4, 1) := by decide +kernel
theorem dX4_tree_21 : decode cX4_tree 21 = .ok (.istore_n 1, 1) := by decide +kernel
theorem dX4_tree_22 : decode cX4_tree 22 = .ok (.iload_n 1, 1) := by decide +kernel
theorem dX4_tree_23 : decode cX4_tree 23 = .ok (.iconst 4, 1) := by decide +kernel
theorem dX4_tree_24 : decode cX4_tree 24 = .ok (.aload_n 0, 1) := by decide +kernel
theorem dX4_tree_25 : decode cX4_tree 25 = .ok (.getfield 44, 3) := by decide +kernel
theorem dX4_tree_28 : decode cX4_tree 28 = .ok (.imul, 1) := by decide +kernel
theorem dX4_tree_29 : decode cX4_tree 29 = .ok (.if_icmp .ge 21, 3) := by decide +kernel
theorem dX4_tree_32 : decode cX4_tree 32 = .ok (.aload_n 0, 1) := by decide +kernel
theorem dX4_tree_33 : decode cX4_tree 33 = .ok (.getfield 13, 3) := by decide +kernel
theorem dX4_tree_36 : decode cX4_tree 36 = .ok (.iload_n 1, 1) := by decide +kernel
theorem dX4_tree_37 : decode cX4_tree 37 = .ok (.aload_n 0, 1) := by decide +kernel
theorem dX4_tree_38 : decode cX4_tree 38 = .ok (.getfield 38, 3) := by decide +kernel
theorem dX4_tree_41 : decode cX4_tree 41 = .ok (.iload_n 1, 1) := by decide +kernel
theorem dX4_tree_42 : decode cX4_tree 42 = .ok (.iaload, 1) := by decide +kernel
theorem dX4_tree_43 : decode cX4_tree 43 = .ok (.iastore, 1) := by decide +kernel
theorem dX4_tree_44 : decode cX4_tree 44 = .ok (.iinc 1 1, 3) := by decide +kernel
theorem dX4_tree_47 : decode cX4_tree 47 = .ok (.goto (-25), 3) := by decide +kernel
theorem dX4_tree_50 : decode cX4_tree 50 = .ok (.aload_n 0, 1) := by decide +kernel
theorem dX4_tree_51 : decode cX4_tree 51 = .ok (.getfield 41, 3) := by decide +kernel
theorem dX4_tree_54 : decode cX4_tree 54 = .ok (.aload_n 0, 1) := by decide +kernel
theorem dX4_tree_55 : decode cX4_tree 55 = .ok (.getfield 16, 3) := by decide +kernel
theorem dX4_tree_58 : decode cX4_tree 58 = .ok (.invokestatic 113, 3) := by decide +kernel
theorem dX4_tree_61 : decode cX4_tree 61 = .ok (.aload_n 0, 1) := by decide +kernel
theorem dX4_tree_62 : decode cX4_tree 62 = .ok (.iconst 0, 1) := by decide +kernel
theorem dX4_tree_63 : decode cX4_tree 63 = .ok (.putfield 117, 3) := by decide +kernel
theorem dX4_tree_66 : decode cX4_tree 66 = .ok (.aload_n 0, 1) := by decide +kernel
theorem dX4_tree_67 : decode cX4_tree 67 = .ok (.getfield 28, 3) := by decide +kernel
theorem dX4_tree_70 : decode cX4_tree 70 = .ok (.iconst 0, 1) := by decide +kernel
theorem dX4_tree_71 : decode cX4_tree 71 = .ok (.iconst 0, 1) := by decide +kernel
theorem dX4_tree_72 : decode cX4_tree 72 = .ok (.bastore, 1) := by decide +kernel
theorem dX4_tree_73 : decode cX4_tree 73 = .ok (.aload_n 0, 1) := by decide +kernel
theorem dX4_tree_74 : decode cX4_tree 74 = .ok (.getfield 28, 3) := by decide +kernel
theorem dX4_tree_77 : decode cX4_tree 77 = .ok (.iconst 1, 1) := by decide +kernel
theorem dX4_tree_78 : decode cX4_tree 78 = .ok (.iconst 0, 1) := by decide +kernel
theorem dX4_tree_79 : decode cX4_tree 79 = .ok (.bastore, 1) := by decide +kernel
theorem dX4_tree_80 : decode cX4_tree 80 = .ok (.aload_n 0, 1) := by decide +kernel
theorem dX4_tree_81 : decode cX4_tree 81 = .ok (.getfield 44, 3) := by decide +kernel
theorem dX4_tree_84 : decode cX4_tree 84 = .ok (.ireturn, 1) := by decide +kernel
theorem dX4_addGrant_0 : decode cX4_addGrant 0 = .ok (.iconst 1, 1) := by decide +kernel
theorem dX4_addGrant_1 : decode cX4_addGrant 1 = .ok (.iconst 5, 1) := by decide +kernel
theorem dX4_addGrant_2 : decode cX4_addGrant 2 = .ok (.aload_n 0, 1) := by decide +kernel
theorem dX4_addGrant_3 : decode cX4_addGrant 3 = .ok (.iconst 0, 1) := by decide +kernel
theorem dX4_addGrant_4 : decode cX4_addGrant 4 = .ok (.iaload, 1) := by decide +kernel
theorem dX4_addGrant_5 : decode cX4_addGrant 5 = .ok (.imul, 1) := by decide +kernel
theorem dX4_addGrant_6 : decode cX4_addGrant 6 = .ok (.iadd, 1) := by decide +kernel
theorem dX4_addGrant_7 : decode cX4_addGrant 7 = .ok (.istore 6, 2) := by decide +kernel
theorem dX4_addGrant_9 : decode cX4_addGrant 9 = .ok (.aload_n 0, 1) := by decide +kernel
theorem dX4_addGrant_10 : decode cX4_addGrant 10 = .ok (.iload 6, 2) := by decide +kernel
theorem dX4_addGrant_12 : decode cX4_addGrant 12 = .ok (.iload_n 1, 1) := by decide +kernel
theorem dX4_addGrant_13 : decode cX4_addGrant 13 = .ok (.iastore, 1) := by decide +kernel
theorem dX4_addGrant_14 : decode cX4_addGrant 14 = .ok (.aload_n 0, 1) := by decide +kernel
theorem dX4_addGrant_15 : decode cX4_addGrant 15 = .ok (.iload 6, 2) := by decide +kernel
theorem dX4_addGrant_17 : decode cX4_addGrant 17 = .ok (.iconst 1, 1) := by decide +kernel
theorem dX4_addGrant_18 : decode cX4_addGrant 18 = .ok (.iadd, 1) := by decide +kernel
theorem dX4_addGrant_19 : decode cX4_addGrant 19 = .ok (.iload_n 2, 1) := by decide +kernel
theorem dX4_addGrant_20 : decode cX4_addGrant 20 = .ok (.iastore, 1) := by decide +kernel
theorem dX4_addGrant_21 : decode cX4_addGrant 21 = .ok (.aload_n 0, 1) := by decide +kernel
theorem dX4_addGrant_22 : decode cX4_addGrant 22 = .ok (.iload 6, 2) := by decide +kernel
theorem dX4_addGrant_24 : decode cX4_addGrant 24 = .ok (.iconst 2, 1) := by decide +kernel
theorem dX4_addGrant_25 : decode cX4_addGrant 25 = .ok (.iadd, 1) := by decide +kernel
theorem dX4_addGrant_26 : decode cX4_addGrant 26 = .ok (.iload_n 3, 1) := by decide +kernel
theorem dX4_addGrant_27 : decode cX4_addGrant 27 = .ok (.iastore, 1) := by decide +kernel
theorem dX4_addGrant_28 : decode cX4_addGrant 28 = .ok (.aload_n 0, 1) := by decide +kernel
theorem dX4_addGrant_29 : decode cX4_addGrant 29 = .ok (.iload 6, 2) := by decide +kernel
theorem dX4_addGrant_31 : decode cX4_addGrant 31 = .ok (.iconst 3, 1) := by decide +kernel
theorem dX4_addGrant_32 : decode cX4_addGrant 32 = .ok (.iadd, 1) := by decide +kernel
theorem dX4_addGrant_33 : decode cX4_addGrant 33 = .ok (.iload 4, 2) := by decide +kernel
theorem dX4_addGrant_35 : decode cX4_addGrant 35 = .ok (.iastore, 1) := by decide +kernel
theorem dX4_addGrant_36 : decode cX4_addGrant 36 = .ok (.aload_n 0, 1) := by decide +kernel
theorem dX4_addGrant_37 : decode cX4_addGrant 37 = .ok (.iload 6, 2) := by decide +kernel
theorem dX4_addGrant_39 : decode cX4_addGrant 39 = .ok (.iconst 4, 1) := by decide +kernel
theorem dX4_addGrant_40 : decode cX4_addGrant 40 = .ok (.iadd, 1) := by decide +kernel
theorem dX4_addGrant_41 : decode cX4_addGrant 41 = .ok (.iload 5, 2) := by decide +kernel
theorem dX4_addGrant_43 : decode cX4_addGrant 43 = .ok (.iastore, 1) := by decide +kernel
theorem dX4_addGrant_44 : decode cX4_addGrant 44 = .ok (.aload_n 0, 1) := by decide +kernel
theorem dX4_addGrant_45 : decode cX4_addGrant 45 = .ok (.iconst 0, 1) := by decide +kernel
theorem dX4_addGrant_46 : decode cX4_addGrant 46 = .ok (.dup2, 1) := by decide +kernel
theorem dX4_addGrant_47 : decode cX4_addGrant 47 = .ok (.iaload, 1) := by decide +kernel
theorem dX4_addGrant_48 : decode cX4_addGrant 48 = .ok (.iconst 1, 1) := by decide +kernel
theorem dX4_addGrant_49 : decode cX4_addGrant 49 = .ok (.iadd, 1) := by decide +kernel
theorem dX4_addGrant_50 : decode cX4_addGrant 50 = .ok (.iastore, 1) := by decide +kernel
theorem dX4_addGrant_51 : decode cX4_addGrant 51 = .ok (.return_, 1) := by decide +kernel
theorem dX4_addRoute_0 : decode cX4_addRoute 0 = .ok (.bipush 42, 2) := by decide +kernel
theorem dX4_addRoute_2 : decode cX4_addRoute 2 = .ok (.iconst 3, 1) := by decide +kernel
theorem dX4_addRoute_3 : decode cX4_addRoute 3 = .ok (.aload_n 0, 1) := by decide +kernel
theorem dX4_addRoute_4 : decode cX4_addRoute 4 = .ok (.bipush 41, 2) := by decide +kernel
theorem dX4_addRoute_6 : decode cX4_addRoute 6 = .ok (.iaload, 1) := by decide +kernel
theorem dX4_addRoute_7 : decode cX4_addRoute 7 = .ok (.imul, 1) := by decide +kernel
theorem dX4_addRoute_8 : decode cX4_addRoute 8 = .ok (.iadd, 1) := by decide +kernel
theorem dX4_addRoute_9 : decode cX4_addRoute 9 = .ok (.istore 4, 2) := by decide +kernel
theorem dX4_addRoute_11 : decode cX4_addRoute 11 = .ok (.aload_n 0, 1) := by decide +kernel
theorem dX4_addRoute_12 : decode cX4_addRoute 12 = .ok (.iload 4, 2) := by decide +kernel
theorem dX4_addRoute_14 : decode cX4_addRoute 14 = .ok (.iload_n 1, 1) := by decide +kernel
theorem dX4_addRoute_15 : decode cX4_addRoute 15 = .ok (.iastore, 1) := by decide +kernel
theorem dX4_addRoute_16 : decode cX4_addRoute 16 = .ok (.aload_n 0, 1) := by decide +kernel
theorem dX4_addRoute_17 : decode cX4_addRoute 17 = .ok (.iload 4, 2) := by decide +kernel
theorem dX4_addRoute_19 : decode cX4_addRoute 19 = .ok (.iconst 1, 1) := by decide +kernel
theorem dX4_addRoute_20 : decode cX4_addRoute 20 = .ok (.iadd, 1) := by decide +kernel
theorem dX4_addRoute_21 : decode cX4_addRoute 21 = .ok (.iload_n 2, 1) := by decide +kernel
theorem dX4_addRoute_22 : decode cX4_addRoute 22 = .ok (.iastore, 1) := by decide +kernel
theorem dX4_addRoute_23 : decode cX4_addRoute 23 = .ok (.aload_n 0, 1) := by decide +kernel
theorem dX4_addRoute_24 : decode cX4_addRoute 24 = .ok (.iload 4, 2) := by decide +kernel
theorem dX4_addRoute_26 : decode cX4_addRoute 26 = .ok (.iconst 2, 1) := by decide +kernel
theorem dX4_addRoute_27 : decode cX4_addRoute 27 = .ok (.iadd, 1) := by decide +kernel
theorem dX4_addRoute_28 : decode cX4_addRoute 28 = .ok (.iload_n 3, 1) := by decide +kernel
theorem dX4_addRoute_29 : decode cX4_addRoute 29 = .ok (.iastore, 1) := by decide +kernel
theorem dX4_addRoute_30 : decode cX4_addRoute 30 = .ok (.aload_n 0, 1) := by decide +kernel
theorem dX4_addRoute_31 : decode cX4_addRoute 31 = .ok (.bipush 41, 2) := by decide +kernel
theorem dX4_addRoute_33 : decode cX4_addRoute 33 = .ok (.dup2, 1) := by decide +kernel
theorem dX4_addRoute_34 : decode cX4_addRoute 34 = .ok (.iaload, 1) := by decide +kernel
theorem dX4_addRoute_35 : decode cX4_addRoute 35 = .ok (.iconst 1, 1) := by decide +kernel
theorem dX4_addRoute_36 : decode cX4_addRoute 36 = .ok (.iadd, 1) := by decide +kernel
theorem dX4_addRoute_37 : decode cX4_addRoute 37 = .ok (.iastore, 1) := by decide +kernel
theorem dX4_addRoute_38 : decode cX4_addRoute 38 = .ok (.return_, 1) := by decide +kernel
theorem dX4_takeGrant_0 : decode cX4_takeGrant 0 = .ok (.aload_n 0, 1) := by decide +kernel
theorem dX4_takeGrant_1 : decode cX4_takeGrant 1 = .ok (.iconst 0, 1) := by decide +kernel
theorem dX4_takeGrant_2 : decode cX4_takeGrant 2 = .ok (.dup2, 1) := by decide +kernel
theorem dX4_takeGrant_3 : decode cX4_takeGrant 3 = .ok (.iaload, 1) := by decide +kernel
theorem dX4_takeGrant_4 : decode cX4_takeGrant 4 = .ok (.iconst 1, 1) := by decide +kernel
theorem dX4_takeGrant_5 : decode cX4_takeGrant 5 = .ok (.isub, 1) := by decide +kernel
theorem dX4_takeGrant_6 : decode cX4_takeGrant 6 = .ok (.iastore, 1) := by decide +kernel
theorem dX4_takeGrant_7 : decode cX4_takeGrant 7 = .ok (.iconst 1, 1) := by decide +kernel
theorem dX4_takeGrant_8 : decode cX4_takeGrant 8 = .ok (.iconst 5, 1) := by decide +kernel
theorem dX4_takeGrant_9 : decode cX4_takeGrant 9 = .ok (.iload_n 1, 1) := by decide +kernel
theorem dX4_takeGrant_10 : decode cX4_takeGrant 10 = .ok (.imul, 1) := by decide +kernel
theorem dX4_takeGrant_11 : decode cX4_takeGrant 11 = .ok (.iadd, 1) := by decide +kernel
theorem dX4_takeGrant_12 : decode cX4_takeGrant 12 = .ok (.istore_n 2, 1) := by decide +kernel
theorem dX4_takeGrant_13 : decode cX4_takeGrant 13 = .ok (.iload_n 2, 1) := by decide +kernel
theorem dX4_takeGrant_14 : decode cX4_takeGrant 14 = .ok (.iconst 1, 1) := by decide +kernel
theorem dX4_takeGrant_15 : decode cX4_takeGrant 15 = .ok (.iconst 5, 1) := by decide +kernel
theorem dX4_takeGrant_16 : decode cX4_takeGrant 16 = .ok (.aload_n 0, 1) := by decide +kernel
theorem dX4_takeGrant_17 : decode cX4_takeGrant 17 = .ok (.iconst 0, 1) := by decide +kernel
theorem dX4_takeGrant_18 : decode cX4_takeGrant 18 = .ok (.iaload, 1) := by decide +kernel
theorem dX4_takeGrant_19 : decode cX4_takeGrant 19 = .ok (.imul, 1) := by decide +kernel
theorem dX4_takeGrant_20 : decode cX4_takeGrant 20 = .ok (.iadd, 1) := by decide +kernel
theorem dX4_takeGrant_21 : decode cX4_takeGrant 21 = .ok (.if_icmp .ge 17, 3) := by decide +kernel
theorem dX4_takeGrant_24 : decode cX4_takeGrant 24 = .ok (.aload_n 0, 1) := by decide +kernel
theorem dX4_takeGrant_25 : decode cX4_takeGrant 25 = .ok (.iload_n 2, 1) := by decide +kernel
theorem dX4_takeGrant_26 : decode cX4_takeGrant 26 = .ok (.aload_n 0, 1) := by decide +kernel
theorem dX4_takeGrant_27 : decode cX4_takeGrant 27 = .ok (.iload_n 2, 1) := by decide +kernel
theorem dX4_takeGrant_28 : decode cX4_takeGrant 28 = .ok (.iconst 5, 1) := by decide +kernel
theorem dX4_takeGrant_29 : decode cX4_takeGrant 29 = .ok (.iadd, 1) := by decide +kernel
theorem dX4_takeGrant_30 : decode cX4_takeGrant 30 = .ok (.iaload, 1) := by decide +kernel
theorem dX4_takeGrant_31 : decode cX4_takeGrant 31 = .ok (.iastore, 1) := by decide +kernel
theorem dX4_takeGrant_32 : decode cX4_takeGrant 32 = .ok (.iinc 2 1, 3) := by decide +kernel
theorem dX4_takeGrant_35 : decode cX4_takeGrant 35 = .ok (.goto (-22), 3) := by decide +kernel
theorem dX4_takeGrant_38 : decode cX4_takeGrant 38 = .ok (.return_, 1) := by decide +kernel
theorem dX4_takeRoute_0 : decode cX4_takeRoute 0 = .ok (.aload_n 0, 1) := by decide +kernel
theorem dX4_takeRoute_1 : decode cX4_takeRoute 1 = .ok (.bipush 41, 2) := by decide +kernel
theorem dX4_takeRoute_3 : decode cX4_takeRoute 3 = .ok (.dup2, 1) := by decide +kernel
theorem dX4_takeRoute_4 : decode cX4_takeRoute 4 = .ok (.iaload, 1) := by decide +kernel
theorem dX4_takeRoute_5 : decode cX4_takeRoute 5 = .ok (.iconst 1, 1) := by decide +kernel
theorem dX4_takeRoute_6 : decode cX4_takeRoute 6 = .ok (.isub, 1) := by decide +kernel
theorem dX4_takeRoute_7 : decode cX4_takeRoute 7 = .ok (.iastore, 1) := by decide +kernel
theorem dX4_takeRoute_8 : decode cX4_takeRoute 8 = .ok (.bipush 42, 2) := by decide +kernel
theorem dX4_takeRoute_10 : decode cX4_takeRoute 10 = .ok (.iconst 3, 1) := by decide +kernel
theorem dX4_takeRoute_11 : decode cX4_takeRoute 11 = .ok (.iload_n 1, 1) := by decide +kernel
theorem dX4_takeRoute_12 : decode cX4_takeRoute 12 = .ok (.imul, 1) := by decide +kernel
theorem dX4_takeRoute_13 : decode cX4_takeRoute 13 = .ok (.iadd, 1) := by decide +kernel
theorem dX4_takeRoute_14 : decode cX4_takeRoute 14 = .ok (.istore_n 2, 1) := by decide +kernel
theorem dX4_takeRoute_15 : decode cX4_takeRoute 15 = .ok (.iload_n 2, 1) := by decide +kernel
theorem dX4_takeRoute_16 : decode cX4_takeRoute 16 = .ok (.bipush 42, 2) := by decide +kernel
theorem dX4_takeRoute_18 : decode cX4_takeRoute 18 = .ok (.iconst 3, 1) := by decide +kernel
theorem dX4_takeRoute_19 : decode cX4_takeRoute 19 = .ok (.aload_n 0, 1) := by decide +kernel
theorem dX4_takeRoute_20 : decode cX4_takeRoute 20 = .ok (.bipush 41, 2) := by decide +kernel
theorem dX4_takeRoute_22 : decode cX4_takeRoute 22 = .ok (.iaload, 1) := by decide +kernel
theorem dX4_takeRoute_23 : decode cX4_takeRoute 23 = .ok (.imul, 1) := by decide +kernel
theorem dX4_takeRoute_24 : decode cX4_takeRoute 24 = .ok (.iadd, 1) := by decide +kernel
theorem dX4_takeRoute_25 : decode cX4_takeRoute 25 = .ok (.if_icmp .ge 17, 3) := by decide +kernel
theorem dX4_takeRoute_28 : decode cX4_takeRoute 28 = .ok (.aload_n 0, 1) := by decide +kernel
theorem dX4_takeRoute_29 : decode cX4_takeRoute 29 = .ok (.iload_n 2, 1) := by decide +kernel
theorem dX4_takeRoute_30 : decode cX4_takeRoute 30 = .ok (.aload_n 0, 1) := by decide +kernel
theorem dX4_takeRoute_31 : decode cX4_takeRoute 31 = .ok (.iload_n 2, 1) := by decide +kernel
theorem dX4_takeRoute_32 : decode cX4_takeRoute 32 = .ok (.iconst 3, 1) := by decide +kernel
theorem dX4_takeRoute_33 : decode cX4_takeRoute 33 = .ok (.iadd, 1) := by decide +kernel
theorem dX4_takeRoute_34 : decode cX4_takeRoute 34 = .ok (.iaload, 1) := by decide +kernel
theorem dX4_takeRoute_35 : decode cX4_takeRoute 35 = .ok (.iastore, 1) := by decide +kernel
theorem dX4_takeRoute_36 : decode cX4_takeRoute 36 = .ok (.iinc 2 1, 3) := by decide +kernel
theorem dX4_takeRoute_39 : decode cX4_takeRoute 39 = .ok (.goto (-24), 3) := by decide +kernel
theorem dX4_takeRoute_42 : decode cX4_takeRoute 42 = .ok (.return_, 1) := by decide +kernel
theorem dX4_stands_0 : decode cX4_stands 0 = .ok (.iconst 1, 1) := by decide +kernel
theorem dX4_stands_1 : decode cX4_stands 1 = .ok (.istore_n 3, 1) := by decide +kernel
theorem dX4_stands_2 : decode cX4_stands 2 = .ok (.iload_n 2, 1) := by decide +kernel
theorem dX4_stands_3 : decode cX4_stands 3 = .ok (.istore 4, 2) := by decide +kernel
theorem dX4_stands_5 : decode cX4_stands 5 = .ok (.iload 4, 2) := by decide +kernel
theorem dX4_stands_7 : decode cX4_stands 7 = .ok (.ifCond .le 114, 3) := by decide +kernel
theorem dX4_stands_10 : decode cX4_stands 10 = .ok (.iload_n 3, 1) := by decide +kernel
theorem dX4_stands_11 : decode cX4_stands 11 = .ok (.ifCond .eq 110, 3) := by decide +kernel
theorem dX4_stands_14 : decode cX4_stands 14 = .ok (.iconst 4, 1) := by decide +kernel
theorem dX4_stands_15 : decode cX4_stands 15 = .ok (.iload 4, 2) := by decide +kernel
theorem dX4_stands_17 : decode cX4_stands 17 = .ok (.imul, 1) := by decide +kernel
theorem dX4_stands_18 : decode cX4_stands 18 = .ok (.istore 5, 2) := by decide +kernel
theorem dX4_stands_20 : decode cX4_stands 20 = .ok (.iconst 4, 1) := by decide +kernel
theorem dX4_stands_21 : decode cX4_stands 21 = .ok (.aload_n 0, 1) := by decide +kernel
theorem dX4_stands_22 : decode cX4_stands 22 = .ok (.getfield 13, 3) := by decide +kernel
theorem dX4_stands_25 : decode cX4_stands 25 = .ok (.iload 5, 2) := by decide +kernel
theorem dX4_stands_27 : decode cX4_stands 27 = .ok (.iaload, 1) := by decide +kernel
theorem dX4_stands_28 : decode cX4_stands 28 = .ok (.imul, 1) := by decide +kernel
theorem dX4_stands_29 : decode cX4_stands 29 = .ok (.istore 6, 2) := by decide +kernel
theorem dX4_stands_31 : decode cX4_stands 31 = .ok (.aload_n 1, 1) := by decide +kernel
theorem dX4_stands_32 : decode cX4_stands 32 = .ok (.bipush 63, 2) := by decide +kernel
theorem dX4_stands_34 : decode cX4_stands 34 = .ok (.iaload, 1) := by decide +kernel
theorem dX4_stands_35 : decode cX4_stands 35 = .ok (.iload 4, 2) := by decide +kernel
theorem dX4_stands_37 : decode cX4_stands 37 = .ok (.invokestatic 120, 3) := by decide +kernel
theorem dX4_stands_40 : decode cX4_stands 40 = .ok (.ifCond .ne 65, 3) := by decide +kernel
theorem dX4_stands_43 : decode cX4_stands 43 = .ok (.aload_n 1, 1) := by decide +kernel
theorem dX4_stands_44 : decode cX4_stands 44 = .ok (.bipush 65, 2) := by decide +kernel
theorem dX4_stands_46 : decode cX4_stands 46 = .ok (.iaload, 1) := by decide +kernel
theorem dX4_stands_47 : decode cX4_stands 47 = .ok (.aload_n 0, 1) := by decide +kernel
theorem dX4_stands_48 : decode cX4_stands 48 = .ok (.getfield 13, 3) := by decide +kernel
theorem dX4_stands_51 : decode cX4_stands 51 = .ok (.iload 5, 2) := by decide +kernel
theorem dX4_stands_53 : decode cX4_stands 53 = .ok (.iconst 3, 1) := by decide +kernel
theorem dX4_stands_54 : decode cX4_stands 54 = .ok (.iadd, 1) := by decide +kernel
theorem dX4_stands_55 : decode cX4_stands 55 = .ok (.iaload, 1) := by decide +kernel
theorem dX4_stands_56 : decode cX4_stands 56 = .ok (.if_icmp .gt 49, 3) := by decide +kernel
theorem dX4_stands_59 : decode cX4_stands 59 = .ok (.aload_n 0, 1) := by decide +kernel
theorem dX4_stands_60 : decode cX4_stands 60 = .ok (.getfield 13, 3) := by decide +kernel
theorem dX4_stands_63 : decode cX4_stands 63 = .ok (.iload 5, 2) := by decide +kernel
theorem dX4_stands_65 : decode cX4_stands 65 = .ok (.iconst 1, 1) := by decide +kernel
theorem dX4_stands_66 : decode cX4_stands 66 = .ok (.iadd, 1) := by decide +kernel
theorem dX4_stands_67 : decode cX4_stands 67 = .ok (.iaload, 1) := by decide +kernel
theorem dX4_stands_68 : decode cX4_stands 68 = .ok (.aload_n 0, 1) := by decide +kernel
theorem dX4_stands_69 : decode cX4_stands 69 = .ok (.getfield 13, 3) := by decide +kernel
theorem dX4_stands_72 : decode cX4_stands 72 = .ok (.iload 5, 2) := by decide +kernel
theorem dX4_stands_74 : decode cX4_stands 74 = .ok (.iconst 2, 1) := by decide +kernel
theorem dX4_stands_75 : decode cX4_stands 75 = .ok (.iadd, 1) := by decide +kernel
theorem dX4_stands_76 : decode cX4_stands 76 = .ok (.iaload, 1) := by decide +kernel
theorem dX4_stands_77 : decode cX4_stands 77 = .ok (.aload_n 0, 1) := by decide +kernel
theorem dX4_stands_78 : decode cX4_stands 78 = .ok (.getfield 13, 3) := by decide +kernel
theorem dX4_stands_81 : decode cX4_stands 81 = .ok (.iload 6, 2) := by decide +kernel
theorem dX4_stands_83 : decode cX4_stands 83 = .ok (.iconst 1, 1) := by decide +kernel
theorem dX4_stands_84 : decode cX4_stands 84 = .ok (.iadd, 1) := by decide +kernel
theorem dX4_stands_85 : decode cX4_stands 85 = .ok (.iaload, 1) := by decide +kernel
theorem dX4_stands_86 : decode cX4_stands 86 = .ok (.aload_n 0, 1) := by decide +kernel
theorem dX4_stands_87 : decode cX4_stands 87 = .ok (.getfield 13, 3) := by decide +kernel
theorem dX4_stands_90 : decode cX4_stands 90 = .ok (.iload 6, 2) := by decide +kernel
theorem dX4_stands_92 : decode cX4_stands 92 = .ok (.iconst 2, 1) := by decide +kernel
theorem dX4_stands_93 : decode cX4_stands 93 = .ok (.iadd, 1) := by decide +kernel
theorem dX4_stands_94 : decode cX4_stands 94 = .ok (.iaload, 1) := by decide +kernel
theorem dX4_stands_95 : decode cX4_stands 95 = .ok (.invokestatic 123, 3) := by decide +kernel
theorem dX4_stands_98 : decode cX4_stands 98 = .ok (.ifCond .eq 7, 3) := by decide +kernel
theorem dX4_stands_101 : decode cX4_stands 101 = .ok (.iconst 1, 1) := by decide +kernel
theorem dX4_stands_102 : decode cX4_stands 102 = .ok (.goto 4, 3) := by decide +kernel
theorem dX4_stands_105 : decode cX4_stands 105 = .ok (.iconst 0, 1) := by decide +kernel
theorem dX4_stands_106 : decode cX4_stands 106 = .ok (.istore_n 3, 1) := by decide +kernel
theorem dX4_stands_107 : decode cX4_stands 107 = .ok (.aload_n 0, 1) := by decide +kernel
theorem dX4_stands_108 : decode cX4_stands 108 = .ok (.getfield 13, 3) := by decide +kernel
theorem dX4_stands_111 : decode cX4_stands 111 = .ok (.iconst 4, 1) := by decide +kernel
theorem dX4_stands_112 : decode cX4_stands 112 = .ok (.iload 4, 2) := by decide +kernel
theorem dX4_stands_114 : decode cX4_stands 114 = .ok (.imul, 1) := by decide +kernel
theorem dX4_stands_115 : decode cX4_stands 115 = .ok (.iaload, 1) := by decide +kernel
theorem dX4_stands_116 : decode cX4_stands 116 = .ok (.istore 4, 2) := by decide +kernel
theorem dX4_stands_118 : decode cX4_stands 118 = .ok (.goto (-113), 3) := by decide +kernel
theorem dX4_stands_121 : decode cX4_stands 121 = .ok (.iload_n 3, 1) := by decide +kernel
theorem dX4_stands_122 : decode cX4_stands 122 = .ok (.ireturn, 1) := by decide +kernel
theorem dX4_counts_0 : decode cX4_counts 0 = .ok (.iconst 1, 1) := by decide +kernel
theorem dX4_counts_1 : decode cX4_counts 1 = .ok (.iconst 5, 1) := by decide +kernel
theorem dX4_counts_2 : decode cX4_counts 2 = .ok (.iload_n 2, 1) := by decide +kernel
theorem dX4_counts_3 : decode cX4_counts 3 = .ok (.imul, 1) := by decide +kernel
theorem dX4_counts_4 : decode cX4_counts 4 = .ok (.iadd, 1) := by decide +kernel
theorem dX4_counts_5 : decode cX4_counts 5 = .ok (.istore_n 3, 1) := by decide +kernel
theorem dX4_counts_6 : decode cX4_counts 6 = .ok (.aload_n 1, 1) := by decide +kernel
theorem dX4_counts_7 : decode cX4_counts 7 = .ok (.iload_n 3, 1) := by decide +kernel
theorem dX4_counts_8 : decode cX4_counts 8 = .ok (.iaload, 1) := by decide +kernel
theorem dX4_counts_9 : decode cX4_counts 9 = .ok (.istore 4, 2) := by decide +kernel
theorem dX4_counts_11 : decode cX4_counts 11 = .ok (.iload 4, 2) := by decide +kernel
theorem dX4_counts_13 : decode cX4_counts 13 = .ok (.bipush 9, 2) := by decide +kernel
theorem dX4_counts_15 : decode cX4_counts 15 = .ok (.if_icmp .ne 5, 3) := by decide +kernel
theorem dX4_counts_18 : decode cX4_counts 18 = .ok (.iconst 1, 1) := by decide +kernel
theorem dX4_counts_19 : decode cX4_counts 19 = .ok (.ireturn, 1) := by decide +kernel
theorem dX4_counts_20 : decode cX4_counts 20 = .ok (.aload_n 0, 1) := by decide +kernel
theorem dX4_counts_21 : decode cX4_counts 21 = .ok (.aload_n 1, 1) := by decide +kernel
theorem dX4_counts_22 : decode cX4_counts 22 = .ok (.iload 4, 2) := by decide +kernel
theorem dX4_counts_24 : decode cX4_counts 24 = .ok (.invokevirtual 127, 3) := by decide +kernel
theorem dX4_counts_27 : decode cX4_counts 27 = .ok (.ifCond .eq 60, 3) := by decide +kernel
theorem dX4_counts_30 : decode cX4_counts 30 = .ok (.aload_n 1, 1) := by decide +kernel
theorem dX4_counts_31 : decode cX4_counts 31 = .ok (.iload_n 3, 1) := by decide +kernel
theorem dX4_counts_32 : decode cX4_counts 32 = .ok (.iconst 2, 1) := by decide +kernel
theorem dX4_counts_33 : decode cX4_counts 33 = .ok (.iadd, 1) := by decide +kernel
theorem dX4_counts_34 : decode cX4_counts 34 = .ok (.iaload, 1) := by decide +kernel
theorem dX4_counts_35 : decode cX4_counts 35 = .ok (.aload_n 1, 1) := by decide +kernel
theorem dX4_counts_36 : decode cX4_counts 36 = .ok (.iload_n 3, 1) := by decide +kernel
theorem dX4_counts_37 : decode cX4_counts 37 = .ok (.iconst 3, 1) := by decide +kernel
theorem dX4_counts_38 : decode cX4_counts 38 = .ok (.iadd, 1) := by decide +kernel
theorem dX4_counts_39 : decode cX4_counts 39 = .ok (.iaload, 1) := by decide +kernel
theorem dX4_counts_40 : decode cX4_counts 40 = .ok (.aload_n 0, 1) := by decide +kernel
theorem dX4_counts_41 : decode cX4_counts 41 = .ok (.getfield 13, 3) := by decide +kernel
theorem dX4_counts_44 : decode cX4_counts 44 = .ok (.iconst 4, 1) := by decide +kernel
theorem dX4_counts_45 : decode cX4_counts 45 = .ok (.iload 4, 2) := by decide +kernel
theorem dX4_counts_47 : decode cX4_counts 47 = .ok (.imul, 1) := by decide +kernel
theorem dX4_counts_48 : decode cX4_counts 48 = .ok (.iconst 1, 1) := by decide +kernel
theorem dX4_counts_49 : decode cX4_counts 49 = .ok (.iadd, 1) := by decide +kernel
theorem dX4_counts_50 : decode cX4_counts 50 = .ok (.iaload, 1) := by decide +kernel
theorem dX4_counts_51 : decode cX4_counts 51 = .ok (.aload_n 0, 1) := by decide +kernel
theorem dX4_counts_52 : decode cX4_counts 52 = .ok (.getfield 13, 3) := by decide +kernel
theorem dX4_counts_55 : decode cX4_counts 55 = .ok (.iconst 4, 1) := by decide +kernel
theorem dX4_counts_56 : decode cX4_counts 56 = .ok (.iload 4, 2) := by decide +kernel
theorem dX4_counts_58 : decode cX4_counts 58 = .ok (.imul, 1) := by decide +kernel
theorem dX4_counts_59 : decode cX4_counts 59 = .ok (.iconst 2, 1) := by decide +kernel
theorem dX4_counts_60 : decode cX4_counts 60 = .ok (.iadd, 1) := by decide +kernel
theorem dX4_counts_61 : decode cX4_counts 61 = .ok (.iaload, 1) := by decide +kernel
theorem dX4_counts_62 : decode cX4_counts 62 = .ok (.invokestatic 123, 3) := by decide +kernel
theorem dX4_counts_65 : decode cX4_counts 65 = .ok (.ifCond .eq 22, 3) := by decide +kernel
theorem dX4_counts_68 : decode cX4_counts 68 = .ok (.aload_n 1, 1) := by decide +kernel
theorem dX4_counts_69 : decode cX4_counts 69 = .ok (.bipush 64, 2) := by decide +kernel
theorem dX4_counts_71 : decode cX4_counts 71 = .ok (.iaload, 1) := by decide +kernel
theorem dX4_counts_72 : decode cX4_counts 72 = .ok (.aload_n 1, 1) := by decide +kernel
theorem dX4_counts_73 : decode cX4_counts 73 = .ok (.iload_n 3, 1) := by decide +kernel
theorem dX4_counts_74 : decode cX4_counts 74 = .ok (.iconst 1, 1) := by decide +kernel
theorem dX4_counts_75 : decode cX4_counts 75 = .ok (.iadd, 1) := by decide +kernel
theorem dX4_counts_76 : decode cX4_counts 76 = .ok (.iaload, 1) := by decide +kernel
theorem dX4_counts_77 : decode cX4_counts 77 = .ok (.invokestatic 120, 3) := by decide +kernel
theorem dX4_counts_80 : decode cX4_counts 80 = .ok (.ifCond .ne 7, 3) := by decide +kernel
theorem dX4_counts_83 : decode cX4_counts 83 = .ok (.iconst 1, 1) := by decide +kernel
theorem dX4_counts_84 : decode cX4_counts 84 = .ok (.goto 4, 3) := by decide +kernel
theorem dX4_counts_87 : decode cX4_counts 87 = .ok (.iconst 0, 1) := by decide +kernel
theorem dX4_counts_88 : decode cX4_counts 88 = .ok (.ireturn, 1) := by decide +kernel
theorem dX4_stateBy_0 : decode cX4_stateBy 0 = .ok (.iconst 1, 1) := by decide +kernel
theorem dX4_stateBy_1 : decode cX4_stateBy 1 = .ok (.istore 6, 2) := by decide +kernel
theorem dX4_stateBy_3 : decode cX4_stateBy 3 = .ok (.iconst 0, 1) := by decide +kernel
theorem dX4_stateBy_4 : decode cX4_stateBy 4 = .ok (.istore 7, 2) := by decide +kernel
theorem dX4_stateBy_6 : decode cX4_stateBy 6 = .ok (.iload 7, 2) := by decide +kernel
theorem dX4_stateBy_8 : decode cX4_stateBy 8 = .ok (.aload_n 1, 1) := by decide +kernel
theorem dX4_stateBy_9 : decode cX4_stateBy 9 = .ok (.iconst 0, 1) := by decide +kernel
theorem dX4_stateBy_10 : decode cX4_stateBy 10 = .ok (.iaload, 1) := by decide +kernel
theorem dX4_stateBy_11 : decode cX4_stateBy 11 = .ok (.if_icmp .ge 91, 3) := by decide +kernel
theorem dX4_stateBy_14 : decode cX4_stateBy 14 = .ok (.iconst 1, 1) := by decide +kernel
theorem dX4_stateBy_15 : decode cX4_stateBy 15 = .ok (.iconst 5, 1) := by decide +kernel
theorem dX4_stateBy_16 : decode cX4_stateBy 16 = .ok (.iload 7, 2) := by decide +kernel
theorem dX4_stateBy_18 : decode cX4_stateBy 18 = .ok (.imul, 1) := by decide +kernel
theorem dX4_stateBy_19 : decode cX4_stateBy 19 = .ok (.iadd, 1) := by decide +kernel
theorem dX4_stateBy_20 : decode cX4_stateBy 20 = .ok (.istore 8, 2) := by decide +kernel
theorem dX4_stateBy_22 : decode cX4_stateBy 22 = .ok (.iload 5, 2) := by decide +kernel
theorem dX4_stateBy_24 : decode cX4_stateBy 24 = .ok (.iload 7, 2) := by decide +kernel
theorem dX4_stateBy_26 : decode cX4_stateBy 26 = .ok (.invokestatic 120, 3) := by decide +kernel
theorem dX4_stateBy_29 : decode cX4_stateBy 29 = .ok (.ifCond .eq 67, 3) := by decide +kernel
theorem dX4_stateBy_32 : decode cX4_stateBy 32 = .ok (.iload 6, 2) := by decide +kernel
theorem dX4_stateBy_34 : decode cX4_stateBy 34 = .ok (.iconst 2, 1) := by decide +kernel
theorem dX4_stateBy_35 : decode cX4_stateBy 35 = .ok (.if_icmp .ge 61, 3) := by decide +kernel
theorem dX4_stateBy_38 : decode cX4_stateBy 38 = .ok (.aload_n 0, 1) := by decide +kernel
theorem dX4_stateBy_39 : decode cX4_stateBy 39 = .ok (.aload_n 1, 1) := by decide +kernel
theorem dX4_stateBy_40 : decode cX4_stateBy 40 = .ok (.iload 7, 2) := by decide +kernel
theorem dX4_stateBy_42 : decode cX4_stateBy 42 = .ok (.invokevirtual 131, 3) := by decide +kernel
theorem dX4_stateBy_45 : decode cX4_stateBy 45 = .ok (.ifCond .eq 51, 3) := by decide +kernel
theorem dX4_stateBy_48 : decode cX4_stateBy 48 = .ok (.iload_n 2, 1) := by decide +kernel
theorem dX4_stateBy_49 : decode cX4_stateBy 49 = .ok (.iload_n 3, 1) := by decide +kernel
theorem dX4_stateBy_50 : decode cX4_stateBy 50 = .ok (.aload_n 1, 1) := by decide +kernel
theorem dX4_stateBy_51 : decode cX4_stateBy 51 = .ok (.iload 8, 2) := by decide +kernel
theorem dX4_stateBy_53 : decode cX4_stateBy 53 = .ok (.iconst 2, 1) := by decide +kernel
theorem dX4_stateBy_54 : decode cX4_stateBy 54 = .ok (.iadd, 1) := by decide +kernel
theorem dX4_stateBy_55 : decode cX4_stateBy 55 = .ok (.iaload, 1) := by decide +kernel
theorem dX4_stateBy_56 : decode cX4_stateBy 56 = .ok (.aload_n 1, 1) := by decide +kernel
theorem dX4_stateBy_57 : decode cX4_stateBy 57 = .ok (.iload 8, 2) := by decide +kernel
theorem dX4_stateBy_59 : decode cX4_stateBy 59 = .ok (.iconst 3, 1) := by decide +kernel
theorem dX4_stateBy_60 : decode cX4_stateBy 60 = .ok (.iadd, 1) := by decide +kernel
theorem dX4_stateBy_61 : decode cX4_stateBy 61 = .ok (.iaload, 1) := by decide +kernel
theorem dX4_stateBy_62 : decode cX4_stateBy 62 = .ok (.invokestatic 123, 3) := by decide +kernel
theorem dX4_stateBy_65 : decode cX4_stateBy 65 = .ok (.ifCond .eq 31, 3) := by decide +kernel
theorem dX4_stateBy_68 : decode cX4_stateBy 68 = .ok (.aload_n 1, 1) := by decide +kernel
theorem dX4_stateBy_69 : decode cX4_stateBy 69 = .ok (.iload 8, 2) := by decide +kernel
theorem dX4_stateBy_71 : decode cX4_stateBy 71 = .ok (.iconst 1, 1) := by decide +kernel
theorem dX4_stateBy_72 : decode cX4_stateBy 72 = .ok (.iadd, 1) := by decide +kernel
theorem dX4_stateBy_73 : decode cX4_stateBy 73 = .ok (.iaload, 1) := by decide +kernel
theorem dX4_stateBy_74 : decode cX4_stateBy 74 = .ok (.iload 4, 2) := by decide +kernel
theorem dX4_stateBy_76 : decode cX4_stateBy 76 = .ok (.if_icmp .ne 17, 3) := by decide +kernel
theorem dX4_stateBy_79 : decode cX4_stateBy 79 = .ok (.aload_n 1, 1) := by decide +kernel
theorem dX4_stateBy_80 : decode cX4_stateBy 80 = .ok (.iload 8, 2) := by decide +kernel
theorem dX4_stateBy_82 : decode cX4_stateBy 82 = .ok (.iconst 4, 1) := by decide +kernel
theorem dX4_stateBy_83 : decode cX4_stateBy 83 = .ok (.iadd, 1) := by decide +kernel
theorem dX4_stateBy_84 : decode cX4_stateBy 84 = .ok (.iaload, 1) := by decide +kernel
theorem dX4_stateBy_85 : decode cX4_stateBy 85 = .ok (.iload_n 3, 1) := by decide +kernel
theorem dX4_stateBy_86 : decode cX4_stateBy 86 = .ok (.if_icmp .lt 7, 3) := by decide +kernel
theorem dX4_stateBy_89 : decode cX4_stateBy 89 = .ok (.iconst 2, 1) := by decide +kernel
theorem dX4_stateBy_90 : decode cX4_stateBy 90 = .ok (.goto 4, 3) := by decide +kernel
theorem dX4_stateBy_93 : decode cX4_stateBy 93 = .ok (.iconst 0, 1) := by decide +kernel
theorem dX4_stateBy_94 : decode cX4_stateBy 94 = .ok (.istore 6, 2) := by decide +kernel
theorem dX4_stateBy_96 : decode cX4_stateBy 96 = .ok (.iinc 7 1, 3) := by decide +kernel
theorem dX4_stateBy_99 : decode cX4_stateBy 99 = .ok (.goto (-93), 3) := by decide +kernel
theorem dX4_stateBy_102 : decode cX4_stateBy 102 = .ok (.iload 6, 2) := by decide +kernel
theorem dX4_stateBy_104 : decode cX4_stateBy 104 = .ok (.ireturn, 1) := by decide +kernel
theorem dX4_stateOf_0 : decode cX4_stateOf 0 = .ok (.aload_n 0, 1) := by decide +kernel
theorem dX4_stateOf_1 : decode cX4_stateOf 1 = .ok (.aload_n 1, 1) := by decide +kernel
theorem dX4_stateOf_2 : decode cX4_stateOf 2 = .ok (.iload_n 2, 1) := by decide +kernel
theorem dX4_stateOf_3 : decode cX4_stateOf 3 = .ok (.iload_n 3, 1) := by decide +kernel
theorem dX4_stateOf_4 : decode cX4_stateOf 4 = .ok (.iload 4, 2) := by decide +kernel
theorem dX4_stateOf_6 : decode cX4_stateOf 6 = .ok (.sipush 255, 3) := by decide +kernel
theorem dX4_stateOf_9 : decode cX4_stateOf 9 = .ok (.invokevirtual 134, 3) := by decide +kernel
theorem dX4_stateOf_12 : decode cX4_stateOf 12 = .ok (.ireturn, 1) := by decide +kernel
theorem dX4_routeState_0 : decode cX4_routeState 0 = .ok (.bipush 42, 2) := by decide +kernel
theorem dX4_routeState_2 : decode cX4_routeState 2 = .ok (.iconst 3, 1) := by decide +kernel
theorem dX4_routeState_3 : decode cX4_routeState 3 = .ok (.iload_n 2, 1) := by decide +kernel
theorem dX4_routeState_4 : decode cX4_routeState 4 = .ok (.imul, 1) := by decide +kernel
theorem dX4_routeState_5 : decode cX4_routeState 5 = .ok (.iadd, 1) := by decide +kernel
theorem dX4_routeState_6 : decode cX4_routeState 6 = .ok (.istore_n 3, 1) := by decide +kernel
theorem dX4_routeState_7 : decode cX4_routeState 7 = .ok (.aload_n 0, 1) := by decide +kernel
theorem dX4_routeState_8 : decode cX4_routeState 8 = .ok (.aload_n 1, 1) := by decide +kernel
theorem dX4_routeState_9 : decode cX4_routeState 9 = .ok (.aload_n 1, 1) := by decide +kernel
theorem dX4_routeState_10 : decode cX4_routeState 10 = .ok (.iload_n 3, 1) := by decide +kernel
theorem dX4_routeState_11 : decode cX4_routeState 11 = .ok (.iaload, 1) := by decide +kernel
theorem dX4_routeState_12 : decode cX4_routeState 12 = .ok (.aload_n 1, 1) := by decide +kernel
theorem dX4_routeState_13 : decode cX4_routeState 13 = .ok (.iload_n 3, 1) := by decide +kernel
theorem dX4_routeState_14 : decode cX4_routeState 14 = .ok (.iconst 1, 1) := by decide +kernel
theorem dX4_routeState_15 : decode cX4_routeState 15 = .ok (.iadd, 1) := by decide +kernel
theorem dX4_routeState_16 : decode cX4_routeState 16 = .ok (.iaload, 1) := by decide +kernel
theorem dX4_routeState_17 : decode cX4_routeState 17 = .ok (.aload_n 1, 1) := by decide +kernel
theorem dX4_routeState_18 : decode cX4_routeState 18 = .ok (.iload_n 3, 1) := by decide +kernel
theorem dX4_routeState_19 : decode cX4_routeState 19 = .ok (.iconst 2, 1) := by decide +kernel
theorem dX4_routeState_20 : decode cX4_routeState 20 = .ok (.iadd, 1) := by decide +kernel
theorem dX4_routeState_21 : decode cX4_routeState 21 = .ok (.iaload, 1) := by decide +kernel
theorem dX4_routeState_22 : decode cX4_routeState 22 = .ok (.invokevirtual 138, 3) := by decide +kernel
theorem dX4_routeState_25 : decode cX4_routeState 25 = .ok (.ireturn, 1) := by decide +kernel
theorem dX4_those_0 : decode cX4_those 0 = .ok (.iconst 0, 1) := by decide +kernel
theorem dX4_those_1 : decode cX4_those 1 = .ok (.istore_n 3, 1) := by decide +kernel
theorem dX4_those_2 : decode cX4_those 2 = .ok (.iconst 0, 1) := by decide +kernel
theorem dX4_those_3 : decode cX4_those 3 = .ok (.istore 4, 2) := by decide +kernel
theorem dX4_those_5 : decode cX4_those 5 = .ok (.iload 4, 2) := by decide +kernel
theorem dX4_those_7 : decode cX4_those 7 = .ok (.aload_n 1, 1) := by decide +kernel
theorem dX4_those_8 : decode cX4_those 8 = .ok (.bipush 41, 2) := by decide +kernel
theorem dX4_those_10 : decode cX4_those 10 = .ok (.iaload, 1) := by decide +kernel
theorem dX4_those_11 : decode cX4_those 11 = .ok (.if_icmp .ge 31, 3) := by decide +kernel
theorem dX4_those_14 : decode cX4_those 14 = .ok (.iload_n 3, 1) := by decide +kernel
theorem dX4_those_15 : decode cX4_those 15 = .ok (.aload_n 0, 1) := by decide +kernel
theorem dX4_those_16 : decode cX4_those 16 = .ok (.aload_n 1, 1) := by decide +kernel
theorem dX4_those_17 : decode cX4_those 17 = .ok (.iload 4, 2) := by decide +kernel
theorem dX4_those_19 : decode cX4_those 19 = .ok (.invokevirtual 142, 3) := by decide +kernel
theorem dX4_those_22 : decode cX4_those 22 = .ok (.iload_n 2, 1) := by decide +kernel
theorem dX4_those_23 : decode cX4_those 23 = .ok (.if_icmp .ne 10, 3) := by decide +kernel
theorem dX4_those_26 : decode cX4_those 26 = .ok (.iconst 1, 1) := by decide +kernel
theorem dX4_those_27 : decode cX4_those 27 = .ok (.iload 4, 2) := by decide +kernel
theorem dX4_those_29 : decode cX4_those 29 = .ok (.ishl, 1) := by decide +kernel
theorem dX4_those_30 : decode cX4_those 30 = .ok (.goto 4, 3) := by decide +kernel
theorem dX4_those_33 : decode cX4_those 33 = .ok (.iconst 0, 1) := by decide +kernel
theorem dX4_those_34 : decode cX4_those 34 = .ok (.ior, 1) := by decide +kernel
theorem dX4_those_35 : decode cX4_those 35 = .ok (.istore_n 3, 1) := by decide +kernel
theorem dX4_those_36 : decode cX4_those 36 = .ok (.iinc 4 1, 3) := by decide +kernel
theorem dX4_those_39 : decode cX4_those 39 = .ok (.goto (-34), 3) := by decide +kernel
theorem dX4_those_42 : decode cX4_those 42 = .ok (.iload_n 3, 1) := by decide +kernel
theorem dX4_those_43 : decode cX4_those 43 = .ok (.ireturn, 1) := by decide +kernel
theorem dX4_meet_0 : decode cX4_meet 0 = .ok (.bipush 42, 2) := by decide +kernel
theorem dX4_meet_2 : decode cX4_meet 2 = .ok (.iconst 3, 1) := by decide +kernel
theorem dX4_meet_3 : decode cX4_meet 3 = .ok (.iload_n 1, 1) := by decide +kernel
theorem dX4_meet_4 : decode cX4_meet 4 = .ok (.imul, 1) := by decide +kernel
theorem dX4_meet_5 : decode cX4_meet 5 = .ok (.iadd, 1) := by decide +kernel
theorem dX4_meet_6 : decode cX4_meet 6 = .ok (.istore_n 3, 1) := by decide +kernel
theorem dX4_meet_7 : decode cX4_meet 7 = .ok (.bipush 42, 2) := by decide +kernel
theorem dX4_meet_9 : decode cX4_meet 9 = .ok (.iconst 3, 1) := by decide +kernel
theorem dX4_meet_10 : decode cX4_meet 10 = .ok (.iload_n 2, 1) := by decide +kernel
theorem dX4_meet_11 : decode cX4_meet 11 = .ok (.imul, 1) := by decide +kernel
theorem dX4_meet_12 : decode cX4_meet 12 = .ok (.iadd, 1) := by decide +kernel
theorem dX4_meet_13 : decode cX4_meet 13 = .ok (.istore 4, 2) := by decide +kernel
theorem dX4_meet_15 : decode cX4_meet 15 = .ok (.aload_n 0, 1) := by decide +kernel
theorem dX4_meet_16 : decode cX4_meet 16 = .ok (.iload_n 3, 1) := by decide +kernel
theorem dX4_meet_17 : decode cX4_meet 17 = .ok (.iaload, 1) := by decide +kernel
theorem dX4_meet_18 : decode cX4_meet 18 = .ok (.aload_n 0, 1) := by decide +kernel
theorem dX4_meet_19 : decode cX4_meet 19 = .ok (.iload_n 3, 1) := by decide +kernel
theorem dX4_meet_20 : decode cX4_meet 20 = .ok (.iconst 1, 1) := by decide +kernel
theorem dX4_meet_21 : decode cX4_meet 21 = .ok (.iadd, 1) := by decide +kernel
theorem dX4_meet_22 : decode cX4_meet 22 = .ok (.iaload, 1) := by decide +kernel
theorem dX4_meet_23 : decode cX4_meet 23 = .ok (.aload_n 0, 1) := by decide +kernel
theorem dX4_meet_24 : decode cX4_meet 24 = .ok (.iload 4, 2) := by decide +kernel
theorem dX4_meet_26 : decode cX4_meet 26 = .ok (.iaload, 1) := by decide +kernel
theorem dX4_meet_27 : decode cX4_meet 27 = .ok (.aload_n 0, 1) := by decide +kernel
theorem dX4_meet_28 : decode cX4_meet 28 = .ok (.iload 4, 2) := by decide +kernel
theorem dX4_meet_30 : decode cX4_meet 30 = .ok (.iconst 1, 1) := by decide +kernel
theorem dX4_meet_31 : decode cX4_meet 31 = .ok (.iadd, 1) := by decide +kernel
theorem dX4_meet_32 : decode cX4_meet 32 = .ok (.iaload, 1) := by decide +kernel
theorem dX4_meet_33 : decode cX4_meet 33 = .ok (.invokestatic 123, 3) := by decide +kernel
theorem dX4_meet_36 : decode cX4_meet 36 = .ok (.ifCond .ne 27, 3) := by decide +kernel
theorem dX4_meet_39 : decode cX4_meet 39 = .ok (.aload_n 0, 1) := by decide +kernel
theorem dX4_meet_40 : decode cX4_meet 40 = .ok (.iload 4, 2) := by decide +kernel
theorem dX4_meet_42 : decode cX4_meet 42 = .ok (.iaload, 1) := by decide +kernel
theorem dX4_meet_43 : decode cX4_meet 43 = .ok (.aload_n 0, 1) := by decide +kernel
theorem dX4_meet_44 : decode cX4_meet 44 = .ok (.iload 4, 2) := by decide +kernel
theorem dX4_meet_46 : decode cX4_meet 46 = .ok (.iconst 1, 1) := by decide +kernel
theorem dX4_meet_47 : decode cX4_meet 47 = .ok (.iadd, 1) := by decide +kernel
theorem dX4_meet_48 : decode cX4_meet 48 = .ok (.iaload, 1) := by decide +kernel
theorem dX4_meet_49 : decode cX4_meet 49 = .ok (.aload_n 0, 1) := by decide +kernel
theorem dX4_meet_50 : decode cX4_meet 50 = .ok (.iload_n 3, 1) := by decide +kernel
theorem dX4_meet_51 : decode cX4_meet 51 = .ok (.iaload, 1) := by decide +kernel
theorem dX4_meet_52 : decode cX4_meet 52 = .ok (.aload_n 0, 1) := by decide +kernel
theorem dX4_meet_53 : decode cX4_meet 53 = .ok (.iload_n 3, 1) := by decide +kernel
theorem dX4_meet_54 : decode cX4_meet 54 = .ok (.iconst 1, 1) := by decide +kernel
theorem dX4_meet_55 : decode cX4_meet 55 = .ok (.iadd, 1) := by decide +kernel
theorem dX4_meet_56 : decode cX4_meet 56 = .ok (.iaload, 1) := by decide +kernel
theorem dX4_meet_57 : decode cX4_meet 57 = .ok (.invokestatic 123, 3) := by decide +kernel
theorem dX4_meet_60 : decode cX4_meet 60 = .ok (.ifCond .eq 7, 3) := by decide +kernel
theorem dX4_meet_63 : decode cX4_meet 63 = .ok (.iconst 1, 1) := by decide +kernel
theorem dX4_meet_64 : decode cX4_meet 64 = .ok (.goto 4, 3) := by decide +kernel
theorem dX4_meet_67 : decode cX4_meet 67 = .ok (.iconst 0, 1) := by decide +kernel
theorem dX4_meet_68 : decode cX4_meet 68 = .ok (.ireturn, 1) := by decide +kernel
theorem dX4_isIn_0 : decode cX4_isIn 0 = .ok (.aload_n 0, 1) := by decide +kernel
theorem dX4_isIn_1 : decode cX4_isIn 1 = .ok (.aload_n 1, 1) := by decide +kernel
theorem dX4_isIn_2 : decode cX4_isIn 2 = .ok (.iload_n 2, 1) := by decide +kernel
theorem dX4_isIn_3 : decode cX4_isIn 3 = .ok (.invokevirtual 142, 3) := by decide +kernel
theorem dX4_isIn_6 : decode cX4_isIn 6 = .ok (.istore 4, 2) := by decide +kernel
theorem dX4_isIn_8 : decode cX4_isIn 8 = .ok (.iload_n 3, 1) := by decide +kernel
theorem dX4_isIn_9 : decode cX4_isIn 9 = .ok (.iconst 3, 1) := by decide +kernel
theorem dX4_isIn_10 : decode cX4_isIn 10 = .ok (.if_icmp .ge 30, 3) := by decide +kernel
theorem dX4_isIn_13 : decode cX4_isIn 13 = .ok (.iload_n 3, 1) := by decide +kernel
theorem dX4_isIn_14 : decode cX4_isIn 14 = .ok (.ifCond .eq 20, 3) := by decide +kernel
theorem dX4_isIn_17 : decode cX4_isIn 17 = .ok (.iload 4, 2) := by decide +kernel
theorem dX4_isIn_19 : decode cX4_isIn 19 = .ok (.iconst 2, 1) := by decide +kernel
theorem dX4_isIn_20 : decode cX4_isIn 20 = .ok (.if_icmp .eq 14, 3) := by decide +kernel
theorem dX4_isIn_23 : decode cX4_isIn 23 = .ok (.iload_n 3, 1) := by decide +kernel
theorem dX4_isIn_24 : decode cX4_isIn 24 = .ok (.iconst 1, 1) := by decide +kernel
theorem dX4_isIn_25 : decode cX4_isIn 25 = .ok (.if_icmp .ne 13, 3) := by decide +kernel
theorem dX4_isIn_28 : decode cX4_isIn 28 = .ok (.iload 4, 2) := by decide +kernel
theorem dX4_isIn_30 : decode cX4_isIn 30 = .ok (.iconst 1, 1) := by decide +kernel
theorem dX4_isIn_31 : decode cX4_isIn 31 = .ok (.if_icmp .ne 7, 3) := by decide +kernel
theorem dX4_isIn_34 : decode cX4_isIn 34 = .ok (.iconst 1, 1) := by decide +kernel
theorem dX4_isIn_35 : decode cX4_isIn 35 = .ok (.goto 4, 3) := by decide +kernel
theorem dX4_isIn_38 : decode cX4_isIn 38 = .ok (.iconst 0, 1) := by decide +kernel
theorem dX4_isIn_39 : decode cX4_isIn 39 = .ok (.ireturn, 1) := by decide +kernel
theorem dX4_isIn_40 : decode cX4_isIn 40 = .ok (.iload 4, 2) := by decide +kernel
theorem dX4_isIn_42 : decode cX4_isIn 42 = .ok (.ifCond .le 7, 3) := by decide +kernel
theorem dX4_isIn_45 : decode cX4_isIn 45 = .ok (.iconst 1, 1) := by decide +kernel
theorem dX4_isIn_46 : decode cX4_isIn 46 = .ok (.goto 4, 3) := by decide +kernel
theorem dX4_isIn_49 : decode cX4_isIn 49 = .ok (.iconst 0, 1) := by decide +kernel
theorem dX4_isIn_50 : decode cX4_isIn 50 = .ok (.istore 5, 2) := by decide +kernel
theorem dX4_isIn_52 : decode cX4_isIn 52 = .ok (.iconst 0, 1) := by decide +kernel
theorem dX4_isIn_53 : decode cX4_isIn 53 = .ok (.istore 6, 2) := by decide +kernel
theorem dX4_isIn_55 : decode cX4_isIn 55 = .ok (.iload 6, 2) := by decide +kernel
theorem dX4_isIn_57 : decode cX4_isIn 57 = .ok (.aload_n 1, 1) := by decide +kernel
theorem dX4_isIn_58 : decode cX4_isIn 58 = .ok (.bipush 41, 2) := by decide +kernel
theorem dX4_isIn_60 : decode cX4_isIn 60 = .ok (.iaload, 1) := by decide +kernel
theorem dX4_isIn_61 : decode cX4_isIn 61 = .ok (.if_icmp .ge 48, 3) := by decide +kernel
theorem dX4_isIn_64 : decode cX4_isIn 64 = .ok (.iload 5, 2) := by decide +kernel
theorem dX4_isIn_66 : decode cX4_isIn 66 = .ok (.ifCond .eq 34, 3) := by decide +kernel
theorem dX4_isIn_69 : decode cX4_isIn 69 = .ok (.iload 4, 2) := by decide +kernel
theorem dX4_isIn_71 : decode cX4_isIn 71 = .ok (.iconst 2, 1) := by decide +kernel
theorem dX4_isIn_72 : decode cX4_isIn 72 = .ok (.if_icmp .eq 24, 3) := by decide +kernel
theorem dX4_isIn_75 : decode cX4_isIn 75 = .ok (.aload_n 0, 1) := by decide +kernel
theorem dX4_isIn_76 : decode cX4_isIn 76 = .ok (.aload_n 1, 1) := by decide +kernel
theorem dX4_isIn_77 : decode cX4_isIn 77 = .ok (.iload 6, 2) := by decide +kernel
theorem dX4_isIn_79 : decode cX4_isIn 79 = .ok (.invokevirtual 142, 3) := by decide +kernel
theorem dX4_isIn_82 : decode cX4_isIn 82 = .ok (.iconst 2, 1) := by decide +kernel
theorem dX4_isIn_83 : decode cX4_isIn 83 = .ok (.if_icmp .ne 13, 3) := by decide +kernel
theorem dX4_isIn_86 : decode cX4_isIn 86 = .ok (.aload_n 1, 1) := by decide +kernel
theorem dX4_isIn_87 : decode cX4_isIn 87 = .ok (.iload_n 2, 1) := by decide +kernel
theorem dX4_isIn_88 : decode cX4_isIn 88 = .ok (.iload 6, 2) := by decide +kernel
theorem dX4_isIn_90 : decode cX4_isIn 90 = .ok (.invokestatic 146, 3) := by decide +kernel
theorem dX4_isIn_93 : decode cX4_isIn 93 = .ok (.ifCond .ne 7, 3) := by decide +kernel
theorem dX4_isIn_96 : decode cX4_isIn 96 = .ok (.iconst 1, 1) := by decide +kernel
theorem dX4_isIn_97 : decode cX4_isIn 97 = .ok (.goto 4, 3) := by decide +kernel
theorem dX4_isIn_100 : decode cX4_isIn 100 = .ok (.iconst 0, 1) := by decide +kernel
theorem dX4_isIn_101 : decode cX4_isIn 101 = .ok (.istore 5, 2) := by decide +kernel
theorem dX4_isIn_103 : decode cX4_isIn 103 = .ok (.iinc 6 1, 3) := by decide +kernel
theorem dX4_isIn_106 : decode cX4_isIn 106 = .ok (.goto (-51), 3) := by decide +kernel
theorem dX4_isIn_109 : decode cX4_isIn 109 = .ok (.iload 5, 2) := by decide +kernel
theorem dX4_isIn_111 : decode cX4_isIn 111 = .ok (.ireturn, 1) := by decide +kernel
theorem dX4_goesOf_0 : decode cX4_goesOf 0 = .ok (.bipush (-9), 2) := by decide +kernel
theorem dX4_goesOf_2 : decode cX4_goesOf 2 = .ok (.istore 4, 2) := by decide +kernel
theorem dX4_goesOf_4 : decode cX4_goesOf 4 = .ok (.iconst (-1), 1) := by decide +kernel
theorem dX4_goesOf_5 : decode cX4_goesOf 5 = .ok (.istore 5, 2) := by decide +kernel
theorem dX4_goesOf_7 : decode cX4_goesOf 7 = .ok (.iconst 0, 1) := by decide +kernel
theorem dX4_goesOf_8 : decode cX4_goesOf 8 = .ok (.istore 6, 2) := by decide +kernel
theorem dX4_goesOf_10 : decode cX4_goesOf 10 = .ok (.iload 6, 2) := by decide +kernel
theorem dX4_goesOf_12 : decode cX4_goesOf 12 = .ok (.aload_n 1, 1) := by decide +kernel
theorem dX4_goesOf_13 : decode cX4_goesOf 13 = .ok (.bipush 41, 2) := by decide +kernel
theorem dX4_goesOf_15 : decode cX4_goesOf 15 = .ok (.iaload, 1) := by decide +kernel
theorem dX4_goesOf_16 : decode cX4_goesOf 16 = .ok (.if_icmp .ge 70, 3) := by decide +kernel
theorem dX4_goesOf_19 : decode cX4_goesOf 19 = .ok (.bipush 42, 2) := by decide +kernel
theorem dX4_goesOf_21 : decode cX4_goesOf 21 = .ok (.iconst 3, 1) := by decide +kernel
theorem dX4_goesOf_22 : decode cX4_goesOf 22 = .ok (.iload 6, 2) := by decide +kernel
theorem dX4_goesOf_24 : decode cX4_goesOf 24 = .ok (.imul, 1) := by decide +kernel
theorem dX4_goesOf_25 : decode cX4_goesOf 25 = .ok (.iadd, 1) := by decide +kernel
theorem dX4_goesOf_26 : decode cX4_goesOf 26 = .ok (.istore 7, 2) := by decide +kernel
theorem dX4_goesOf_28 : decode cX4_goesOf 28 = .ok (.iload_n 2, 1) := by decide +kernel
theorem dX4_goesOf_29 : decode cX4_goesOf 29 = .ok (.iconst 5, 1) := by decide +kernel
theorem dX4_goesOf_30 : decode cX4_goesOf 30 = .ok (.aload_n 1, 1) := by decide +kernel
theorem dX4_goesOf_31 : decode cX4_goesOf 31 = .ok (.iload 7, 2) := by decide +kernel
theorem dX4_goesOf_33 : decode cX4_goesOf 33 = .ok (.iaload, 1) := by decide +kernel
theorem dX4_goesOf_34 : decode cX4_goesOf 34 = .ok (.aload_n 1, 1) := by decide +kernel
theorem dX4_goesOf_35 : decode cX4_goesOf 35 = .ok (.iload 7, 2) := by decide +kernel
theorem dX4_goesOf_37 : decode cX4_goesOf 37 = .ok (.iconst 1, 1) := by decide +kernel
theorem dX4_goesOf_38 : decode cX4_goesOf 38 = .ok (.iadd, 1) := by decide +kernel
theorem dX4_goesOf_39 : decode cX4_goesOf 39 = .ok (.iaload, 1) := by decide +kernel
theorem dX4_goesOf_40 : decode cX4_goesOf 40 = .ok (.invokestatic 123, 3) := by decide +kernel
theorem dX4_goesOf_43 : decode cX4_goesOf 43 = .ok (.ifCond .eq 37, 3) := by decide +kernel
theorem dX4_goesOf_46 : decode cX4_goesOf 46 = .ok (.aload_n 1, 1) := by decide +kernel
theorem dX4_goesOf_47 : decode cX4_goesOf 47 = .ok (.iload 7, 2) := by decide +kernel
theorem dX4_goesOf_49 : decode cX4_goesOf 49 = .ok (.iconst 1, 1) := by decide +kernel
theorem dX4_goesOf_50 : decode cX4_goesOf 50 = .ok (.iadd, 1) := by decide +kernel
theorem dX4_goesOf_51 : decode cX4_goesOf 51 = .ok (.iaload, 1) := by decide +kernel
theorem dX4_goesOf_52 : decode cX4_goesOf 52 = .ok (.iload 5, 2) := by decide +kernel
theorem dX4_goesOf_54 : decode cX4_goesOf 54 = .ok (.if_icmp .le 26, 3) := by decide +kernel
theorem dX4_goesOf_57 : decode cX4_goesOf 57 = .ok (.aload_n 0, 1) := by decide +kernel
theorem dX4_goesOf_58 : decode cX4_goesOf 58 = .ok (.aload_n 1, 1) := by decide +kernel
theorem dX4_goesOf_59 : decode cX4_goesOf 59 = .ok (.iload 6, 2) := by decide +kernel
theorem dX4_goesOf_61 : decode cX4_goesOf 61 = .ok (.iload_n 3, 1) := by decide +kernel
theorem dX4_goesOf_62 : decode cX4_goesOf 62 = .ok (.invokevirtual 150, 3) := by decide +kernel
theorem dX4_goesOf_65 : decode cX4_goesOf 65 = .ok (.ifCond .eq 15, 3) := by decide +kernel
theorem dX4_goesOf_68 : decode cX4_goesOf 68 = .ok (.iload 6, 2) := by decide +kernel
theorem dX4_goesOf_70 : decode cX4_goesOf 70 = .ok (.istore 4, 2) := by decide +kernel
theorem dX4_goesOf_72 : decode cX4_goesOf 72 = .ok (.aload_n 1, 1) := by decide +kernel
theorem dX4_goesOf_73 : decode cX4_goesOf 73 = .ok (.iload 7, 2) := by decide +kernel
theorem dX4_goesOf_75 : decode cX4_goesOf 75 = .ok (.iconst 1, 1) := by decide +kernel
theorem dX4_goesOf_76 : decode cX4_goesOf 76 = .ok (.iadd, 1) := by decide +kernel
theorem dX4_goesOf_77 : decode cX4_goesOf 77 = .ok (.iaload, 1) := by decide +kernel
theorem dX4_goesOf_78 : decode cX4_goesOf 78 = .ok (.istore 5, 2) := by decide +kernel
theorem dX4_goesOf_80 : decode cX4_goesOf 80 = .ok (.iinc 6 1, 3) := by decide +kernel
theorem dX4_goesOf_83 : decode cX4_goesOf 83 = .ok (.goto (-73), 3) := by decide +kernel
theorem dX4_goesOf_86 : decode cX4_goesOf 86 = .ok (.iload 4, 2) := by decide +kernel
theorem dX4_goesOf_88 : decode cX4_goesOf 88 = .ok (.ireturn, 1) := by decide +kernel
theorem dX4_makerOf_0 : decode cX4_makerOf 0 = .ok (.bipush 42, 2) := by decide +kernel
theorem dX4_makerOf_2 : decode cX4_makerOf 2 = .ok (.iconst 3, 1) := by decide +kernel
theorem dX4_makerOf_3 : decode cX4_makerOf 3 = .ok (.iload_n 1, 1) := by decide +kernel
theorem dX4_makerOf_4 : decode cX4_makerOf 4 = .ok (.imul, 1) := by decide +kernel
theorem dX4_makerOf_5 : decode cX4_makerOf 5 = .ok (.iadd, 1) := by decide +kernel
theorem dX4_makerOf_6 : decode cX4_makerOf 6 = .ok (.istore_n 2, 1) := by decide +kernel
theorem dX4_makerOf_7 : decode cX4_makerOf 7 = .ok (.iconst 0, 1) := by decide +kernel
theorem dX4_makerOf_8 : decode cX4_makerOf 8 = .ok (.istore_n 3, 1) := by decide +kernel
theorem dX4_makerOf_9 : decode cX4_makerOf 9 = .ok (.iconst 1, 1) := by decide +kernel
theorem dX4_makerOf_10 : decode cX4_makerOf 10 = .ok (.istore 4, 2) := by decide +kernel
theorem dX4_makerOf_12 : decode cX4_makerOf 12 = .ok (.iload 4, 2) := by decide +kernel
theorem dX4_makerOf_14 : decode cX4_makerOf 14 = .ok (.aload_n 0, 1) := by decide +kernel
theorem dX4_makerOf_15 : decode cX4_makerOf 15 = .ok (.getfield 44, 3) := by decide +kernel
theorem dX4_makerOf_18 : decode cX4_makerOf 18 = .ok (.if_icmp .ge 107, 3) := by decide +kernel
theorem dX4_makerOf_21 : decode cX4_makerOf 21 = .ok (.aload_n 0, 1) := by decide +kernel
theorem dX4_makerOf_22 : decode cX4_makerOf 22 = .ok (.aload_n 0, 1) := by decide +kernel
theorem dX4_makerOf_23 : decode cX4_makerOf 23 = .ok (.getfield 16, 3) := by decide +kernel
theorem dX4_makerOf_26 : decode cX4_makerOf 26 = .ok (.iload 4, 2) := by decide +kernel
theorem dX4_makerOf_28 : decode cX4_makerOf 28 = .ok (.invokevirtual 127, 3) := by decide +kernel
theorem dX4_makerOf_31 : decode cX4_makerOf 31 = .ok (.ifCond .eq 49, 3) := by decide +kernel
theorem dX4_makerOf_34 : decode cX4_makerOf 34 = .ok (.aload_n 0, 1) := by decide +kernel
theorem dX4_makerOf_35 : decode cX4_makerOf 35 = .ok (.getfield 16, 3) := by decide +kernel
theorem dX4_makerOf_38 : decode cX4_makerOf 38 = .ok (.iload_n 2, 1) := by decide +kernel
theorem dX4_makerOf_39 : decode cX4_makerOf 39 = .ok (.iaload, 1) := by decide +kernel
theorem dX4_makerOf_40 : decode cX4_makerOf 40 = .ok (.aload_n 0, 1) := by decide +kernel
theorem dX4_makerOf_41 : decode cX4_makerOf 41 = .ok (.getfield 16, 3) := by decide +kernel
theorem dX4_makerOf_44 : decode cX4_makerOf 44 = .ok (.iload_n 2, 1) := by decide +kernel
theorem dX4_makerOf_45 : decode cX4_makerOf 45 = .ok (.iconst 1, 1) := by decide +kernel
theorem dX4_makerOf_46 : decode cX4_makerOf 46 = .ok (.iadd, 1) := by decide +kernel
theorem dX4_makerOf_47 : decode cX4_makerOf 47 = .ok (.iaload, 1) := by decide +kernel
theorem dX4_makerOf_48 : decode cX4_makerOf 48 = .ok (.aload_n 0, 1) := by decide +kernel
theorem dX4_makerOf_49 : decode cX4_makerOf 49 = .ok (.getfield 13, 3) := by decide +kernel
theorem dX4_makerOf_52 : decode cX4_makerOf 52 = .ok (.iconst 4, 1) := by decide +kernel
theorem dX4_makerOf_53 : decode cX4_makerOf 53 = .ok (.iload 4, 2) := by decide +kernel
theorem dX4_makerOf_55 : decode cX4_makerOf 55 = .ok (.imul, 1) := by decide +kernel
theorem dX4_makerOf_56 : decode cX4_makerOf 56 = .ok (.iconst 1, 1) := by decide +kernel
theorem dX4_makerOf_57 : decode cX4_makerOf 57 = .ok (.iadd, 1) := by decide +kernel
theorem dX4_makerOf_58 : decode cX4_makerOf 58 = .ok (.iaload, 1) := by decide +kernel
theorem dX4_makerOf_59 : decode cX4_makerOf 59 = .ok (.aload_n 0, 1) := by decide +kernel
theorem dX4_makerOf_60 : decode cX4_makerOf 60 = .ok (.getfield 13, 3) := by decide +kernel
theorem dX4_makerOf_63 : decode cX4_makerOf 63 = .ok (.iconst 4, 1) := by decide +kernel
theorem dX4_makerOf_64 : decode cX4_makerOf 64 = .ok (.iload 4, 2) := by decide +kernel
theorem dX4_makerOf_66 : decode cX4_makerOf 66 = .ok (.imul, 1) := by decide +kernel
theorem dX4_makerOf_67 : decode cX4_makerOf 67 = .ok (.iconst 2, 1) := by decide +kernel
theorem dX4_makerOf_68 : decode cX4_makerOf 68 = .ok (.iadd, 1) := by decide +kernel
theorem dX4_makerOf_69 : decode cX4_makerOf 69 = .ok (.iaload, 1) := by decide +kernel
theorem dX4_makerOf_70 : decode cX4_makerOf 70 = .ok (.invokestatic 123, 3) := by decide +kernel
theorem dX4_makerOf_73 : decode cX4_makerOf 73 = .ok (.ifCond .eq 7, 3) := by decide +kernel
theorem dX4_makerOf_76 : decode cX4_makerOf 76 = .ok (.iconst 1, 1) := by decide +kernel
theorem dX4_makerOf_77 : decode cX4_makerOf 77 = .ok (.goto 4, 3) := by decide +kernel
theorem dX4_makerOf_80 : decode cX4_makerOf 80 = .ok (.iconst 0, 1) := by decide +kernel
theorem dX4_makerOf_81 : decode cX4_makerOf 81 = .ok (.istore 5, 2) := by decide +kernel
theorem dX4_makerOf_83 : decode cX4_makerOf 83 = .ok (.iload 5, 2) := by decide +kernel
theorem dX4_makerOf_85 : decode cX4_makerOf 85 = .ok (.ifCond .eq 32, 3) := by decide +kernel
theorem dX4_makerOf_88 : decode cX4_makerOf 88 = .ok (.aload_n 0, 1) := by decide +kernel
theorem dX4_makerOf_89 : decode cX4_makerOf 89 = .ok (.getfield 13, 3) := by decide +kernel
theorem dX4_makerOf_92 : decode cX4_makerOf 92 = .ok (.iconst 4, 1) := by decide +kernel
theorem dX4_makerOf_93 : decode cX4_makerOf 93 = .ok (.iload 4, 2) := by decide +kernel
theorem dX4_makerOf_95 : decode cX4_makerOf 95 = .ok (.imul, 1) := by decide +kernel
theorem dX4_makerOf_96 : decode cX4_makerOf 96 = .ok (.iconst 2, 1) := by decide +kernel
theorem dX4_makerOf_97 : decode cX4_makerOf 97 = .ok (.iadd, 1) := by decide +kernel
theorem dX4_makerOf_98 : decode cX4_makerOf 98 = .ok (.iaload, 1) := by decide +kernel
theorem dX4_makerOf_99 : decode cX4_makerOf 99 = .ok (.aload_n 0, 1) := by decide +kernel
theorem dX4_makerOf_100 : decode cX4_makerOf 100 = .ok (.getfield 13, 3) := by decide +kernel
theorem dX4_makerOf_103 : decode cX4_makerOf 103 = .ok (.iconst 4, 1) := by decide +kernel
theorem dX4_makerOf_104 : decode cX4_makerOf 104 = .ok (.iload_n 3, 1) := by decide +kernel
theorem dX4_makerOf_105 : decode cX4_makerOf 105 = .ok (.imul, 1) := by decide +kernel
theorem dX4_makerOf_106 : decode cX4_makerOf 106 = .ok (.iconst 2, 1) := by decide +kernel
theorem dX4_makerOf_107 : decode cX4_makerOf 107 = .ok (.iadd, 1) := by decide +kernel
theorem dX4_makerOf_108 : decode cX4_makerOf 108 = .ok (.iaload, 1) := by decide +kernel
theorem dX4_makerOf_109 : decode cX4_makerOf 109 = .ok (.if_icmp .le 8, 3) := by decide +kernel
theorem dX4_makerOf_112 : decode cX4_makerOf 112 = .ok (.iload 4, 2) := by decide +kernel
theorem dX4_makerOf_114 : decode cX4_makerOf 114 = .ok (.goto 4, 3) := by decide +kernel
theorem dX4_makerOf_117 : decode cX4_makerOf 117 = .ok (.iload_n 3, 1) := by decide +kernel
theorem dX4_makerOf_118 : decode cX4_makerOf 118 = .ok (.istore_n 3, 1) := by decide +kernel
theorem dX4_makerOf_119 : decode cX4_makerOf 119 = .ok (.iinc 4 1, 3) := by decide +kernel
theorem dX4_makerOf_122 : decode cX4_makerOf 122 = .ok (.goto (-110), 3) := by decide +kernel
theorem dX4_makerOf_125 : decode cX4_makerOf 125 = .ok (.iload_n 3, 1) := by decide +kernel
theorem dX4_makerOf_126 : decode cX4_makerOf 126 = .ok (.ireturn, 1) := by decide +kernel
theorem dX4_bare_0 : decode cX4_bare 0 = .ok (.iconst 0, 1) := by decide +kernel
theorem dX4_bare_1 : decode cX4_bare 1 = .ok (.istore_n 1, 1) := by decide +kernel
theorem dX4_bare_2 : decode cX4_bare 2 = .ok (.iconst 0, 1) := by decide +kernel
theorem dX4_bare_3 : decode cX4_bare 3 = .ok (.istore_n 2, 1) := by decide +kernel
theorem dX4_bare_4 : decode cX4_bare 4 = .ok (.iload_n 2, 1) := by decide +kernel
theorem dX4_bare_5 : decode cX4_bare 5 = .ok (.bipush 32, 2) := by decide +kernel
theorem dX4_bare_7 : decode cX4_bare 7 = .ok (.if_icmp .ge 100, 3) := by decide +kernel
theorem dX4_bare_10 : decode cX4_bare 10 = .ok (.iconst 1, 1) := by decide +kernel
theorem dX4_bare_11 : decode cX4_bare 11 = .ok (.istore_n 3, 1) := by decide +kernel
theorem dX4_bare_12 : decode cX4_bare 12 = .ok (.iconst 0, 1) := by decide +kernel
theorem dX4_bare_13 : decode cX4_bare 13 = .ok (.istore 4, 2) := by decide +kernel
theorem dX4_bare_15 : decode cX4_bare 15 = .ok (.iload 4, 2) := by decide +kernel
theorem dX4_bare_17 : decode cX4_bare 17 = .ok (.aload_n 0, 1) := by decide +kernel
theorem dX4_bare_18 : decode cX4_bare 18 = .ok (.getfield 16, 3) := by decide +kernel
theorem dX4_bare_21 : decode cX4_bare 21 = .ok (.iconst 0, 1) := by decide +kernel
theorem dX4_bare_22 : decode cX4_bare 22 = .ok (.iaload, 1) := by decide +kernel
theorem dX4_bare_23 : decode cX4_bare 23 = .ok (.if_icmp .ge 66, 3) := by decide +kernel
theorem dX4_bare_26 : decode cX4_bare 26 = .ok (.iconst 1, 1) := by decide +kernel
theorem dX4_bare_27 : decode cX4_bare 27 = .ok (.iconst 5, 1) := by decide +kernel
theorem dX4_bare_28 : decode cX4_bare 28 = .ok (.iload 4, 2) := by decide +kernel
theorem dX4_bare_30 : decode cX4_bare 30 = .ok (.imul, 1) := by decide +kernel
theorem dX4_bare_31 : decode cX4_bare 31 = .ok (.iadd, 1) := by decide +kernel
theorem dX4_bare_32 : decode cX4_bare 32 = .ok (.istore 5, 2) := by decide +kernel
theorem dX4_bare_34 : decode cX4_bare 34 = .ok (.iload_n 3, 1) := by decide +kernel
theorem dX4_bare_35 : decode cX4_bare 35 = .ok (.ifCond .eq 46, 3) := by decide +kernel
theorem dX4_bare_38 : decode cX4_bare 38 = .ok (.aload_n 0, 1) := by decide +kernel
theorem dX4_bare_39 : decode cX4_bare 39 = .ok (.aload_n 0, 1) := by decide +kernel
theorem dX4_bare_40 : decode cX4_bare 40 = .ok (.getfield 16, 3) := by decide +kernel
theorem dX4_bare_43 : decode cX4_bare 43 = .ok (.iload 4, 2) := by decide +kernel
theorem dX4_bare_45 : decode cX4_bare 45 = .ok (.invokevirtual 131, 3) := by decide +kernel
theorem dX4_bare_48 : decode cX4_bare 48 = .ok (.ifCond .eq 29, 3) := by decide +kernel
theorem dX4_bare_51 : decode cX4_bare 51 = .ok (.iload_n 2, 1) := by decide +kernel
theorem dX4_bare_52 : decode cX4_bare 52 = .ok (.iconst 5, 1) := by decide +kernel
theorem dX4_bare_53 : decode cX4_bare 53 = .ok (.aload_n 0, 1) := by decide +kernel
theorem dX4_bare_54 : decode cX4_bare 54 = .ok (.getfield 16, 3) := by decide +kernel
theorem dX4_bare_57 : decode cX4_bare 57 = .ok (.iload 5, 2) := by decide +kernel
theorem dX4_bare_59 : decode cX4_bare 59 = .ok (.iconst 2, 1) := by decide +kernel
theorem dX4_bare_60 : decode cX4_bare 60 = .ok (.iadd, 1) := by decide +kernel
theorem dX4_bare_61 : decode cX4_bare 61 = .ok (.iaload, 1) := by decide +kernel
theorem dX4_bare_62 : decode cX4_bare 62 = .ok (.aload_n 0, 1) := by decide +kernel
theorem dX4_bare_63 : decode cX4_bare 63 = .ok (.getfield 16, 3) := by decide +kernel
theorem dX4_bare_66 : decode cX4_bare 66 = .ok (.iload 5, 2) := by decide +kernel
theorem dX4_bare_68 : decode cX4_bare 68 = .ok (.iconst 3, 1) := by decide +kernel
theorem dX4_bare_69 : decode cX4_bare 69 = .ok (.iadd, 1) := by decide +kernel
theorem dX4_bare_70 : decode cX4_bare 70 = .ok (.iaload, 1) := by decide +kernel
theorem dX4_bare_71 : decode cX4_bare 71 = .ok (.invokestatic 123, 3) := by decide +kernel
theorem dX4_bare_74 : decode cX4_bare 74 = .ok (.ifCond .ne 7, 3) := by decide +kernel
theorem dX4_bare_77 : decode cX4_bare 77 = .ok (.iconst 1, 1) := by decide +kernel
theorem dX4_bare_78 : decode cX4_bare 78 = .ok (.goto 4, 3) := by decide +kernel
theorem dX4_bare_81 : decode cX4_bare 81 = .ok (.iconst 0, 1) := by decide +kernel
theorem dX4_bare_82 : decode cX4_bare 82 = .ok (.istore_n 3, 1) := by decide +kernel
theorem dX4_bare_83 : decode cX4_bare 83 = .ok (.iinc 4 1, 3) := by decide +kernel
theorem dX4_bare_86 : decode cX4_bare 86 = .ok (.goto (-71), 3) := by decide +kernel
theorem dX4_bare_89 : decode cX4_bare 89 = .ok (.iload_n 1, 1) := by decide +kernel
theorem dX4_bare_90 : decode cX4_bare 90 = .ok (.iload_n 3, 1) := by decide +kernel
theorem dX4_bare_91 : decode cX4_bare 91 = .ok (.ifCond .eq 7, 3) := by decide +kernel
theorem dX4_bare_94 : decode cX4_bare 94 = .ok (.iconst 1, 1) := by decide +kernel
theorem dX4_bare_95 : decode cX4_bare 95 = .ok (.goto 4, 3) := by decide +kernel
theorem dX4_bare_98 : decode cX4_bare 98 = .ok (.iconst 0, 1) := by decide +kernel
theorem dX4_bare_99 : decode cX4_bare 99 = .ok (.iadd, 1) := by decide +kernel
theorem dX4_bare_100 : decode cX4_bare 100 = .ok (.istore_n 1, 1) := by decide +kernel
theorem dX4_bare_101 : decode cX4_bare 101 = .ok (.iinc 2 1, 3) := by decide +kernel
theorem dX4_bare_104 : decode cX4_bare 104 = .ok (.goto (-100), 3) := by decide +kernel
theorem dX4_bare_107 : decode cX4_bare 107 = .ok (.iload_n 1, 1) := by decide +kernel
theorem dX4_bare_108 : decode cX4_bare 108 = .ok (.ireturn, 1) := by decide +kernel
theorem dX4_standing_0 : decode cX4_standing 0 = .ok (.iconst 0, 1) := by decide +kernel
theorem dX4_standing_1 : decode cX4_standing 1 = .ok (.istore_n 1, 1) := by decide +kernel
theorem dX4_standing_2 : decode cX4_standing 2 = .ok (.iconst 0, 1) := by decide +kernel
theorem dX4_standing_3 : decode cX4_standing 3 = .ok (.istore_n 2, 1) := by decide +kernel
theorem dX4_standing_4 : decode cX4_standing 4 = .ok (.iload_n 2, 1) := by decide +kernel
theorem dX4_standing_5 : decode cX4_standing 5 = .ok (.aload_n 0, 1) := by decide +kernel
theorem dX4_standing_6 : decode cX4_standing 6 = .ok (.getfield 44, 3) := by decide +kernel
theorem dX4_standing_9 : decode cX4_standing 9 = .ok (.if_icmp .ge 31, 3) := by decide +kernel
theorem dX4_standing_12 : decode cX4_standing 12 = .ok (.iload_n 1, 1) := by decide +kernel
theorem dX4_standing_13 : decode cX4_standing 13 = .ok (.aload_n 0, 1) := by decide +kernel
theorem dX4_standing_14 : decode cX4_standing 14 = .ok (.aload_n 0, 1) := by decide +kernel
theorem dX4_standing_15 : decode cX4_standing 15 = .ok (.getfield 16, 3) := by decide +kernel
theorem dX4_standing_18 : decode cX4_standing 18 = .ok (.iload_n 2, 1) := by decide +kernel
theorem dX4_standing_19 : decode cX4_standing 19 = .ok (.invokevirtual 127, 3) := by decide +kernel
theorem dX4_standing_22 : decode cX4_standing 22 = .ok (.ifCond .eq 9, 3) := by decide +kernel
theorem dX4_standing_25 : decode cX4_standing 25 = .ok (.iconst 1, 1) := by decide +kernel
theorem dX4_standing_26 : decode cX4_standing 26 = .ok (.iload_n 2, 1) := by decide +kernel
theorem dX4_standing_27 : decode cX4_standing 27 = .ok (.ishl, 1) := by decide +kernel
theorem dX4_standing_28 : decode cX4_standing 28 = .ok (.goto 4, 3) := by decide +kernel
theorem dX4_standing_31 : decode cX4_standing 31 = .ok (.iconst 0, 1) := by decide +kernel
theorem dX4_standing_32 : decode cX4_standing 32 = .ok (.ior, 1) := by decide +kernel
theorem dX4_standing_33 : decode cX4_standing 33 = .ok (.istore_n 1, 1) := by decide +kernel
theorem dX4_standing_34 : decode cX4_standing 34 = .ok (.iinc 2 1, 3) := by decide +kernel
theorem dX4_standing_37 : decode cX4_standing 37 = .ok (.goto (-33), 3) := by decide +kernel
theorem dX4_standing_40 : decode cX4_standing 40 = .ok (.iload_n 1, 1) := by decide +kernel
theorem dX4_standing_41 : decode cX4_standing 41 = .ok (.ireturn, 1) := by decide +kernel
theorem dX4_about_0 : decode cX4_about 0 = .ok (.iload_n 1, 1) := by decide +kernel
theorem dX4_about_1 : decode cX4_about 1 = .ok (.tableswitch 156 0 12 #[67, 72, 79, 87, 95, 103, 108, 116, 126, 136, 141, 146, 151], 67) := by decide +kernel
theorem dX4_about_68 : decode cX4_about 68 = .ok (.aload_n 0, 1) := by decide +kernel
theorem dX4_about_69 : decode cX4_about 69 = .ok (.getfield 44, 3) := by decide +kernel
theorem dX4_about_72 : decode cX4_about 72 = .ok (.ireturn, 1) := by decide +kernel
theorem dX4_about_73 : decode cX4_about 73 = .ok (.aload_n 0, 1) := by decide +kernel
theorem dX4_about_74 : decode cX4_about 74 = .ok (.getfield 16, 3) := by decide +kernel
theorem dX4_about_77 : decode cX4_about 77 = .ok (.iconst 0, 1) := by decide +kernel
theorem dX4_about_78 : decode cX4_about 78 = .ok (.iaload, 1) := by decide +kernel
theorem dX4_about_79 : decode cX4_about 79 = .ok (.ireturn, 1) := by decide +kernel
theorem dX4_about_80 : decode cX4_about 80 = .ok (.aload_n 0, 1) := by decide +kernel
theorem dX4_about_81 : decode cX4_about 81 = .ok (.getfield 16, 3) := by decide +kernel
theorem dX4_about_84 : decode cX4_about 84 = .ok (.bipush 41, 2) := by decide +kernel
theorem dX4_about_86 : decode cX4_about 86 = .ok (.iaload, 1) := by decide +kernel
theorem dX4_about_87 : decode cX4_about 87 = .ok (.ireturn, 1) := by decide +kernel
theorem dX4_about_88 : decode cX4_about 88 = .ok (.aload_n 0, 1) := by decide +kernel
theorem dX4_about_89 : decode cX4_about 89 = .ok (.getfield 16, 3) := by decide +kernel
theorem dX4_about_92 : decode cX4_about 92 = .ok (.bipush 65, 2) := by decide +kernel
theorem dX4_about_94 : decode cX4_about 94 = .ok (.iaload, 1) := by decide +kernel
theorem dX4_about_95 : decode cX4_about 95 = .ok (.ireturn, 1) := by decide +kernel
theorem dX4_about_96 : decode cX4_about 96 = .ok (.aload_n 0, 1) := by decide +kernel
theorem dX4_about_97 : decode cX4_about 97 = .ok (.getfield 16, 3) := by decide +kernel
theorem dX4_about_100 : decode cX4_about 100 = .ok (.bipush 63, 2) := by decide +kernel
theorem dX4_about_102 : decode cX4_about 102 = .ok (.iaload, 1) := by decide +kernel
theorem dX4_about_103 : decode cX4_about 103 = .ok (.ireturn, 1) := by decide +kernel
theorem dX4_about_104 : decode cX4_about 104 = .ok (.aload_n 0, 1) := by decide +kernel
theorem dX4_about_105 : decode cX4_about 105 = .ok (.invokevirtual 153, 3) := by decide +kernel
theorem dX4_about_108 : decode cX4_about 108 = .ok (.ireturn, 1) := by decide +kernel
theorem dX4_about_109 : decode cX4_about 109 = .ok (.aload_n 0, 1) := by decide +kernel
theorem dX4_about_110 : decode cX4_about 110 = .ok (.getfield 16, 3) := by decide +kernel
theorem dX4_about_113 : decode cX4_about 113 = .ok (.bipush 64, 2) := by decide +kernel
theorem dX4_about_115 : decode cX4_about 115 = .ok (.iaload, 1) := by decide +kernel
theorem dX4_about_116 : decode cX4_about 116 = .ok (.ireturn, 1) := by decide +kernel
theorem dX4_about_117 : decode cX4_about 117 = .ok (.aload_n 0, 1) := by decide +kernel
theorem dX4_about_118 : decode cX4_about 118 = .ok (.aload_n 0, 1) := by decide +kernel
theorem dX4_about_119 : decode cX4_about 119 = .ok (.getfield 16, 3) := by decide +kernel
theorem dX4_about_122 : decode cX4_about 122 = .ok (.iconst 2, 1) := by decide +kernel
theorem dX4_about_123 : decode cX4_about 123 = .ok (.invokevirtual 156, 3) := by decide +kernel
theorem dX4_about_126 : decode cX4_about 126 = .ok (.ireturn, 1) := by decide +kernel
theorem dX4_about_127 : decode cX4_about 127 = .ok (.aload_n 0, 1) := by decide +kernel
theorem dX4_about_128 : decode cX4_about 128 = .ok (.aload_n 0, 1) := by decide +kernel
theorem dX4_about_129 : decode cX4_about 129 = .ok (.getfield 16, 3) := by decide +kernel
theorem dX4_about_132 : decode cX4_about 132 = .ok (.iconst 0, 1) := by decide +kernel
theorem dX4_about_133 : decode cX4_about 133 = .ok (.invokevirtual 156, 3) := by decide +kernel
theorem dX4_about_136 : decode cX4_about 136 = .ok (.ireturn, 1) := by decide +kernel
theorem dX4_about_137 : decode cX4_about 137 = .ok (.aload_n 0, 1) := by decide +kernel
theorem dX4_about_138 : decode cX4_about 138 = .ok (.invokevirtual 159, 3) := by decide +kernel
theorem dX4_about_141 : decode cX4_about 141 = .ok (.ireturn, 1) := by decide +kernel
theorem dX4_about_142 : decode cX4_about 142 = .ok (.aload_n 0, 1) := by decide +kernel
theorem dX4_about_143 : decode cX4_about 143 = .ok (.getfield 117, 3) := by decide +kernel
theorem dX4_about_146 : decode cX4_about 146 = .ok (.ireturn, 1) := by decide +kernel
theorem dX4_about_147 : decode cX4_about 147 = .ok (.aload_n 0, 1) := by decide +kernel
theorem dX4_about_148 : decode cX4_about 148 = .ok (.getfield 162, 3) := by decide +kernel
theorem dX4_about_151 : decode cX4_about 151 = .ok (.ireturn, 1) := by decide +kernel
theorem dX4_about_152 : decode cX4_about 152 = .ok (.aload_n 0, 1) := by decide +kernel
theorem dX4_about_153 : decode cX4_about 153 = .ok (.getfield 62, 3) := by decide +kernel
theorem dX4_about_156 : decode cX4_about 156 = .ok (.ireturn, 1) := by decide +kernel
theorem dX4_about_157 : decode cX4_about 157 = .ok (.bipush (-2), 2) := by decide +kernel
theorem dX4_about_159 : decode cX4_about 159 = .ok (.ireturn, 1) := by decide +kernel
theorem dX4_isPaper_0 : decode cX4_isPaper 0 = .ok (.iload_n 1, 1) := by decide +kernel
theorem dX4_isPaper_1 : decode cX4_isPaper 1 = .ok (.i2l, 1) := by decide +kernel
theorem dX4_isPaper_2 : decode cX4_isPaper 2 = .ok (.lconst 0, 1) := by decide +kernel
theorem dX4_isPaper_3 : decode cX4_isPaper 3 = .ok (.aload_n 0, 1) := by decide +kernel
theorem dX4_isPaper_4 : decode cX4_isPaper 4 = .ok (.getfield 44, 3) := by decide +kernel
theorem dX4_isPaper_7 : decode cX4_isPaper 7 = .ok (.iconst 1, 1) := by decide +kernel
theorem dX4_isPaper_8 : decode cX4_isPaper 8 = .ok (.isub, 1) := by decide +kernel
theorem dX4_isPaper_9 : decode cX4_isPaper 9 = .ok (.i2l, 1) := by decide +kernel
theorem dX4_isPaper_10 : decode cX4_isPaper 10 = .ok (.invokestatic 50, 3) := by decide +kernel
theorem dX4_isPaper_13 : decode cX4_isPaper 13 = .ok (.ireturn, 1) := by decide +kernel
theorem dX4_isGrant_0 : decode cX4_isGrant 0 = .ok (.iload_n 1, 1) := by decide +kernel
theorem dX4_isGrant_1 : decode cX4_isGrant 1 = .ok (.i2l, 1) := by decide +kernel
theorem dX4_isGrant_2 : decode cX4_isGrant 2 = .ok (.lconst 0, 1) := by decide +kernel
theorem dX4_isGrant_3 : decode cX4_isGrant 3 = .ok (.aload_n 0, 1) := by decide +kernel
theorem dX4_isGrant_4 : decode cX4_isGrant 4 = .ok (.getfield 16, 3) := by decide +kernel
theorem dX4_isGrant_7 : decode cX4_isGrant 7 = .ok (.iconst 0, 1) := by decide +kernel
theorem dX4_isGrant_8 : decode cX4_isGrant 8 = .ok (.iaload, 1) := by decide +kernel
theorem dX4_isGrant_9 : decode cX4_isGrant 9 = .ok (.iconst 1, 1) := by decide +kernel
theorem dX4_isGrant_10 : decode cX4_isGrant 10 = .ok (.isub, 1) := by decide +kernel
theorem dX4_isGrant_11 : decode cX4_isGrant 11 = .ok (.i2l, 1) := by decide +kernel
theorem dX4_isGrant_12 : decode cX4_isGrant 12 = .ok (.invokestatic 50, 3) := by decide +kernel
theorem dX4_isGrant_15 : decode cX4_isGrant 15 = .ok (.ireturn, 1) := by decide +kernel
theorem dX4_isRoute_0 : decode cX4_isRoute 0 = .ok (.iload_n 1, 1) := by decide +kernel
theorem dX4_isRoute_1 : decode cX4_isRoute 1 = .ok (.i2l, 1) := by decide +kernel
theorem dX4_isRoute_2 : decode cX4_isRoute 2 = .ok (.lconst 0, 1) := by decide +kernel
theorem dX4_isRoute_3 : decode cX4_isRoute 3 = .ok (.aload_n 0, 1) := by decide +kernel
theorem dX4_isRoute_4 : decode cX4_isRoute 4 = .ok (.getfield 16, 3) := by decide +kernel
theorem dX4_isRoute_7 : decode cX4_isRoute 7 = .ok (.bipush 41, 2) := by decide +kernel
theorem dX4_isRoute_9 : decode cX4_isRoute 9 = .ok (.iaload, 1) := by decide +kernel
theorem dX4_isRoute_10 : decode cX4_isRoute 10 = .ok (.iconst 1, 1) := by decide +kernel
theorem dX4_isRoute_11 : decode cX4_isRoute 11 = .ok (.isub, 1) := by decide +kernel
theorem dX4_isRoute_12 : decode cX4_isRoute 12 = .ok (.i2l, 1) := by decide +kernel
theorem dX4_isRoute_13 : decode cX4_isRoute 13 = .ok (.invokestatic 50, 3) := by decide +kernel
theorem dX4_isRoute_16 : decode cX4_isRoute 16 = .ok (.ireturn, 1) := by decide +kernel
theorem dX4_paper_0 : decode cX4_paper 0 = .ok (.aload_n 0, 1) := by decide +kernel
theorem dX4_paper_1 : decode cX4_paper 1 = .ok (.iload_n 1, 1) := by decide +kernel
theorem dX4_paper_2 : decode cX4_paper 2 = .ok (.invokevirtual 165, 3) := by decide +kernel
theorem dX4_paper_5 : decode cX4_paper 5 = .ok (.ifCond .ne 5, 3) := by decide +kernel
theorem dX4_paper_8 : decode cX4_paper 8 = .ok (.iconst (-1), 1) := by decide +kernel
theorem dX4_paper_9 : decode cX4_paper 9 = .ok (.ireturn, 1) := by decide +kernel
theorem dX4_paper_10 : decode cX4_paper 10 = .ok (.iload_n 2, 1) := by decide +kernel
theorem dX4_paper_11 : decode cX4_paper 11 = .ok (.tableswitch 111 0 4 #[33, 51, 62, 73, 93], 33) := by decide +kernel
theorem dX4_paper_44 : decode cX4_paper 44 = .ok (.iload_n 1, 1) := by decide +kernel
theorem dX4_paper_45 : decode cX4_paper 45 = .ok (.ifCond .ne 8, 3) := by decide +kernel
theorem dX4_paper_48 : decode cX4_paper 48 = .ok (.bipush (-9), 2) := by decide +kernel
theorem dX4_paper_50 : decode cX4_paper 50 = .ok (.goto 11, 3) := by decide +kernel
theorem dX4_paper_53 : decode cX4_paper 53 = .ok (.aload_n 0, 1) := by decide +kernel
theorem dX4_paper_54 : decode cX4_paper 54 = .ok (.getfield 13, 3) := by decide +kernel
theorem dX4_paper_57 : decode cX4_paper 57 = .ok (.iconst 4, 1) := by decide +kernel
theorem dX4_paper_58 : decode cX4_paper 58 = .ok (.iload_n 1, 1) := by decide +kernel
theorem dX4_paper_59 : decode cX4_paper 59 = .ok (.imul, 1) := by decide +kernel
theorem dX4_paper_60 : decode cX4_paper 60 = .ok (.iaload, 1) := by decide +kernel
theorem dX4_paper_61 : decode cX4_paper 61 = .ok (.ireturn, 1) := by decide +kernel
theorem dX4_paper_62 : decode cX4_paper 62 = .ok (.aload_n 0, 1) := by decide +kernel
theorem dX4_paper_63 : decode cX4_paper 63 = .ok (.getfield 13, 3) := by decide +kernel
theorem dX4_paper_66 : decode cX4_paper 66 = .ok (.iconst 4, 1) := by decide +kernel
theorem dX4_paper_67 : decode cX4_paper 67 = .ok (.iload_n 1, 1) := by decide +kernel
theorem dX4_paper_68 : decode cX4_paper 68 = .ok (.imul, 1) := by decide +kernel
theorem dX4_paper_69 : decode cX4_paper 69 = .ok (.iconst 1, 1) := by decide +kernel
theorem dX4_paper_70 : decode cX4_paper 70 = .ok (.iadd, 1) := by decide +kernel
theorem dX4_paper_71 : decode cX4_paper 71 = .ok (.iaload, 1) := by decide +kernel
theorem dX4_paper_72 : decode cX4_paper 72 = .ok (.ireturn, 1) := by decide +kernel
theorem dX4_paper_73 : decode cX4_paper 73 = .ok (.aload_n 0, 1) := by decide +kernel
theorem dX4_paper_74 : decode cX4_paper 74 = .ok (.getfield 13, 3) := by decide +kernel
theorem dX4_paper_77 : decode cX4_paper 77 = .ok (.iconst 4, 1) := by decide +kernel
theorem dX4_paper_78 : decode cX4_paper 78 = .ok (.iload_n 1, 1) := by decide +kernel
theorem dX4_paper_79 : decode cX4_paper 79 = .ok (.imul, 1) := by decide +kernel
theorem dX4_paper_80 : decode cX4_paper 80 = .ok (.iconst 2, 1) := by decide +kernel
theorem dX4_paper_81 : decode cX4_paper 81 = .ok (.iadd, 1) := by decide +kernel
theorem dX4_paper_82 : decode cX4_paper 82 = .ok (.iaload, 1) := by decide +kernel
theorem dX4_paper_83 : decode cX4_paper 83 = .ok (.ireturn, 1) := by decide +kernel
theorem dX4_paper_84 : decode cX4_paper 84 = .ok (.iload_n 1, 1) := by decide +kernel
theorem dX4_paper_85 : decode cX4_paper 85 = .ok (.ifCond .ne 8, 3) := by decide +kernel
theorem dX4_paper_88 : decode cX4_paper 88 = .ok (.bipush (-9), 2) := by decide +kernel
theorem dX4_paper_90 : decode cX4_paper 90 = .ok (.goto 13, 3) := by decide +kernel
theorem dX4_paper_93 : decode cX4_paper 93 = .ok (.aload_n 0, 1) := by decide +kernel
theorem dX4_paper_94 : decode cX4_paper 94 = .ok (.getfield 13, 3) := by decide +kernel
theorem dX4_paper_97 : decode cX4_paper 97 = .ok (.iconst 4, 1) := by decide +kernel
theorem dX4_paper_98 : decode cX4_paper 98 = .ok (.iload_n 1, 1) := by decide +kernel
theorem dX4_paper_99 : decode cX4_paper 99 = .ok (.imul, 1) := by decide +kernel
theorem dX4_paper_100 : decode cX4_paper 100 = .ok (.iconst 3, 1) := by decide +kernel
theorem dX4_paper_101 : decode cX4_paper 101 = .ok (.iadd, 1) := by decide +kernel
theorem dX4_paper_102 : decode cX4_paper 102 = .ok (.iaload, 1) := by decide +kernel
theorem dX4_paper_103 : decode cX4_paper 103 = .ok (.ireturn, 1) := by decide +kernel
theorem dX4_paper_104 : decode cX4_paper 104 = .ok (.aload_n 0, 1) := by decide +kernel
theorem dX4_paper_105 : decode cX4_paper 105 = .ok (.aload_n 0, 1) := by decide +kernel
theorem dX4_paper_106 : decode cX4_paper 106 = .ok (.getfield 16, 3) := by decide +kernel
theorem dX4_paper_109 : decode cX4_paper 109 = .ok (.iload_n 1, 1) := by decide +kernel
theorem dX4_paper_110 : decode cX4_paper 110 = .ok (.invokevirtual 127, 3) := by decide +kernel
theorem dX4_paper_113 : decode cX4_paper 113 = .ok (.ifCond .eq 7, 3) := by decide +kernel
theorem dX4_paper_116 : decode cX4_paper 116 = .ok (.iconst 1, 1) := by decide +kernel
theorem dX4_paper_117 : decode cX4_paper 117 = .ok (.goto 4, 3) := by decide +kernel
theorem dX4_paper_120 : decode cX4_paper 120 = .ok (.iconst 0, 1) := by decide +kernel
theorem dX4_paper_121 : decode cX4_paper 121 = .ok (.ireturn, 1) := by decide +kernel
theorem dX4_paper_122 : decode cX4_paper 122 = .ok (.bipush (-2), 2) := by decide +kernel
theorem dX4_paper_124 : decode cX4_paper 124 = .ok (.ireturn, 1) := by decide +kernel
theorem dX4_grant_0 : decode cX4_grant 0 = .ok (.aload_n 0, 1) := by decide +kernel
theorem dX4_grant_1 : decode cX4_grant 1 = .ok (.iload_n 1, 1) := by decide +kernel
theorem dX4_grant_2 : decode cX4_grant 2 = .ok (.invokevirtual 169, 3) := by decide +kernel
theorem dX4_grant_5 : decode cX4_grant 5 = .ok (.ifCond .ne 5, 3) := by decide +kernel
theorem dX4_grant_8 : decode cX4_grant 8 = .ok (.iconst (-1), 1) := by decide +kernel
theorem dX4_grant_9 : decode cX4_grant 9 = .ok (.ireturn, 1) := by decide +kernel
theorem dX4_grant_10 : decode cX4_grant 10 = .ok (.iload_n 2, 1) := by decide +kernel
theorem dX4_grant_11 : decode cX4_grant 11 = .ok (.iconst 5, 1) := by decide +kernel
theorem dX4_grant_12 : decode cX4_grant 12 = .ok (.if_icmp .ne 21, 3) := by decide +kernel
theorem dX4_grant_15 : decode cX4_grant 15 = .ok (.aload_n 0, 1) := by decide +kernel
theorem dX4_grant_16 : decode cX4_grant 16 = .ok (.aload_n 0, 1) := by decide +kernel
theorem dX4_grant_17 : decode cX4_grant 17 = .ok (.getfield 16, 3) := by decide +kernel
theorem dX4_grant_20 : decode cX4_grant 20 = .ok (.iload_n 1, 1) := by decide +kernel
theorem dX4_grant_21 : decode cX4_grant 21 = .ok (.invokevirtual 131, 3) := by decide +kernel
theorem dX4_grant_24 : decode cX4_grant 24 = .ok (.ifCond .eq 7, 3) := by decide +kernel
theorem dX4_grant_27 : decode cX4_grant 27 = .ok (.iconst 1, 1) := by decide +kernel
theorem dX4_grant_28 : decode cX4_grant 28 = .ok (.goto 4, 3) := by decide +kernel
theorem dX4_grant_31 : decode cX4_grant 31 = .ok (.iconst 0, 1) := by decide +kernel
theorem dX4_grant_32 : decode cX4_grant 32 = .ok (.ireturn, 1) := by decide +kernel
theorem dX4_grant_33 : decode cX4_grant 33 = .ok (.iload_n 2, 1) := by decide +kernel
theorem dX4_grant_34 : decode cX4_grant 34 = .ok (.i2l, 1) := by decide +kernel
theorem dX4_grant_35 : decode cX4_grant 35 = .ok (.lconst 0, 1) := by decide +kernel
theorem dX4_grant_36 : decode cX4_grant 36 = .ok (.ldc2_w 172, 3) := by decide +kernel
theorem dX4_grant_39 : decode cX4_grant 39 = .ok (.invokestatic 50, 3) := by decide +kernel
theorem dX4_grant_42 : decode cX4_grant 42 = .ok (.ifCond .eq 18, 3) := by decide +kernel
theorem dX4_grant_45 : decode cX4_grant 45 = .ok (.aload_n 0, 1) := by decide +kernel
theorem dX4_grant_46 : decode cX4_grant 46 = .ok (.getfield 16, 3) := by decide +kernel
theorem dX4_grant_49 : decode cX4_grant 49 = .ok (.iconst 1, 1) := by decide +kernel
theorem dX4_grant_50 : decode cX4_grant 50 = .ok (.iconst 5, 1) := by decide +kernel
theorem dX4_grant_51 : decode cX4_grant 51 = .ok (.iload_n 1, 1) := by decide +kernel
theorem dX4_grant_52 : decode cX4_grant 52 = .ok (.imul, 1) := by decide +kernel
theorem dX4_grant_53 : decode cX4_grant 53 = .ok (.iadd, 1) := by decide +kernel
theorem dX4_grant_54 : decode cX4_grant 54 = .ok (.iload_n 2, 1) := by decide +kernel
theorem dX4_grant_55 : decode cX4_grant 55 = .ok (.iadd, 1) := by decide +kernel
theorem dX4_grant_56 : decode cX4_grant 56 = .ok (.iaload, 1) := by decide +kernel
theorem dX4_grant_57 : decode cX4_grant 57 = .ok (.goto 5, 3) := by decide +kernel
theorem dX4_grant_60 : decode cX4_grant 60 = .ok (.bipush (-2), 2) := by decide +kernel
theorem dX4_grant_62 : decode cX4_grant 62 = .ok (.ireturn, 1) := by decide +kernel
theorem dX4_route_0 : decode cX4_route 0 = .ok (.aload_n 0, 1) := by decide +kernel
theorem dX4_route_1 : decode cX4_route 1 = .ok (.iload_n 1, 1) := by decide +kernel
theorem dX4_route_2 : decode cX4_route 2 = .ok (.invokevirtual 174, 3) := by decide +kernel
theorem dX4_route_5 : decode cX4_route 5 = .ok (.ifCond .ne 5, 3) := by decide +kernel
theorem dX4_route_8 : decode cX4_route 8 = .ok (.iconst (-1), 1) := by decide +kernel
theorem dX4_route_9 : decode cX4_route 9 = .ok (.ireturn, 1) := by decide +kernel
theorem dX4_route_10 : decode cX4_route 10 = .ok (.iload_n 2, 1) := by decide +kernel
theorem dX4_route_11 : decode cX4_route 11 = .ok (.iconst 3, 1) := by decide +kernel
theorem dX4_route_12 : decode cX4_route 12 = .ok (.if_icmp .ne 13, 3) := by decide +kernel
theorem dX4_route_15 : decode cX4_route 15 = .ok (.aload_n 0, 1) := by decide +kernel
theorem dX4_route_16 : decode cX4_route 16 = .ok (.aload_n 0, 1) := by decide +kernel
theorem dX4_route_17 : decode cX4_route 17 = .ok (.getfield 16, 3) := by decide +kernel
theorem dX4_route_20 : decode cX4_route 20 = .ok (.iload_n 1, 1) := by decide +kernel
theorem dX4_route_21 : decode cX4_route 21 = .ok (.invokevirtual 142, 3) := by decide +kernel
theorem dX4_route_24 : decode cX4_route 24 = .ok (.ireturn, 1) := by decide +kernel
theorem dX4_route_25 : decode cX4_route 25 = .ok (.iload_n 2, 1) := by decide +kernel
theorem dX4_route_26 : decode cX4_route 26 = .ok (.iconst 4, 1) := by decide +kernel
theorem dX4_route_27 : decode cX4_route 27 = .ok (.if_icmp .ne 9, 3) := by decide +kernel
theorem dX4_route_30 : decode cX4_route 30 = .ok (.aload_n 0, 1) := by decide +kernel
theorem dX4_route_31 : decode cX4_route 31 = .ok (.iload_n 1, 1) := by decide +kernel
theorem dX4_route_32 : decode cX4_route 32 = .ok (.invokevirtual 177, 3) := by decide +kernel
theorem dX4_route_35 : decode cX4_route 35 = .ok (.ireturn, 1) := by decide +kernel
theorem dX4_route_36 : decode cX4_route 36 = .ok (.iload_n 2, 1) := by decide +kernel
theorem dX4_route_37 : decode cX4_route 37 = .ok (.i2l, 1) := by decide +kernel
theorem dX4_route_38 : decode cX4_route 38 = .ok (.lconst 0, 1) := by decide +kernel
theorem dX4_route_39 : decode cX4_route 39 = .ok (.ldc2_w 180, 3) := by decide +kernel
theorem dX4_route_42 : decode cX4_route 42 = .ok (.invokestatic 50, 3) := by decide +kernel
theorem dX4_route_45 : decode cX4_route 45 = .ok (.ifCond .eq 19, 3) := by decide +kernel
theorem dX4_route_48 : decode cX4_route 48 = .ok (.aload_n 0, 1) := by decide +kernel
theorem dX4_route_49 : decode cX4_route 49 = .ok (.getfield 16, 3) := by decide +kernel
theorem dX4_route_52 : decode cX4_route 52 = .ok (.bipush 42, 2) := by decide +kernel
theorem dX4_route_54 : decode cX4_route 54 = .ok (.iconst 3, 1) := by decide +kernel
theorem dX4_route_55 : decode cX4_route 55 = .ok (.iload_n 1, 1) := by decide +kernel
theorem dX4_route_56 : decode cX4_route 56 = .ok (.imul, 1) := by decide +kernel
theorem dX4_route_57 : decode cX4_route 57 = .ok (.iadd, 1) := by decide +kernel
theorem dX4_route_58 : decode cX4_route 58 = .ok (.iload_n 2, 1) := by decide +kernel
theorem dX4_route_59 : decode cX4_route 59 = .ok (.iadd, 1) := by decide +kernel
theorem dX4_route_60 : decode cX4_route 60 = .ok (.iaload, 1) := by decide +kernel
theorem dX4_route_61 : decode cX4_route 61 = .ok (.goto 5, 3) := by decide +kernel
theorem dX4_route_64 : decode cX4_route 64 = .ok (.bipush (-2), 2) := by decide +kernel
theorem dX4_route_66 : decode cX4_route 66 = .ok (.ireturn, 1) := by decide +kernel
theorem dX4_note_0 : decode cX4_note 0 = .ok (.iconst 0, 1) := by decide +kernel
theorem dX4_note_1 : decode cX4_note 1 = .ok (.istore_n 1, 1) := by decide +kernel
theorem dX4_note_2 : decode cX4_note 2 = .ok (.iload_n 1, 1) := by decide +kernel
theorem dX4_note_3 : decode cX4_note 3 = .ok (.bipush 66, 2) := by decide +kernel
theorem dX4_note_5 : decode cX4_note 5 = .ok (.if_icmp .ge 29, 3) := by decide +kernel
theorem dX4_note_8 : decode cX4_note 8 = .ok (.aload_n 0, 1) := by decide +kernel
theorem dX4_note_9 : decode cX4_note 9 = .ok (.getfield 22, 3) := by decide +kernel
theorem dX4_note_12 : decode cX4_note 12 = .ok (.bipush 66, 2) := by decide +kernel
theorem dX4_note_14 : decode cX4_note 14 = .ok (.aload_n 0, 1) := by decide +kernel
theorem dX4_note_15 : decode cX4_note 15 = .ok (.getfield 182, 3) := by decide +kernel
theorem dX4_note_18 : decode cX4_note 18 = .ok (.imul, 1) := by decide +kernel
theorem dX4_note_19 : decode cX4_note 19 = .ok (.iload_n 1, 1) := by decide +kernel
theorem dX4_note_20 : decode cX4_note 20 = .ok (.iadd, 1) := by decide +kernel
theorem dX4_note_21 : decode cX4_note 21 = .ok (.aload_n 0, 1) := by decide +kernel
theorem dX4_note_22 : decode cX4_note 22 = .ok (.getfield 16, 3) := by decide +kernel
theorem dX4_note_25 : decode cX4_note 25 = .ok (.iload_n 1, 1) := by decide +kernel
theorem dX4_note_26 : decode cX4_note 26 = .ok (.iaload, 1) := by decide +kernel
theorem dX4_note_27 : decode cX4_note 27 = .ok (.iastore, 1) := by decide +kernel
theorem dX4_note_28 : decode cX4_note 28 = .ok (.iinc 1 1, 3) := by decide +kernel
theorem dX4_note_31 : decode cX4_note 31 = .ok (.goto (-29), 3) := by decide +kernel
theorem dX4_note_34 : decode cX4_note 34 = .ok (.aload_n 0, 1) := by decide +kernel
theorem dX4_note_35 : decode cX4_note 35 = .ok (.aload_n 0, 1) := by decide +kernel
theorem dX4_note_36 : decode cX4_note 36 = .ok (.getfield 182, 3) := by decide +kernel
theorem dX4_note_39 : decode cX4_note 39 = .ok (.iconst 1, 1) := by decide +kernel
theorem dX4_note_40 : decode cX4_note 40 = .ok (.iadd, 1) := by decide +kernel
theorem dX4_note_41 : decode cX4_note 41 = .ok (.bipush 14, 2) := by decide +kernel
theorem dX4_note_43 : decode cX4_note 43 = .ok (.irem, 1) := by decide +kernel
theorem dX4_note_44 : decode cX4_note 44 = .ok (.putfield 182, 3) := by decide +kernel
theorem dX4_note_47 : decode cX4_note 47 = .ok (.aload_n 0, 1) := by decide +kernel
theorem dX4_note_48 : decode cX4_note 48 = .ok (.aload_n 0, 1) := by decide +kernel
theorem dX4_note_49 : decode cX4_note 49 = .ok (.getfield 117, 3) := by decide +kernel
theorem dX4_note_52 : decode cX4_note 52 = .ok (.bipush 14, 2) := by decide +kernel
theorem dX4_note_54 : decode cX4_note 54 = .ok (.if_icmp .ge 12, 3) := by decide +kernel
theorem dX4_note_57 : decode cX4_note 57 = .ok (.aload_n 0, 1) := by decide +kernel
theorem dX4_note_58 : decode cX4_note 58 = .ok (.getfield 117, 3) := by decide +kernel
theorem dX4_note_61 : decode cX4_note 61 = .ok (.iconst 1, 1) := by decide +kernel
theorem dX4_note_62 : decode cX4_note 62 = .ok (.iadd, 1) := by decide +kernel
theorem dX4_note_63 : decode cX4_note 63 = .ok (.goto 5, 3) := by decide +kernel
theorem dX4_note_66 : decode cX4_note 66 = .ok (.bipush 14, 2) := by decide +kernel
theorem dX4_note_68 : decode cX4_note 68 = .ok (.putfield 117, 3) := by decide +kernel
theorem dX4_note_71 : decode cX4_note 71 = .ok (.return_, 1) := by decide +kernel
theorem dX4_announce_0 : decode cX4_announce 0 = .ok (.iload_n 1, 1) := by decide +kernel
theorem dX4_announce_1 : decode cX4_announce 1 = .ok (.iload_n 2, 1) := by decide +kernel
theorem dX4_announce_2 : decode cX4_announce 2 = .ok (.invokestatic 75, 3) := by decide +kernel
theorem dX4_announce_5 : decode cX4_announce 5 = .ok (.ifCond .ne 6, 3) := by decide +kernel
theorem dX4_announce_8 : decode cX4_announce 8 = .ok (.bipush (-2), 2) := by decide +kernel
theorem dX4_announce_10 : decode cX4_announce 10 = .ok (.ireturn, 1) := by decide +kernel
theorem dX4_announce_11 : decode cX4_announce 11 = .ok (.iload_n 3, 1) := by decide +kernel
theorem dX4_announce_12 : decode cX4_announce 12 = .ok (.invokestatic 185, 3) := by decide +kernel
theorem dX4_announce_15 : decode cX4_announce 15 = .ok (.ifCond .ne 5, 3) := by decide +kernel
theorem dX4_announce_18 : decode cX4_announce 18 = .ok (.iconst (-1), 1) := by decide +kernel
theorem dX4_announce_19 : decode cX4_announce 19 = .ok (.ireturn, 1) := by decide +kernel
theorem dX4_announce_20 : decode cX4_announce 20 = .ok (.aload_n 0, 1) := by decide +kernel
theorem dX4_announce_21 : decode cX4_announce 21 = .ok (.getfield 16, 3) := by decide +kernel
theorem dX4_announce_24 : decode cX4_announce 24 = .ok (.bipush 41, 2) := by decide +kernel
theorem dX4_announce_26 : decode cX4_announce 26 = .ok (.iaload, 1) := by decide +kernel
theorem dX4_announce_27 : decode cX4_announce 27 = .ok (.bipush 6, 2) := by decide +kernel
theorem dX4_announce_29 : decode cX4_announce 29 = .ok (.if_icmp .ne 6, 3) := by decide +kernel
theorem dX4_announce_32 : decode cX4_announce 32 = .ok (.bipush (-4), 2) := by decide +kernel
theorem dX4_announce_34 : decode cX4_announce 34 = .ok (.ireturn, 1) := by decide +kernel
theorem dX4_announce_35 : decode cX4_announce 35 = .ok (.aload_n 0, 1) := by decide +kernel
theorem dX4_announce_36 : decode cX4_announce 36 = .ok (.invokevirtual 188, 3) := by decide +kernel
theorem dX4_announce_39 : decode cX4_announce 39 = .ok (.aload_n 0, 1) := by decide +kernel
theorem dX4_announce_40 : decode cX4_announce 40 = .ok (.getfield 16, 3) := by decide +kernel
theorem dX4_announce_43 : decode cX4_announce 43 = .ok (.iload_n 1, 1) := by decide +kernel
theorem dX4_announce_44 : decode cX4_announce 44 = .ok (.iload_n 2, 1) := by decide +kernel
theorem dX4_announce_45 : decode cX4_announce 45 = .ok (.iload_n 3, 1) := by decide +kernel
theorem dX4_announce_46 : decode cX4_announce 46 = .ok (.invokestatic 93, 3) := by decide +kernel
theorem dX4_announce_49 : decode cX4_announce 49 = .ok (.aload_n 0, 1) := by decide +kernel
theorem dX4_announce_50 : decode cX4_announce 50 = .ok (.getfield 16, 3) := by decide +kernel
theorem dX4_announce_53 : decode cX4_announce 53 = .ok (.bipush 41, 2) := by decide +kernel
theorem dX4_announce_55 : decode cX4_announce 55 = .ok (.iaload, 1) := by decide +kernel
theorem dX4_announce_56 : decode cX4_announce 56 = .ok (.iconst 1, 1) := by decide +kernel
theorem dX4_announce_57 : decode cX4_announce 57 = .ok (.isub, 1) := by decide +kernel
theorem dX4_announce_58 : decode cX4_announce 58 = .ok (.ireturn, 1) := by decide +kernel
theorem dX4_withdraw_0 : decode cX4_withdraw 0 = .ok (.aload_n 0, 1) := by decide +kernel
theorem dX4_withdraw_1 : decode cX4_withdraw 1 = .ok (.iload_n 1, 1) := by decide +kernel
theorem dX4_withdraw_2 : decode cX4_withdraw 2 = .ok (.invokevirtual 174, 3) := by decide +kernel
theorem dX4_withdraw_5 : decode cX4_withdraw 5 = .ok (.ifCond .ne 5, 3) := by decide +kernel
theorem dX4_withdraw_8 : decode cX4_withdraw 8 = .ok (.iconst (-1), 1) := by decide +kernel
theorem dX4_withdraw_9 : decode cX4_withdraw 9 = .ok (.ireturn, 1) := by decide +kernel
theorem dX4_withdraw_10 : decode cX4_withdraw 10 = .ok (.aload_n 0, 1) := by decide +kernel
theorem dX4_withdraw_11 : decode cX4_withdraw 11 = .ok (.invokevirtual 188, 3) := by decide +kernel
theorem dX4_withdraw_14 : decode cX4_withdraw 14 = .ok (.aload_n 0, 1) := by decide +kernel
theorem dX4_withdraw_15 : decode cX4_withdraw 15 = .ok (.getfield 16, 3) := by decide +kernel
theorem dX4_withdraw_18 : decode cX4_withdraw 18 = .ok (.iload_n 1, 1) := by decide +kernel
theorem dX4_withdraw_19 : decode cX4_withdraw 19 = .ok (.invokestatic 191, 3) := by decide +kernel
theorem dX4_withdraw_22 : decode cX4_withdraw 22 = .ok (.aload_n 0, 1) := by decide +kernel
theorem dX4_withdraw_23 : decode cX4_withdraw 23 = .ok (.getfield 16, 3) := by decide +kernel
theorem dX4_withdraw_26 : decode cX4_withdraw 26 = .ok (.bipush 41, 2) := by decide +kernel
theorem dX4_withdraw_28 : decode cX4_withdraw 28 = .ok (.iaload, 1) := by decide +kernel
theorem dX4_withdraw_29 : decode cX4_withdraw 29 = .ok (.ireturn, 1) := by decide +kernel
theorem dX4_allow_0 : decode cX4_allow 0 = .ok (.aload_n 0, 1) := by decide +kernel
theorem dX4_allow_1 : decode cX4_allow 1 = .ok (.iload_n 1, 1) := by decide +kernel
theorem dX4_allow_2 : decode cX4_allow 2 = .ok (.invokevirtual 165, 3) := by decide +kernel
theorem dX4_allow_5 : decode cX4_allow 5 = .ok (.ifCond .ne 9, 3) := by decide +kernel
theorem dX4_allow_8 : decode cX4_allow 8 = .ok (.iload_n 1, 1) := by decide +kernel
theorem dX4_allow_9 : decode cX4_allow 9 = .ok (.bipush 9, 2) := by decide +kernel
theorem dX4_allow_11 : decode cX4_allow 11 = .ok (.if_icmp .ne 10, 3) := by decide +kernel
theorem dX4_allow_14 : decode cX4_allow 14 = .ok (.iload_n 2, 1) := by decide +kernel
theorem dX4_allow_15 : decode cX4_allow 15 = .ok (.invokestatic 185, 3) := by decide +kernel
theorem dX4_allow_18 : decode cX4_allow 18 = .ok (.ifCond .ne 5, 3) := by decide +kernel
theorem dX4_allow_21 : decode cX4_allow 21 = .ok (.iconst (-1), 1) := by decide +kernel
theorem dX4_allow_22 : decode cX4_allow 22 = .ok (.ireturn, 1) := by decide +kernel
theorem dX4_allow_23 : decode cX4_allow 23 = .ok (.iload_n 3, 1) := by decide +kernel
theorem dX4_allow_24 : decode cX4_allow 24 = .ok (.iload 4, 2) := by decide +kernel
theorem dX4_allow_26 : decode cX4_allow 26 = .ok (.invokestatic 75, 3) := by decide +kernel
theorem dX4_allow_29 : decode cX4_allow 29 = .ok (.ifCond .eq 18, 3) := by decide +kernel
theorem dX4_allow_32 : decode cX4_allow 32 = .ok (.iload 5, 2) := by decide +kernel
theorem dX4_allow_34 : decode cX4_allow 34 = .ok (.i2l, 1) := by decide +kernel
theorem dX4_allow_35 : decode cX4_allow 35 = .ok (.iload 4, 2) := by decide +kernel
theorem dX4_allow_37 : decode cX4_allow 37 = .ok (.i2l, 1) := by decide +kernel
theorem dX4_allow_38 : decode cX4_allow 38 = .ok (.ldc2_w 48, 3) := by decide +kernel
theorem dX4_allow_41 : decode cX4_allow 41 = .ok (.invokestatic 50, 3) := by decide +kernel
theorem dX4_allow_44 : decode cX4_allow 44 = .ok (.ifCond .ne 6, 3) := by decide +kernel
theorem dX4_allow_47 : decode cX4_allow 47 = .ok (.bipush (-2), 2) := by decide +kernel
theorem dX4_allow_49 : decode cX4_allow 49 = .ok (.ireturn, 1) := by decide +kernel
theorem dX4_allow_50 : decode cX4_allow 50 = .ok (.aload_n 0, 1) := by decide +kernel
theorem dX4_allow_51 : decode cX4_allow 51 = .ok (.getfield 16, 3) := by decide +kernel
theorem dX4_allow_54 : decode cX4_allow 54 = .ok (.iconst 0, 1) := by decide +kernel
theorem dX4_allow_55 : decode cX4_allow 55 = .ok (.iaload, 1) := by decide +kernel
theorem dX4_allow_56 : decode cX4_allow 56 = .ok (.bipush 8, 2) := by decide +kernel
theorem dX4_allow_58 : decode cX4_allow 58 = .ok (.if_icmp .ne 6, 3) := by decide +kernel
theorem dX4_allow_61 : decode cX4_allow 61 = .ok (.bipush (-4), 2) := by decide +kernel
theorem dX4_allow_63 : decode cX4_allow 63 = .ok (.ireturn, 1) := by decide +kernel
theorem dX4_allow_64 : decode cX4_allow 64 = .ok (.aload_n 0, 1) := by decide +kernel
theorem dX4_allow_65 : decode cX4_allow 65 = .ok (.invokevirtual 188, 3) := by decide +kernel
theorem dX4_allow_68 : decode cX4_allow 68 = .ok (.aload_n 0, 1) := by decide +kernel
theorem dX4_allow_69 : decode cX4_allow 69 = .ok (.getfield 16, 3) := by decide +kernel
theorem dX4_allow_72 : decode cX4_allow 72 = .ok (.iload_n 1, 1) := by decide +kernel
theorem dX4_allow_73 : decode cX4_allow 73 = .ok (.iload_n 2, 1) := by decide +kernel
theorem dX4_allow_74 : decode cX4_allow 74 = .ok (.iload_n 3, 1) := by decide +kernel
theorem dX4_allow_75 : decode cX4_allow 75 = .ok (.iload 4, 2) := by decide +kernel
theorem dX4_allow_77 : decode cX4_allow 77 = .ok (.iload 5, 2) := by decide +kernel
theorem dX4_allow_79 : decode cX4_allow 79 = .ok (.invokestatic 89, 3) := by decide +kernel
theorem dX4_allow_82 : decode cX4_allow 82 = .ok (.aload_n 0, 1) := by decide +kernel
theorem dX4_allow_83 : decode cX4_allow 83 = .ok (.getfield 16, 3) := by decide +kernel
theorem dX4_allow_86 : decode cX4_allow 86 = .ok (.iconst 0, 1) := by decide +kernel
theorem dX4_allow_87 : decode cX4_allow 87 = .ok (.iaload, 1) := by decide +kernel
theorem dX4_allow_88 : decode cX4_allow 88 = .ok (.iconst 1, 1) := by decide +kernel
theorem dX4_allow_89 : decode cX4_allow 89 = .ok (.isub, 1) := by decide +kernel
theorem dX4_allow_90 : decode cX4_allow 90 = .ok (.ireturn, 1) := by decide +kernel
theorem dX4_tear_0 : decode cX4_tear 0 = .ok (.aload_n 0, 1) := by decide +kernel
theorem dX4_tear_1 : decode cX4_tear 1 = .ok (.iload_n 1, 1) := by decide +kernel
theorem dX4_tear_2 : decode cX4_tear 2 = .ok (.invokevirtual 169, 3) := by decide +kernel
theorem dX4_tear_5 : decode cX4_tear 5 = .ok (.ifCond .ne 5, 3) := by decide +kernel
theorem dX4_tear_8 : decode cX4_tear 8 = .ok (.iconst (-1), 1) := by decide +kernel
theorem dX4_tear_9 : decode cX4_tear 9 = .ok (.ireturn, 1) := by decide +kernel
theorem dX4_tear_10 : decode cX4_tear 10 = .ok (.aload_n 0, 1) := by decide +kernel
theorem dX4_tear_11 : decode cX4_tear 11 = .ok (.invokevirtual 188, 3) := by decide +kernel
theorem dX4_tear_14 : decode cX4_tear 14 = .ok (.aload_n 0, 1) := by decide +kernel
theorem dX4_tear_15 : decode cX4_tear 15 = .ok (.getfield 16, 3) := by decide +kernel
theorem dX4_tear_18 : decode cX4_tear 18 = .ok (.iload_n 1, 1) := by decide +kernel
theorem dX4_tear_19 : decode cX4_tear 19 = .ok (.invokestatic 195, 3) := by decide +kernel
theorem dX4_tear_22 : decode cX4_tear 22 = .ok (.aload_n 0, 1) := by decide +kernel
theorem dX4_tear_23 : decode cX4_tear 23 = .ok (.getfield 16, 3) := by decide +kernel
theorem dX4_tear_26 : decode cX4_tear 26 = .ok (.iconst 0, 1) := by decide +kernel
theorem dX4_tear_27 : decode cX4_tear 27 = .ok (.iaload, 1) := by decide +kernel
theorem dX4_tear_28 : decode cX4_tear 28 = .ok (.ireturn, 1) := by decide +kernel
theorem dX4_revoke_0 : decode cX4_revoke 0 = .ok (.aload_n 0, 1) := by decide +kernel
theorem dX4_revoke_1 : decode cX4_revoke 1 = .ok (.iload_n 1, 1) := by decide +kernel
theorem dX4_revoke_2 : decode cX4_revoke 2 = .ok (.invokevirtual 165, 3) := by decide +kernel
theorem dX4_revoke_5 : decode cX4_revoke 5 = .ok (.ifCond .eq 7, 3) := by decide +kernel
theorem dX4_revoke_8 : decode cX4_revoke 8 = .ok (.iload_n 1, 1) := by decide +kernel
theorem dX4_revoke_9 : decode cX4_revoke 9 = .ok (.ifCond .ne 5, 3) := by decide +kernel
theorem dX4_revoke_12 : decode cX4_revoke 12 = .ok (.iconst (-1), 1) := by decide +kernel
theorem dX4_revoke_13 : decode cX4_revoke 13 = .ok (.ireturn, 1) := by decide +kernel
theorem dX4_revoke_14 : decode cX4_revoke 14 = .ok (.aload_n 0, 1) := by decide +kernel
theorem dX4_revoke_15 : decode cX4_revoke 15 = .ok (.invokevirtual 188, 3) := by decide +kernel
theorem dX4_revoke_18 : decode cX4_revoke 18 = .ok (.aload_n 0, 1) := by decide +kernel
theorem dX4_revoke_19 : decode cX4_revoke 19 = .ok (.getfield 16, 3) := by decide +kernel
theorem dX4_revoke_22 : decode cX4_revoke 22 = .ok (.bipush 63, 2) := by decide +kernel
theorem dX4_revoke_24 : decode cX4_revoke 24 = .ok (.dup2, 1) := by decide +kernel
theorem dX4_revoke_25 : decode cX4_revoke 25 = .ok (.iaload, 1) := by decide +kernel
theorem dX4_revoke_26 : decode cX4_revoke 26 = .ok (.iconst 1, 1) := by decide +kernel
theorem dX4_revoke_27 : decode cX4_revoke 27 = .ok (.iload_n 1, 1) := by decide +kernel
theorem dX4_revoke_28 : decode cX4_revoke 28 = .ok (.ishl, 1) := by decide +kernel
theorem dX4_revoke_29 : decode cX4_revoke 29 = .ok (.ixor, 1) := by decide +kernel
theorem dX4_revoke_30 : decode cX4_revoke 30 = .ok (.iastore, 1) := by decide +kernel
theorem dX4_revoke_31 : decode cX4_revoke 31 = .ok (.aload_n 0, 1) := by decide +kernel
theorem dX4_revoke_32 : decode cX4_revoke 32 = .ok (.getfield 16, 3) := by decide +kernel
theorem dX4_revoke_35 : decode cX4_revoke 35 = .ok (.bipush 63, 2) := by decide +kernel
theorem dX4_revoke_37 : decode cX4_revoke 37 = .ok (.iaload, 1) := by decide +kernel
theorem dX4_revoke_38 : decode cX4_revoke 38 = .ok (.iload_n 1, 1) := by decide +kernel
theorem dX4_revoke_39 : decode cX4_revoke 39 = .ok (.ishr, 1) := by decide +kernel
theorem dX4_revoke_40 : decode cX4_revoke 40 = .ok (.iconst 1, 1) := by decide +kernel
theorem dX4_revoke_41 : decode cX4_revoke 41 = .ok (.iand, 1) := by decide +kernel
theorem dX4_revoke_42 : decode cX4_revoke 42 = .ok (.ireturn, 1) := by decide +kernel
theorem dX4_night_0 : decode cX4_night 0 = .ok (.aload_n 0, 1) := by decide +kernel
theorem dX4_night_1 : decode cX4_night 1 = .ok (.getfield 16, 3) := by decide +kernel
theorem dX4_night_4 : decode cX4_night 4 = .ok (.bipush 65, 2) := by decide +kernel
theorem dX4_night_6 : decode cX4_night 6 = .ok (.iaload, 1) := by decide +kernel
theorem dX4_night_7 : decode cX4_night 7 = .ok (.bipush 9, 2) := by decide +kernel
theorem dX4_night_9 : decode cX4_night 9 = .ok (.if_icmp .ne 6, 3) := by decide +kernel
theorem dX4_night_12 : decode cX4_night 12 = .ok (.bipush (-3), 2) := by decide +kernel
theorem dX4_night_14 : decode cX4_night 14 = .ok (.ireturn, 1) := by decide +kernel
theorem dX4_night_15 : decode cX4_night 15 = .ok (.aload_n 0, 1) := by decide +kernel
theorem dX4_night_16 : decode cX4_night 16 = .ok (.invokevirtual 188, 3) := by decide +kernel
theorem dX4_night_19 : decode cX4_night 19 = .ok (.aload_n 0, 1) := by decide +kernel
theorem dX4_night_20 : decode cX4_night 20 = .ok (.getfield 16, 3) := by decide +kernel
theorem dX4_night_23 : decode cX4_night 23 = .ok (.bipush 65, 2) := by decide +kernel
theorem dX4_night_25 : decode cX4_night 25 = .ok (.dup2, 1) := by decide +kernel
theorem dX4_night_26 : decode cX4_night 26 = .ok (.iaload, 1) := by decide +kernel
theorem dX4_night_27 : decode cX4_night 27 = .ok (.iconst 1, 1) := by decide +kernel
theorem dX4_night_28 : decode cX4_night 28 = .ok (.iadd, 1) := by decide +kernel
theorem dX4_night_29 : decode cX4_night 29 = .ok (.iastore, 1) := by decide +kernel
theorem dX4_night_30 : decode cX4_night 30 = .ok (.aload_n 0, 1) := by decide +kernel
theorem dX4_night_31 : decode cX4_night 31 = .ok (.getfield 16, 3) := by decide +kernel
theorem dX4_night_34 : decode cX4_night 34 = .ok (.bipush 65, 2) := by decide +kernel
theorem dX4_night_36 : decode cX4_night 36 = .ok (.iaload, 1) := by decide +kernel
theorem dX4_night_37 : decode cX4_night 37 = .ok (.ireturn, 1) := by decide +kernel
theorem dX4_setAside_0 : decode cX4_setAside 0 = .ok (.iload_n 1, 1) := by decide +kernel
theorem dX4_setAside_1 : decode cX4_setAside 1 = .ok (.invokestatic 185, 3) := by decide +kernel
theorem dX4_setAside_4 : decode cX4_setAside 4 = .ok (.ifCond .ne 5, 3) := by decide +kernel
theorem dX4_setAside_7 : decode cX4_setAside 7 = .ok (.iconst (-1), 1) := by decide +kernel
theorem dX4_setAside_8 : decode cX4_setAside 8 = .ok (.ireturn, 1) := by decide +kernel
theorem dX4_setAside_9 : decode cX4_setAside 9 = .ok (.aload_n 0, 1) := by decide +kernel
theorem dX4_setAside_10 : decode cX4_setAside 10 = .ok (.invokevirtual 188, 3) := by decide +kernel
theorem dX4_setAside_13 : decode cX4_setAside 13 = .ok (.aload_n 0, 1) := by decide +kernel
theorem dX4_setAside_14 : decode cX4_setAside 14 = .ok (.getfield 16, 3) := by decide +kernel
theorem dX4_setAside_17 : decode cX4_setAside 17 = .ok (.bipush 64, 2) := by decide +kernel
theorem dX4_setAside_19 : decode cX4_setAside 19 = .ok (.dup2, 1) := by decide +kernel
theorem dX4_setAside_20 : decode cX4_setAside 20 = .ok (.iaload, 1) := by decide +kernel
theorem dX4_setAside_21 : decode cX4_setAside 21 = .ok (.iconst 1, 1) := by decide +kernel
theorem dX4_setAside_22 : decode cX4_setAside 22 = .ok (.iload_n 1, 1) := by decide +kernel
theorem dX4_setAside_23 : decode cX4_setAside 23 = .ok (.ishl, 1) := by decide +kernel
theorem dX4_setAside_24 : decode cX4_setAside 24 = .ok (.ixor, 1) := by decide +kernel
theorem dX4_setAside_25 : decode cX4_setAside 25 = .ok (.iastore, 1) := by decide +kernel
theorem dX4_setAside_26 : decode cX4_setAside 26 = .ok (.aload_n 0, 1) := by decide +kernel
theorem dX4_setAside_27 : decode cX4_setAside 27 = .ok (.getfield 16, 3) := by decide +kernel
theorem dX4_setAside_30 : decode cX4_setAside 30 = .ok (.bipush 64, 2) := by decide +kernel
theorem dX4_setAside_32 : decode cX4_setAside 32 = .ok (.iaload, 1) := by decide +kernel
theorem dX4_setAside_33 : decode cX4_setAside 33 = .ok (.iload_n 1, 1) := by decide +kernel
theorem dX4_setAside_34 : decode cX4_setAside 34 = .ok (.ishr, 1) := by decide +kernel
theorem dX4_setAside_35 : decode cX4_setAside 35 = .ok (.iconst 1, 1) := by decide +kernel
theorem dX4_setAside_36 : decode cX4_setAside 36 = .ok (.iand, 1) := by decide +kernel
theorem dX4_setAside_37 : decode cX4_setAside 37 = .ok (.ireturn, 1) := by decide +kernel
theorem dX4_undo_0 : decode cX4_undo 0 = .ok (.aload_n 0, 1) := by decide +kernel
theorem dX4_undo_1 : decode cX4_undo 1 = .ok (.getfield 117, 3) := by decide +kernel
theorem dX4_undo_4 : decode cX4_undo 4 = .ok (.ifCond .ne 6, 3) := by decide +kernel
theorem dX4_undo_7 : decode cX4_undo 7 = .ok (.bipush (-3), 2) := by decide +kernel
theorem dX4_undo_9 : decode cX4_undo 9 = .ok (.ireturn, 1) := by decide +kernel
theorem dX4_undo_10 : decode cX4_undo 10 = .ok (.aload_n 0, 1) := by decide +kernel
theorem dX4_undo_11 : decode cX4_undo 11 = .ok (.dup, 1) := by decide +kernel
theorem dX4_undo_12 : decode cX4_undo 12 = .ok (.getfield 117, 3) := by decide +kernel
theorem dX4_undo_15 : decode cX4_undo 15 = .ok (.iconst 1, 1) := by decide +kernel
theorem dX4_undo_16 : decode cX4_undo 16 = .ok (.isub, 1) := by decide +kernel
theorem dX4_undo_17 : decode cX4_undo 17 = .ok (.putfield 117, 3) := by decide +kernel
theorem dX4_undo_20 : decode cX4_undo 20 = .ok (.aload_n 0, 1) := by decide +kernel
theorem dX4_undo_21 : decode cX4_undo 21 = .ok (.aload_n 0, 1) := by decide +kernel
theorem dX4_undo_22 : decode cX4_undo 22 = .ok (.getfield 182, 3) := by decide +kernel
theorem dX4_undo_25 : decode cX4_undo 25 = .ok (.bipush 14, 2) := by decide +kernel
theorem dX4_undo_27 : decode cX4_undo 27 = .ok (.iadd, 1) := by decide +kernel
theorem dX4_undo_28 : decode cX4_undo 28 = .ok (.iconst 1, 1) := by decide +kernel
theorem dX4_undo_29 : decode cX4_undo 29 = .ok (.isub, 1) := by decide +kernel
theorem dX4_undo_30 : decode cX4_undo 30 = .ok (.bipush 14, 2) := by decide +kernel
theorem dX4_undo_32 : decode cX4_undo 32 = .ok (.irem, 1) := by decide +kernel
theorem dX4_undo_33 : decode cX4_undo 33 = .ok (.putfield 182, 3) := by decide +kernel
theorem dX4_undo_36 : decode cX4_undo 36 = .ok (.iconst 0, 1) := by decide +kernel
theorem dX4_undo_37 : decode cX4_undo 37 = .ok (.istore_n 1, 1) := by decide +kernel
theorem dX4_undo_38 : decode cX4_undo 38 = .ok (.iload_n 1, 1) := by decide +kernel
theorem dX4_undo_39 : decode cX4_undo 39 = .ok (.bipush 66, 2) := by decide +kernel
theorem dX4_undo_41 : decode cX4_undo 41 = .ok (.if_icmp .ge 29, 3) := by decide +kernel
theorem dX4_undo_44 : decode cX4_undo 44 = .ok (.aload_n 0, 1) := by decide +kernel
theorem dX4_undo_45 : decode cX4_undo 45 = .ok (.getfield 16, 3) := by decide +kernel
theorem dX4_undo_48 : decode cX4_undo 48 = .ok (.iload_n 1, 1) := by decide +kernel
theorem dX4_undo_49 : decode cX4_undo 49 = .ok (.aload_n 0, 1) := by decide +kernel
theorem dX4_undo_50 : decode cX4_undo 50 = .ok (.getfield 22, 3) := by decide +kernel
theorem dX4_undo_53 : decode cX4_undo 53 = .ok (.bipush 66, 2) := by decide +kernel
theorem dX4_undo_55 : decode cX4_undo 55 = .ok (.aload_n 0, 1) := by decide +kernel
theorem dX4_undo_56 : decode cX4_undo 56 = .ok (.getfield 182, 3) := by decide +kernel
theorem dX4_undo_59 : decode cX4_undo 59 = .ok (.imul, 1) := by decide +kernel
theorem dX4_undo_60 : decode cX4_undo 60 = .ok (.iload_n 1, 1) := by decide +kernel
theorem dX4_undo_61 : decode cX4_undo 61 = .ok (.iadd, 1) := by decide +kernel
theorem dX4_undo_62 : decode cX4_undo 62 = .ok (.iaload, 1) := by decide +kernel
theorem dX4_undo_63 : decode cX4_undo 63 = .ok (.iastore, 1) := by decide +kernel
theorem dX4_undo_64 : decode cX4_undo 64 = .ok (.iinc 1 1, 3) := by decide +kernel
theorem dX4_undo_67 : decode cX4_undo 67 = .ok (.goto (-29), 3) := by decide +kernel
theorem dX4_undo_70 : decode cX4_undo 70 = .ok (.aload_n 0, 1) := by decide +kernel
theorem dX4_undo_71 : decode cX4_undo 71 = .ok (.getfield 117, 3) := by decide +kernel
theorem dX4_undo_74 : decode cX4_undo 74 = .ok (.ireturn, 1) := by decide +kernel
theorem dX4_state_0 : decode cX4_state 0 = .ok (.iload_n 1, 1) := by decide +kernel
theorem dX4_state_1 : decode cX4_state 1 = .ok (.iload_n 2, 1) := by decide +kernel
theorem dX4_state_2 : decode cX4_state 2 = .ok (.invokestatic 75, 3) := by decide +kernel
theorem dX4_state_5 : decode cX4_state 5 = .ok (.ifCond .ne 6, 3) := by decide +kernel
theorem dX4_state_8 : decode cX4_state 8 = .ok (.bipush (-2), 2) := by decide +kernel
theorem dX4_state_10 : decode cX4_state 10 = .ok (.ireturn, 1) := by decide +kernel
theorem dX4_state_11 : decode cX4_state 11 = .ok (.iload_n 3, 1) := by decide +kernel
theorem dX4_state_12 : decode cX4_state 12 = .ok (.invokestatic 185, 3) := by decide +kernel
theorem dX4_state_15 : decode cX4_state 15 = .ok (.ifCond .eq 17, 3) := by decide +kernel
theorem dX4_state_18 : decode cX4_state 18 = .ok (.aload_n 0, 1) := by decide +kernel
theorem dX4_state_19 : decode cX4_state 19 = .ok (.aload_n 0, 1) := by decide +kernel
theorem dX4_state_20 : decode cX4_state 20 = .ok (.getfield 16, 3) := by decide +kernel
theorem dX4_state_23 : decode cX4_state 23 = .ok (.iload_n 1, 1) := by decide +kernel
theorem dX4_state_24 : decode cX4_state 24 = .ok (.iload_n 2, 1) := by decide +kernel
theorem dX4_state_25 : decode cX4_state 25 = .ok (.iload_n 3, 1) := by decide +kernel
theorem dX4_state_26 : decode cX4_state 26 = .ok (.invokevirtual 138, 3) := by decide +kernel
theorem dX4_state_29 : decode cX4_state 29 = .ok (.goto 4, 3) := by decide +kernel
theorem dX4_state_32 : decode cX4_state 32 = .ok (.iconst (-1), 1) := by decide +kernel
theorem dX4_state_33 : decode cX4_state 33 = .ok (.ireturn, 1) := by decide +kernel
theorem dX4_isLaw_0 : decode cX4_isLaw 0 = .ok (.iload_n 0, 1) := by decide +kernel
theorem dX4_isLaw_1 : decode cX4_isLaw 1 = .ok (.i2l, 1) := by decide +kernel
theorem dX4_isLaw_2 : decode cX4_isLaw 2 = .ok (.lconst 0, 1) := by decide +kernel
theorem dX4_isLaw_3 : decode cX4_isLaw 3 = .ok (.ldc2_w 198, 3) := by decide +kernel
theorem dX4_isLaw_6 : decode cX4_isLaw 6 = .ok (.invokestatic 50, 3) := by decide +kernel
theorem dX4_isLaw_9 : decode cX4_isLaw 9 = .ok (.ireturn, 1) := by decide +kernel
theorem dX4_goes_0 : decode cX4_goes 0 = .ok (.iload_n 1, 1) := by decide +kernel
theorem dX4_goes_1 : decode cX4_goes 1 = .ok (.i2l, 1) := by decide +kernel
theorem dX4_goes_2 : decode cX4_goes 2 = .ok (.lconst 0, 1) := by decide +kernel
theorem dX4_goes_3 : decode cX4_goes 3 = .ok (.ldc2_w 54, 3) := by decide +kernel
theorem dX4_goes_6 : decode cX4_goes 6 = .ok (.invokestatic 50, 3) := by decide +kernel
theorem dX4_goes_9 : decode cX4_goes 9 = .ok (.ifCond .ne 5, 3) := by decide +kernel
theorem dX4_goes_12 : decode cX4_goes 12 = .ok (.iconst (-1), 1) := by decide +kernel
theorem dX4_goes_13 : decode cX4_goes 13 = .ok (.ireturn, 1) := by decide +kernel
theorem dX4_goes_14 : decode cX4_goes 14 = .ok (.iload_n 2, 1) := by decide +kernel
theorem dX4_goes_15 : decode cX4_goes 15 = .ok (.invokestatic 200, 3) := by decide +kernel
theorem dX4_goes_18 : decode cX4_goes 18 = .ok (.ifCond .eq 16, 3) := by decide +kernel
theorem dX4_goes_21 : decode cX4_goes 21 = .ok (.aload_n 0, 1) := by decide +kernel
theorem dX4_goes_22 : decode cX4_goes 22 = .ok (.aload_n 0, 1) := by decide +kernel
theorem dX4_goes_23 : decode cX4_goes 23 = .ok (.getfield 16, 3) := by decide +kernel
theorem dX4_goes_26 : decode cX4_goes 26 = .ok (.iload_n 1, 1) := by decide +kernel
theorem dX4_goes_27 : decode cX4_goes 27 = .ok (.iload_n 2, 1) := by decide +kernel
theorem dX4_goes_28 : decode cX4_goes 28 = .ok (.invokevirtual 203, 3) := by decide +kernel
theorem dX4_goes_31 : decode cX4_goes 31 = .ok (.goto 5, 3) := by decide +kernel
theorem dX4_goes_34 : decode cX4_goes 34 = .ok (.bipush (-2), 2) := by decide +kernel
theorem dX4_goes_36 : decode cX4_goes 36 = .ok (.ireturn, 1) := by decide +kernel
theorem dX4_theft_0 : decode cX4_theft 0 = .ok (.iload_n 1, 1) := by decide +kernel
theorem dX4_theft_1 : decode cX4_theft 1 = .ok (.i2l, 1) := by decide +kernel
theorem dX4_theft_2 : decode cX4_theft 2 = .ok (.lconst 0, 1) := by decide +kernel
theorem dX4_theft_3 : decode cX4_theft 3 = .ok (.ldc2_w 54, 3) := by decide +kernel
theorem dX4_theft_6 : decode cX4_theft 6 = .ok (.invokestatic 50, 3) := by decide +kernel
theorem dX4_theft_9 : decode cX4_theft 9 = .ok (.ifCond .eq 10, 3) := by decide +kernel
theorem dX4_theft_12 : decode cX4_theft 12 = .ok (.iload_n 2, 1) := by decide +kernel
theorem dX4_theft_13 : decode cX4_theft 13 = .ok (.invokestatic 185, 3) := by decide +kernel
theorem dX4_theft_16 : decode cX4_theft 16 = .ok (.ifCond .ne 5, 3) := by decide +kernel
theorem dX4_theft_19 : decode cX4_theft 19 = .ok (.iconst (-1), 1) := by decide +kernel
theorem dX4_theft_20 : decode cX4_theft 20 = .ok (.ireturn, 1) := by decide +kernel
theorem dX4_theft_21 : decode cX4_theft 21 = .ok (.iload_n 3, 1) := by decide +kernel
theorem dX4_theft_22 : decode cX4_theft 22 = .ok (.invokestatic 200, 3) := by decide +kernel
theorem dX4_theft_25 : decode cX4_theft 25 = .ok (.ifCond .ne 6, 3) := by decide +kernel
theorem dX4_theft_28 : decode cX4_theft 28 = .ok (.bipush (-2), 2) := by decide +kernel
theorem dX4_theft_30 : decode cX4_theft 30 = .ok (.ireturn, 1) := by decide +kernel
theorem dX4_theft_31 : decode cX4_theft 31 = .ok (.iconst 0, 1) := by decide +kernel
theorem dX4_theft_32 : decode cX4_theft 32 = .ok (.istore 4, 2) := by decide +kernel
theorem dX4_theft_34 : decode cX4_theft 34 = .ok (.iload 4, 2) := by decide +kernel
theorem dX4_theft_36 : decode cX4_theft 36 = .ok (.bipush 6, 2) := by decide +kernel
theorem dX4_theft_38 : decode cX4_theft 38 = .ok (.if_icmp .ge 64, 3) := by decide +kernel
theorem dX4_theft_41 : decode cX4_theft 41 = .ok (.aload_n 0, 1) := by decide +kernel
theorem dX4_theft_42 : decode cX4_theft 42 = .ok (.getfield 16, 3) := by decide +kernel
theorem dX4_theft_45 : decode cX4_theft 45 = .ok (.aload_n 0, 1) := by decide +kernel
theorem dX4_theft_46 : decode cX4_theft 46 = .ok (.getfield 19, 3) := by decide +kernel
theorem dX4_theft_49 : decode cX4_theft 49 = .ok (.invokestatic 113, 3) := by decide +kernel
theorem dX4_theft_52 : decode cX4_theft 52 = .ok (.aload_n 0, 1) := by decide +kernel
theorem dX4_theft_53 : decode cX4_theft 53 = .ok (.getfield 19, 3) := by decide +kernel
theorem dX4_theft_56 : decode cX4_theft 56 = .ok (.iload_n 1, 1) := by decide +kernel
theorem dX4_theft_57 : decode cX4_theft 57 = .ok (.iload_n 1, 1) := by decide +kernel
theorem dX4_theft_58 : decode cX4_theft 58 = .ok (.iload 4, 2) := by decide +kernel
theorem dX4_theft_60 : decode cX4_theft 60 = .ok (.invokestatic 56, 3) := by decide +kernel
theorem dX4_theft_63 : decode cX4_theft 63 = .ok (.irem, 1) := by decide +kernel
theorem dX4_theft_64 : decode cX4_theft 64 = .ok (.isub, 1) := by decide +kernel
theorem dX4_theft_65 : decode cX4_theft 65 = .ok (.iload 4, 2) := by decide +kernel
theorem dX4_theft_67 : decode cX4_theft 67 = .ok (.iload_n 2, 1) := by decide +kernel
theorem dX4_theft_68 : decode cX4_theft 68 = .ok (.invokestatic 93, 3) := by decide +kernel
theorem dX4_theft_71 : decode cX4_theft 71 = .ok (.aload_n 0, 1) := by decide +kernel
theorem dX4_theft_72 : decode cX4_theft 72 = .ok (.aload_n 0, 1) := by decide +kernel
theorem dX4_theft_73 : decode cX4_theft 73 = .ok (.getfield 19, 3) := by decide +kernel
theorem dX4_theft_76 : decode cX4_theft 76 = .ok (.iload_n 1, 1) := by decide +kernel
theorem dX4_theft_77 : decode cX4_theft 77 = .ok (.iload_n 3, 1) := by decide +kernel
theorem dX4_theft_78 : decode cX4_theft 78 = .ok (.invokevirtual 203, 3) := by decide +kernel
theorem dX4_theft_81 : decode cX4_theft 81 = .ok (.aload_n 0, 1) := by decide +kernel
theorem dX4_theft_82 : decode cX4_theft 82 = .ok (.getfield 19, 3) := by decide +kernel
theorem dX4_theft_85 : decode cX4_theft 85 = .ok (.bipush 41, 2) := by decide +kernel
theorem dX4_theft_87 : decode cX4_theft 87 = .ok (.iaload, 1) := by decide +kernel
theorem dX4_theft_88 : decode cX4_theft 88 = .ok (.iconst 1, 1) := by decide +kernel
theorem dX4_theft_89 : decode cX4_theft 89 = .ok (.isub, 1) := by decide +kernel
theorem dX4_theft_90 : decode cX4_theft 90 = .ok (.if_icmp .ne 6, 3) := by decide +kernel
theorem dX4_theft_93 : decode cX4_theft 93 = .ok (.iload 4, 2) := by decide +kernel
theorem dX4_theft_95 : decode cX4_theft 95 = .ok (.ireturn, 1) := by decide +kernel
theorem dX4_theft_96 : decode cX4_theft 96 = .ok (.iinc 4 1, 3) := by decide +kernel
theorem dX4_theft_99 : decode cX4_theft 99 = .ok (.goto (-65), 3) := by decide +kernel
theorem dX4_theft_102 : decode cX4_theft 102 = .ok (.bipush (-9), 2) := by decide +kernel
theorem dX4_theft_104 : decode cX4_theft 104 = .ok (.ireturn, 1) := by decide +kernel
theorem dX4_lost_0 : decode cX4_lost 0 = .ok (.aload_n 0, 1) := by decide +kernel
theorem dX4_lost_1 : decode cX4_lost 1 = .ok (.iload_n 1, 1) := by decide +kernel
theorem dX4_lost_2 : decode cX4_lost 2 = .ok (.invokevirtual 165, 3) := by decide +kernel
theorem dX4_lost_5 : decode cX4_lost 5 = .ok (.ifCond .eq 7, 3) := by decide +kernel
theorem dX4_lost_8 : decode cX4_lost 8 = .ok (.iload_n 1, 1) := by decide +kernel
theorem dX4_lost_9 : decode cX4_lost 9 = .ok (.ifCond .ne 5, 3) := by decide +kernel
theorem dX4_lost_12 : decode cX4_lost 12 = .ok (.iconst (-1), 1) := by decide +kernel
theorem dX4_lost_13 : decode cX4_lost 13 = .ok (.ireturn, 1) := by decide +kernel
theorem dX4_lost_14 : decode cX4_lost 14 = .ok (.aload_n 0, 1) := by decide +kernel
theorem dX4_lost_15 : decode cX4_lost 15 = .ok (.getfield 16, 3) := by decide +kernel
theorem dX4_lost_18 : decode cX4_lost 18 = .ok (.aload_n 0, 1) := by decide +kernel
theorem dX4_lost_19 : decode cX4_lost 19 = .ok (.getfield 19, 3) := by decide +kernel
theorem dX4_lost_22 : decode cX4_lost 22 = .ok (.invokestatic 113, 3) := by decide +kernel
theorem dX4_lost_25 : decode cX4_lost 25 = .ok (.aload_n 0, 1) := by decide +kernel
theorem dX4_lost_26 : decode cX4_lost 26 = .ok (.getfield 19, 3) := by decide +kernel
theorem dX4_lost_29 : decode cX4_lost 29 = .ok (.bipush 63, 2) := by decide +kernel
theorem dX4_lost_31 : decode cX4_lost 31 = .ok (.dup2, 1) := by decide +kernel
theorem dX4_lost_32 : decode cX4_lost 32 = .ok (.iaload, 1) := by decide +kernel
theorem dX4_lost_33 : decode cX4_lost 33 = .ok (.iconst 1, 1) := by decide +kernel
theorem dX4_lost_34 : decode cX4_lost 34 = .ok (.iload_n 1, 1) := by decide +kernel
theorem dX4_lost_35 : decode cX4_lost 35 = .ok (.ishl, 1) := by decide +kernel
theorem dX4_lost_36 : decode cX4_lost 36 = .ok (.ior, 1) := by decide +kernel
theorem dX4_lost_37 : decode cX4_lost 37 = .ok (.iastore, 1) := by decide +kernel
theorem dX4_lost_38 : decode cX4_lost 38 = .ok (.aload_n 0, 1) := by decide +kernel
