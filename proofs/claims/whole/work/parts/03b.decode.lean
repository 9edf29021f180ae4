theorem dX3_paper_109 : decode cX3_paper 109 = .ok (.ireturn, 1) := by decide +kernel
theorem dX3_grant_0 : decode cX3_grant 0 = .ok (.aload_n 0, 1) := by decide +kernel
theorem dX3_grant_1 : decode cX3_grant 1 = .ok (.getfield 23, 3) := by decide +kernel
theorem dX3_grant_4 : decode cX3_grant 4 = .ok (.getfield 89, 3) := by decide +kernel
theorem dX3_grant_7 : decode cX3_grant 7 = .ok (.iload_n 1, 1) := by decide +kernel
theorem dX3_grant_8 : decode cX3_grant 8 = .ok (.invokevirtual 114, 3) := by decide +kernel
theorem dX3_grant_11 : decode cX3_grant 11 = .ok (.ifCond .ne 5, 3) := by decide +kernel
theorem dX3_grant_14 : decode cX3_grant 14 = .ok (.iconst (-1), 1) := by decide +kernel
theorem dX3_grant_15 : decode cX3_grant 15 = .ok (.ireturn, 1) := by decide +kernel
theorem dX3_grant_16 : decode cX3_grant 16 = .ok (.iload_n 2, 1) := by decide +kernel
theorem dX3_grant_17 : decode cX3_grant 17 = .ok (.tableswitch 116 0 5 #[39, 52, 65, 78, 91, 104], 39) := by decide +kernel
theorem dX3_grant_56 : decode cX3_grant 56 = .ok (.aload_n 0, 1) := by decide +kernel
theorem dX3_grant_57 : decode cX3_grant 57 = .ok (.getfield 23, 3) := by decide +kernel
theorem dX3_grant_60 : decode cX3_grant 60 = .ok (.getfield 89, 3) := by decide +kernel
theorem dX3_grant_63 : decode cX3_grant 63 = .ok (.iload_n 1, 1) := by decide +kernel
theorem dX3_grant_64 : decode cX3_grant 64 = .ok (.iconst 4, 1) := by decide +kernel
theorem dX3_grant_65 : decode cX3_grant 65 = .ok (.invokevirtual 118, 3) := by decide +kernel
theorem dX3_grant_68 : decode cX3_grant 68 = .ok (.ireturn, 1) := by decide +kernel
theorem dX3_grant_69 : decode cX3_grant 69 = .ok (.aload_n 0, 1) := by decide +kernel
theorem dX3_grant_70 : decode cX3_grant 70 = .ok (.getfield 23, 3) := by decide +kernel
theorem dX3_grant_73 : decode cX3_grant 73 = .ok (.getfield 89, 3) := by decide +kernel
theorem dX3_grant_76 : decode cX3_grant 76 = .ok (.iload_n 1, 1) := by decide +kernel
theorem dX3_grant_77 : decode cX3_grant 77 = .ok (.iconst 3, 1) := by decide +kernel
theorem dX3_grant_78 : decode cX3_grant 78 = .ok (.invokevirtual 118, 3) := by decide +kernel
theorem dX3_grant_81 : decode cX3_grant 81 = .ok (.ireturn, 1) := by decide +kernel
theorem dX3_grant_82 : decode cX3_grant 82 = .ok (.aload_n 0, 1) := by decide +kernel
theorem dX3_grant_83 : decode cX3_grant 83 = .ok (.getfield 23, 3) := by decide +kernel
theorem dX3_grant_86 : decode cX3_grant 86 = .ok (.getfield 89, 3) := by decide +kernel
theorem dX3_grant_89 : decode cX3_grant 89 = .ok (.iload_n 1, 1) := by decide +kernel
theorem dX3_grant_90 : decode cX3_grant 90 = .ok (.iconst 0, 1) := by decide +kernel
theorem dX3_grant_91 : decode cX3_grant 91 = .ok (.invokevirtual 118, 3) := by decide +kernel
theorem dX3_grant_94 : decode cX3_grant 94 = .ok (.ireturn, 1) := by decide +kernel
theorem dX3_grant_95 : decode cX3_grant 95 = .ok (.aload_n 0, 1) := by decide +kernel
theorem dX3_grant_96 : decode cX3_grant 96 = .ok (.getfield 23, 3) := by decide +kernel
theorem dX3_grant_99 : decode cX3_grant 99 = .ok (.getfield 89, 3) := by decide +kernel
theorem dX3_grant_102 : decode cX3_grant 102 = .ok (.iload_n 1, 1) := by decide +kernel
theorem dX3_grant_103 : decode cX3_grant 103 = .ok (.iconst 1, 1) := by decide +kernel
theorem dX3_grant_104 : decode cX3_grant 104 = .ok (.invokevirtual 118, 3) := by decide +kernel
theorem dX3_grant_107 : decode cX3_grant 107 = .ok (.ireturn, 1) := by decide +kernel
theorem dX3_grant_108 : decode cX3_grant 108 = .ok (.aload_n 0, 1) := by decide +kernel
theorem dX3_grant_109 : decode cX3_grant 109 = .ok (.getfield 23, 3) := by decide +kernel
theorem dX3_grant_112 : decode cX3_grant 112 = .ok (.getfield 89, 3) := by decide +kernel
theorem dX3_grant_115 : decode cX3_grant 115 = .ok (.iload_n 1, 1) := by decide +kernel
theorem dX3_grant_116 : decode cX3_grant 116 = .ok (.iconst 5, 1) := by decide +kernel
theorem dX3_grant_117 : decode cX3_grant 117 = .ok (.invokevirtual 118, 3) := by decide +kernel
theorem dX3_grant_120 : decode cX3_grant 120 = .ok (.ireturn, 1) := by decide +kernel
theorem dX3_grant_121 : decode cX3_grant 121 = .ok (.aload_n 0, 1) := by decide +kernel
theorem dX3_grant_122 : decode cX3_grant 122 = .ok (.getfield 23, 3) := by decide +kernel
theorem dX3_grant_125 : decode cX3_grant 125 = .ok (.invokevirtual 104, 3) := by decide +kernel
theorem dX3_grant_128 : decode cX3_grant 128 = .ok (.iload_n 1, 1) := by decide +kernel
theorem dX3_grant_129 : decode cX3_grant 129 = .ok (.invokestatic 121, 3) := by decide +kernel
theorem dX3_grant_132 : decode cX3_grant 132 = .ok (.ireturn, 1) := by decide +kernel
theorem dX3_grant_133 : decode cX3_grant 133 = .ok (.bipush (-2), 2) := by decide +kernel
theorem dX3_grant_135 : decode cX3_grant 135 = .ok (.ireturn, 1) := by decide +kernel
theorem dX3_route_0 : decode cX3_route 0 = .ok (.aload_n 0, 1) := by decide +kernel
theorem dX3_route_1 : decode cX3_route 1 = .ok (.getfield 23, 3) := by decide +kernel
theorem dX3_route_4 : decode cX3_route 4 = .ok (.getfield 90, 3) := by decide +kernel
theorem dX3_route_7 : decode cX3_route 7 = .ok (.iload_n 1, 1) := by decide +kernel
theorem dX3_route_8 : decode cX3_route 8 = .ok (.invokevirtual 114, 3) := by decide +kernel
theorem dX3_route_11 : decode cX3_route 11 = .ok (.ifCond .ne 5, 3) := by decide +kernel
theorem dX3_route_14 : decode cX3_route 14 = .ok (.iconst (-1), 1) := by decide +kernel
theorem dX3_route_15 : decode cX3_route 15 = .ok (.ireturn, 1) := by decide +kernel
theorem dX3_route_16 : decode cX3_route 16 = .ok (.iload_n 2, 1) := by decide +kernel
theorem dX3_route_17 : decode cX3_route 17 = .ok (.tableswitch 134 0 4 #[35, 48, 61, 74, 125], 35) := by decide +kernel
theorem dX3_route_52 : decode cX3_route 52 = .ok (.aload_n 0, 1) := by decide +kernel
theorem dX3_route_53 : decode cX3_route 53 = .ok (.getfield 23, 3) := by decide +kernel
theorem dX3_route_56 : decode cX3_route 56 = .ok (.getfield 90, 3) := by decide +kernel
theorem dX3_route_59 : decode cX3_route 59 = .ok (.iload_n 1, 1) := by decide +kernel
theorem dX3_route_60 : decode cX3_route 60 = .ok (.iconst 0, 1) := by decide +kernel
theorem dX3_route_61 : decode cX3_route 61 = .ok (.invokevirtual 118, 3) := by decide +kernel
theorem dX3_route_64 : decode cX3_route 64 = .ok (.ireturn, 1) := by decide +kernel
theorem dX3_route_65 : decode cX3_route 65 = .ok (.aload_n 0, 1) := by decide +kernel
theorem dX3_route_66 : decode cX3_route 66 = .ok (.getfield 23, 3) := by decide +kernel
theorem dX3_route_69 : decode cX3_route 69 = .ok (.getfield 90, 3) := by decide +kernel
theorem dX3_route_72 : decode cX3_route 72 = .ok (.iload_n 1, 1) := by decide +kernel
theorem dX3_route_73 : decode cX3_route 73 = .ok (.iconst 1, 1) := by decide +kernel
theorem dX3_route_74 : decode cX3_route 74 = .ok (.invokevirtual 118, 3) := by decide +kernel
theorem dX3_route_77 : decode cX3_route 77 = .ok (.ireturn, 1) := by decide +kernel
theorem dX3_route_78 : decode cX3_route 78 = .ok (.aload_n 0, 1) := by decide +kernel
theorem dX3_route_79 : decode cX3_route 79 = .ok (.getfield 23, 3) := by decide +kernel
theorem dX3_route_82 : decode cX3_route 82 = .ok (.getfield 90, 3) := by decide +kernel
theorem dX3_route_85 : decode cX3_route 85 = .ok (.iload_n 1, 1) := by decide +kernel
theorem dX3_route_86 : decode cX3_route 86 = .ok (.iconst 3, 1) := by decide +kernel
theorem dX3_route_87 : decode cX3_route 87 = .ok (.invokevirtual 118, 3) := by decide +kernel
theorem dX3_route_90 : decode cX3_route 90 = .ok (.ireturn, 1) := by decide +kernel
theorem dX3_route_91 : decode cX3_route 91 = .ok (.aload_n 0, 1) := by decide +kernel
theorem dX3_route_92 : decode cX3_route 92 = .ok (.getfield 23, 3) := by decide +kernel
theorem dX3_route_95 : decode cX3_route 95 = .ok (.aload_n 0, 1) := by decide +kernel
theorem dX3_route_96 : decode cX3_route 96 = .ok (.getfield 23, 3) := by decide +kernel
theorem dX3_route_99 : decode cX3_route 99 = .ok (.getfield 90, 3) := by decide +kernel
theorem dX3_route_102 : decode cX3_route 102 = .ok (.iload_n 1, 1) := by decide +kernel
theorem dX3_route_103 : decode cX3_route 103 = .ok (.iconst 2, 1) := by decide +kernel
theorem dX3_route_104 : decode cX3_route 104 = .ok (.invokevirtual 118, 3) := by decide +kernel
theorem dX3_route_107 : decode cX3_route 107 = .ok (.aload_n 0, 1) := by decide +kernel
theorem dX3_route_108 : decode cX3_route 108 = .ok (.getfield 23, 3) := by decide +kernel
theorem dX3_route_111 : decode cX3_route 111 = .ok (.getfield 90, 3) := by decide +kernel
theorem dX3_route_114 : decode cX3_route 114 = .ok (.iload_n 1, 1) := by decide +kernel
theorem dX3_route_115 : decode cX3_route 115 = .ok (.iconst 1, 1) := by decide +kernel
theorem dX3_route_116 : decode cX3_route 116 = .ok (.invokevirtual 118, 3) := by decide +kernel
theorem dX3_route_119 : decode cX3_route 119 = .ok (.aload_n 0, 1) := by decide +kernel
theorem dX3_route_120 : decode cX3_route 120 = .ok (.getfield 23, 3) := by decide +kernel
theorem dX3_route_123 : decode cX3_route 123 = .ok (.getfield 90, 3) := by decide +kernel
theorem dX3_route_126 : decode cX3_route 126 = .ok (.iload_n 1, 1) := by decide +kernel
theorem dX3_route_127 : decode cX3_route 127 = .ok (.iconst 3, 1) := by decide +kernel
theorem dX3_route_128 : decode cX3_route 128 = .ok (.invokevirtual 118, 3) := by decide +kernel
theorem dX3_route_131 : decode cX3_route 131 = .ok (.aload_n 0, 1) := by decide +kernel
theorem dX3_route_132 : decode cX3_route 132 = .ok (.getfield 23, 3) := by decide +kernel
theorem dX3_route_135 : decode cX3_route 135 = .ok (.invokevirtual 104, 3) := by decide +kernel
theorem dX3_route_138 : decode cX3_route 138 = .ok (.invokevirtual 124, 3) := by decide +kernel
theorem dX3_route_141 : decode cX3_route 141 = .ok (.ireturn, 1) := by decide +kernel
theorem dX3_route_142 : decode cX3_route 142 = .ok (.aload_n 0, 1) := by decide +kernel
theorem dX3_route_143 : decode cX3_route 143 = .ok (.getfield 23, 3) := by decide +kernel
theorem dX3_route_146 : decode cX3_route 146 = .ok (.iload_n 1, 1) := by decide +kernel
theorem dX3_route_147 : decode cX3_route 147 = .ok (.invokevirtual 128, 3) := by decide +kernel
theorem dX3_route_150 : decode cX3_route 150 = .ok (.ireturn, 1) := by decide +kernel
theorem dX3_route_151 : decode cX3_route 151 = .ok (.bipush (-2), 2) := by decide +kernel
theorem dX3_route_153 : decode cX3_route 153 = .ok (.ireturn, 1) := by decide +kernel
theorem dX3_announce_0 : decode cX3_announce 0 = .ok (.iload_n 1, 1) := by decide +kernel
theorem dX3_announce_1 : decode cX3_announce 1 = .ok (.iload_n 2, 1) := by decide +kernel
theorem dX3_announce_2 : decode cX3_announce 2 = .ok (.invokestatic 131, 3) := by decide +kernel
theorem dX3_announce_5 : decode cX3_announce 5 = .ok (.ifCond .ne 6, 3) := by decide +kernel
theorem dX3_announce_8 : decode cX3_announce 8 = .ok (.bipush (-2), 2) := by decide +kernel
theorem dX3_announce_10 : decode cX3_announce 10 = .ok (.ireturn, 1) := by decide +kernel
theorem dX3_announce_11 : decode cX3_announce 11 = .ok (.iload_n 3, 1) := by decide +kernel
theorem dX3_announce_12 : decode cX3_announce 12 = .ok (.invokestatic 135, 3) := by decide +kernel
theorem dX3_announce_15 : decode cX3_announce 15 = .ok (.ifCond .ne 5, 3) := by decide +kernel
theorem dX3_announce_18 : decode cX3_announce 18 = .ok (.iconst (-1), 1) := by decide +kernel
theorem dX3_announce_19 : decode cX3_announce 19 = .ok (.ireturn, 1) := by decide +kernel
theorem dX3_announce_20 : decode cX3_announce 20 = .ok (.aload_n 0, 1) := by decide +kernel
theorem dX3_announce_21 : decode cX3_announce 21 = .ok (.getfield 23, 3) := by decide +kernel
theorem dX3_announce_24 : decode cX3_announce 24 = .ok (.getfield 90, 3) := by decide +kernel
theorem dX3_announce_27 : decode cX3_announce 27 = .ok (.getfield 83, 3) := by decide +kernel
theorem dX3_announce_30 : decode cX3_announce 30 = .ok (.bipush 6, 2) := by decide +kernel
theorem dX3_announce_32 : decode cX3_announce 32 = .ok (.if_icmp .lt 6, 3) := by decide +kernel
theorem dX3_announce_35 : decode cX3_announce 35 = .ok (.bipush (-4), 2) := by decide +kernel
theorem dX3_announce_37 : decode cX3_announce 37 = .ok (.ireturn, 1) := by decide +kernel
theorem dX3_announce_38 : decode cX3_announce 38 = .ok (.aload_n 0, 1) := by decide +kernel
theorem dX3_announce_39 : decode cX3_announce 39 = .ok (.getfield 23, 3) := by decide +kernel
theorem dX3_announce_42 : decode cX3_announce 42 = .ok (.getfield 90, 3) := by decide +kernel
theorem dX3_announce_45 : decode cX3_announce 45 = .ok (.iload_n 1, 1) := by decide +kernel
theorem dX3_announce_46 : decode cX3_announce 46 = .ok (.iload_n 2, 1) := by decide +kernel
theorem dX3_announce_47 : decode cX3_announce 47 = .ok (.iload_n 3, 1) := by decide +kernel
theorem dX3_announce_48 : decode cX3_announce 48 = .ok (.iconst 0, 1) := by decide +kernel
theorem dX3_announce_49 : decode cX3_announce 49 = .ok (.iconst 0, 1) := by decide +kernel
theorem dX3_announce_50 : decode cX3_announce 50 = .ok (.invokevirtual 53, 3) := by decide +kernel
theorem dX3_announce_53 : decode cX3_announce 53 = .ok (.istore 4, 2) := by decide +kernel
theorem dX3_announce_55 : decode cX3_announce 55 = .ok (.aload_n 0, 1) := by decide +kernel
theorem dX3_announce_56 : decode cX3_announce 56 = .ok (.iconst 1, 1) := by decide +kernel
theorem dX3_announce_57 : decode cX3_announce 57 = .ok (.iload 4, 2) := by decide +kernel
theorem dX3_announce_59 : decode cX3_announce 59 = .ok (.invokevirtual 138, 3) := by decide +kernel
theorem dX3_announce_62 : decode cX3_announce 62 = .ok (.pop, 1) := by decide +kernel
theorem dX3_announce_63 : decode cX3_announce 63 = .ok (.iload 4, 2) := by decide +kernel
theorem dX3_announce_65 : decode cX3_announce 65 = .ok (.ireturn, 1) := by decide +kernel
theorem dX3_withdraw_0 : decode cX3_withdraw 0 = .ok (.aload_n 0, 1) := by decide +kernel
theorem dX3_withdraw_1 : decode cX3_withdraw 1 = .ok (.getfield 23, 3) := by decide +kernel
theorem dX3_withdraw_4 : decode cX3_withdraw 4 = .ok (.getfield 90, 3) := by decide +kernel
theorem dX3_withdraw_7 : decode cX3_withdraw 7 = .ok (.iload_n 1, 1) := by decide +kernel
theorem dX3_withdraw_8 : decode cX3_withdraw 8 = .ok (.invokevirtual 114, 3) := by decide +kernel
theorem dX3_withdraw_11 : decode cX3_withdraw 11 = .ok (.ifCond .ne 5, 3) := by decide +kernel
theorem dX3_withdraw_14 : decode cX3_withdraw 14 = .ok (.iconst (-1), 1) := by decide +kernel
theorem dX3_withdraw_15 : decode cX3_withdraw 15 = .ok (.ireturn, 1) := by decide +kernel
theorem dX3_withdraw_16 : decode cX3_withdraw 16 = .ok (.aload_n 0, 1) := by decide +kernel
theorem dX3_withdraw_17 : decode cX3_withdraw 17 = .ok (.iconst 2, 1) := by decide +kernel
theorem dX3_withdraw_18 : decode cX3_withdraw 18 = .ok (.iload_n 1, 1) := by decide +kernel
theorem dX3_withdraw_19 : decode cX3_withdraw 19 = .ok (.aload_n 0, 1) := by decide +kernel
theorem dX3_withdraw_20 : decode cX3_withdraw 20 = .ok (.getfield 23, 3) := by decide +kernel
theorem dX3_withdraw_23 : decode cX3_withdraw 23 = .ok (.getfield 90, 3) := by decide +kernel
theorem dX3_withdraw_26 : decode cX3_withdraw 26 = .ok (.invokevirtual 141, 3) := by decide +kernel
theorem dX3_withdraw_29 : decode cX3_withdraw 29 = .ok (.aload_n 0, 1) := by decide +kernel
theorem dX3_withdraw_30 : decode cX3_withdraw 30 = .ok (.getfield 23, 3) := by decide +kernel
theorem dX3_withdraw_33 : decode cX3_withdraw 33 = .ok (.getfield 90, 3) := by decide +kernel
theorem dX3_withdraw_36 : decode cX3_withdraw 36 = .ok (.iload_n 1, 1) := by decide +kernel
theorem dX3_withdraw_37 : decode cX3_withdraw 37 = .ok (.invokevirtual 145, 3) := by decide +kernel
theorem dX3_withdraw_40 : decode cX3_withdraw 40 = .ok (.aload_n 0, 1) := by decide +kernel
theorem dX3_withdraw_41 : decode cX3_withdraw 41 = .ok (.getfield 23, 3) := by decide +kernel
theorem dX3_withdraw_44 : decode cX3_withdraw 44 = .ok (.getfield 90, 3) := by decide +kernel
theorem dX3_withdraw_47 : decode cX3_withdraw 47 = .ok (.getfield 83, 3) := by decide +kernel
theorem dX3_withdraw_50 : decode cX3_withdraw 50 = .ok (.ireturn, 1) := by decide +kernel
theorem dX3_allow_0 : decode cX3_allow 0 = .ok (.aload_n 0, 1) := by decide +kernel
theorem dX3_allow_1 : decode cX3_allow 1 = .ok (.getfield 14, 3) := by decide +kernel
theorem dX3_allow_4 : decode cX3_allow 4 = .ok (.iload_n 1, 1) := by decide +kernel
theorem dX3_allow_5 : decode cX3_allow 5 = .ok (.invokevirtual 114, 3) := by decide +kernel
theorem dX3_allow_8 : decode cX3_allow 8 = .ok (.ifCond .ne 9, 3) := by decide +kernel
theorem dX3_allow_11 : decode cX3_allow 11 = .ok (.iload_n 1, 1) := by decide +kernel
theorem dX3_allow_12 : decode cX3_allow 12 = .ok (.bipush 9, 2) := by decide +kernel
theorem dX3_allow_14 : decode cX3_allow 14 = .ok (.if_icmp .ne 10, 3) := by decide +kernel
theorem dX3_allow_17 : decode cX3_allow 17 = .ok (.iload_n 2, 1) := by decide +kernel
theorem dX3_allow_18 : decode cX3_allow 18 = .ok (.invokestatic 135, 3) := by decide +kernel
theorem dX3_allow_21 : decode cX3_allow 21 = .ok (.ifCond .ne 5, 3) := by decide +kernel
theorem dX3_allow_24 : decode cX3_allow 24 = .ok (.iconst (-1), 1) := by decide +kernel
theorem dX3_allow_25 : decode cX3_allow 25 = .ok (.ireturn, 1) := by decide +kernel
theorem dX3_allow_26 : decode cX3_allow 26 = .ok (.iload_n 3, 1) := by decide +kernel
theorem dX3_allow_27 : decode cX3_allow 27 = .ok (.iload 4, 2) := by decide +kernel
theorem dX3_allow_29 : decode cX3_allow 29 = .ok (.invokestatic 131, 3) := by decide +kernel
theorem dX3_allow_32 : decode cX3_allow 32 = .ok (.ifCond .eq 16, 3) := by decide +kernel
theorem dX3_allow_35 : decode cX3_allow 35 = .ok (.iload 5, 2) := by decide +kernel
theorem dX3_allow_37 : decode cX3_allow 37 = .ok (.iload 4, 2) := by decide +kernel
theorem dX3_allow_39 : decode cX3_allow 39 = .ok (.if_icmp .lt 9, 3) := by decide +kernel
theorem dX3_allow_42 : decode cX3_allow 42 = .ok (.iload 5, 2) := by decide +kernel
theorem dX3_allow_44 : decode cX3_allow 44 = .ok (.iconst 5, 1) := by decide +kernel
theorem dX3_allow_45 : decode cX3_allow 45 = .ok (.if_icmp .le 6, 3) := by decide +kernel
theorem dX3_allow_48 : decode cX3_allow 48 = .ok (.bipush (-2), 2) := by decide +kernel
theorem dX3_allow_50 : decode cX3_allow 50 = .ok (.ireturn, 1) := by decide +kernel
theorem dX3_allow_51 : decode cX3_allow 51 = .ok (.aload_n 0, 1) := by decide +kernel
theorem dX3_allow_52 : decode cX3_allow 52 = .ok (.getfield 23, 3) := by decide +kernel
theorem dX3_allow_55 : decode cX3_allow 55 = .ok (.getfield 89, 3) := by decide +kernel
theorem dX3_allow_58 : decode cX3_allow 58 = .ok (.getfield 83, 3) := by decide +kernel
theorem dX3_allow_61 : decode cX3_allow 61 = .ok (.bipush 8, 2) := by decide +kernel
theorem dX3_allow_63 : decode cX3_allow 63 = .ok (.if_icmp .lt 6, 3) := by decide +kernel
theorem dX3_allow_66 : decode cX3_allow 66 = .ok (.bipush (-4), 2) := by decide +kernel
theorem dX3_allow_68 : decode cX3_allow 68 = .ok (.ireturn, 1) := by decide +kernel
theorem dX3_allow_69 : decode cX3_allow 69 = .ok (.aload_n 0, 1) := by decide +kernel
theorem dX3_allow_70 : decode cX3_allow 70 = .ok (.getfield 23, 3) := by decide +kernel
theorem dX3_allow_73 : decode cX3_allow 73 = .ok (.getfield 89, 3) := by decide +kernel
theorem dX3_allow_76 : decode cX3_allow 76 = .ok (.iload_n 3, 1) := by decide +kernel
theorem dX3_allow_77 : decode cX3_allow 77 = .ok (.iload 4, 2) := by decide +kernel
theorem dX3_allow_79 : decode cX3_allow 79 = .ok (.iload_n 2, 1) := by decide +kernel
theorem dX3_allow_80 : decode cX3_allow 80 = .ok (.iload_n 1, 1) := by decide +kernel
theorem dX3_allow_81 : decode cX3_allow 81 = .ok (.iload 5, 2) := by decide +kernel
theorem dX3_allow_83 : decode cX3_allow 83 = .ok (.invokevirtual 53, 3) := by decide +kernel
theorem dX3_allow_86 : decode cX3_allow 86 = .ok (.istore 6, 2) := by decide +kernel
theorem dX3_allow_88 : decode cX3_allow 88 = .ok (.aload_n 0, 1) := by decide +kernel
theorem dX3_allow_89 : decode cX3_allow 89 = .ok (.iconst 3, 1) := by decide +kernel
theorem dX3_allow_90 : decode cX3_allow 90 = .ok (.iload 6, 2) := by decide +kernel
theorem dX3_allow_92 : decode cX3_allow 92 = .ok (.invokevirtual 138, 3) := by decide +kernel
theorem dX3_allow_95 : decode cX3_allow 95 = .ok (.pop, 1) := by decide +kernel
theorem dX3_allow_96 : decode cX3_allow 96 = .ok (.iload 6, 2) := by decide +kernel
theorem dX3_allow_98 : decode cX3_allow 98 = .ok (.ireturn, 1) := by decide +kernel
theorem dX3_tear_0 : decode cX3_tear 0 = .ok (.aload_n 0, 1) := by decide +kernel
theorem dX3_tear_1 : decode cX3_tear 1 = .ok (.getfield 23, 3) := by decide +kernel
theorem dX3_tear_4 : decode cX3_tear 4 = .ok (.getfield 89, 3) := by decide +kernel
theorem dX3_tear_7 : decode cX3_tear 7 = .ok (.iload_n 1, 1) := by decide +kernel
theorem dX3_tear_8 : decode cX3_tear 8 = .ok (.invokevirtual 114, 3) := by decide +kernel
theorem dX3_tear_11 : decode cX3_tear 11 = .ok (.ifCond .ne 5, 3) := by decide +kernel
theorem dX3_tear_14 : decode cX3_tear 14 = .ok (.iconst (-1), 1) := by decide +kernel
theorem dX3_tear_15 : decode cX3_tear 15 = .ok (.ireturn, 1) := by decide +kernel
theorem dX3_tear_16 : decode cX3_tear 16 = .ok (.aload_n 0, 1) := by decide +kernel
theorem dX3_tear_17 : decode cX3_tear 17 = .ok (.iconst 4, 1) := by decide +kernel
theorem dX3_tear_18 : decode cX3_tear 18 = .ok (.iload_n 1, 1) := by decide +kernel
theorem dX3_tear_19 : decode cX3_tear 19 = .ok (.aload_n 0, 1) := by decide +kernel
theorem dX3_tear_20 : decode cX3_tear 20 = .ok (.getfield 23, 3) := by decide +kernel
theorem dX3_tear_23 : decode cX3_tear 23 = .ok (.getfield 89, 3) := by decide +kernel
theorem dX3_tear_26 : decode cX3_tear 26 = .ok (.invokevirtual 141, 3) := by decide +kernel
theorem dX3_tear_29 : decode cX3_tear 29 = .ok (.aload_n 0, 1) := by decide +kernel
theorem dX3_tear_30 : decode cX3_tear 30 = .ok (.getfield 23, 3) := by decide +kernel
theorem dX3_tear_33 : decode cX3_tear 33 = .ok (.getfield 89, 3) := by decide +kernel
theorem dX3_tear_36 : decode cX3_tear 36 = .ok (.iload_n 1, 1) := by decide +kernel
theorem dX3_tear_37 : decode cX3_tear 37 = .ok (.invokevirtual 145, 3) := by decide +kernel
theorem dX3_tear_40 : decode cX3_tear 40 = .ok (.aload_n 0, 1) := by decide +kernel
theorem dX3_tear_41 : decode cX3_tear 41 = .ok (.getfield 23, 3) := by decide +kernel
theorem dX3_tear_44 : decode cX3_tear 44 = .ok (.getfield 89, 3) := by decide +kernel
theorem dX3_tear_47 : decode cX3_tear 47 = .ok (.getfield 83, 3) := by decide +kernel
theorem dX3_tear_50 : decode cX3_tear 50 = .ok (.ireturn, 1) := by decide +kernel
theorem dX3_revoke_0 : decode cX3_revoke 0 = .ok (.iload_n 1, 1) := by decide +kernel
theorem dX3_revoke_1 : decode cX3_revoke 1 = .ok (.ifCond .eq 14, 3) := by decide +kernel
theorem dX3_revoke_4 : decode cX3_revoke 4 = .ok (.aload_n 0, 1) := by decide +kernel
theorem dX3_revoke_5 : decode cX3_revoke 5 = .ok (.getfield 14, 3) := by decide +kernel
theorem dX3_revoke_8 : decode cX3_revoke 8 = .ok (.iload_n 1, 1) := by decide +kernel
theorem dX3_revoke_9 : decode cX3_revoke 9 = .ok (.invokevirtual 114, 3) := by decide +kernel
theorem dX3_revoke_12 : decode cX3_revoke 12 = .ok (.ifCond .ne 5, 3) := by decide +kernel
theorem dX3_revoke_15 : decode cX3_revoke 15 = .ok (.iconst (-1), 1) := by decide +kernel
theorem dX3_revoke_16 : decode cX3_revoke 16 = .ok (.ireturn, 1) := by decide +kernel
theorem dX3_revoke_17 : decode cX3_revoke 17 = .ok (.aload_n 0, 1) := by decide +kernel
theorem dX3_revoke_18 : decode cX3_revoke 18 = .ok (.getfield 23, 3) := by decide +kernel
theorem dX3_revoke_21 : decode cX3_revoke 21 = .ok (.dup, 1) := by decide +kernel
theorem dX3_revoke_22 : decode cX3_revoke 22 = .ok (.getfield 94, 3) := by decide +kernel
theorem dX3_revoke_25 : decode cX3_revoke 25 = .ok (.iconst 1, 1) := by decide +kernel
theorem dX3_revoke_26 : decode cX3_revoke 26 = .ok (.iload_n 1, 1) := by decide +kernel
theorem dX3_revoke_27 : decode cX3_revoke 27 = .ok (.ishl, 1) := by decide +kernel
theorem dX3_revoke_28 : decode cX3_revoke 28 = .ok (.ixor, 1) := by decide +kernel
theorem dX3_revoke_29 : decode cX3_revoke 29 = .ok (.putfield 94, 3) := by decide +kernel
theorem dX3_revoke_32 : decode cX3_revoke 32 = .ok (.aload_n 0, 1) := by decide +kernel
theorem dX3_revoke_33 : decode cX3_revoke 33 = .ok (.iconst 5, 1) := by decide +kernel
theorem dX3_revoke_34 : decode cX3_revoke 34 = .ok (.iload_n 1, 1) := by decide +kernel
theorem dX3_revoke_35 : decode cX3_revoke 35 = .ok (.invokevirtual 138, 3) := by decide +kernel
theorem dX3_revoke_38 : decode cX3_revoke 38 = .ok (.pop, 1) := by decide +kernel
theorem dX3_revoke_39 : decode cX3_revoke 39 = .ok (.aload_n 0, 1) := by decide +kernel
theorem dX3_revoke_40 : decode cX3_revoke 40 = .ok (.getfield 23, 3) := by decide +kernel
theorem dX3_revoke_43 : decode cX3_revoke 43 = .ok (.getfield 94, 3) := by decide +kernel
theorem dX3_revoke_46 : decode cX3_revoke 46 = .ok (.iload_n 1, 1) := by decide +kernel
theorem dX3_revoke_47 : decode cX3_revoke 47 = .ok (.invokestatic 121, 3) := by decide +kernel
theorem dX3_revoke_50 : decode cX3_revoke 50 = .ok (.ireturn, 1) := by decide +kernel
theorem dX3_night_0 : decode cX3_night 0 = .ok (.aload_n 0, 1) := by decide +kernel
theorem dX3_night_1 : decode cX3_night 1 = .ok (.getfield 23, 3) := by decide +kernel
theorem dX3_night_4 : decode cX3_night 4 = .ok (.getfield 91, 3) := by decide +kernel
theorem dX3_night_7 : decode cX3_night 7 = .ok (.bipush 9, 2) := by decide +kernel
theorem dX3_night_9 : decode cX3_night 9 = .ok (.if_icmp .lt 6, 3) := by decide +kernel
theorem dX3_night_12 : decode cX3_night 12 = .ok (.bipush (-3), 2) := by decide +kernel
theorem dX3_night_14 : decode cX3_night 14 = .ok (.ireturn, 1) := by decide +kernel
theorem dX3_night_15 : decode cX3_night 15 = .ok (.aload_n 0, 1) := by decide +kernel
theorem dX3_night_16 : decode cX3_night 16 = .ok (.getfield 23, 3) := by decide +kernel
theorem dX3_night_19 : decode cX3_night 19 = .ok (.dup, 1) := by decide +kernel
theorem dX3_night_20 : decode cX3_night 20 = .ok (.getfield 91, 3) := by decide +kernel
theorem dX3_night_23 : decode cX3_night 23 = .ok (.iconst 1, 1) := by decide +kernel
theorem dX3_night_24 : decode cX3_night 24 = .ok (.iadd, 1) := by decide +kernel
theorem dX3_night_25 : decode cX3_night 25 = .ok (.putfield 91, 3) := by decide +kernel
theorem dX3_night_28 : decode cX3_night 28 = .ok (.aload_n 0, 1) := by decide +kernel
theorem dX3_night_29 : decode cX3_night 29 = .ok (.bipush 6, 2) := by decide +kernel
theorem dX3_night_31 : decode cX3_night 31 = .ok (.iconst 0, 1) := by decide +kernel
theorem dX3_night_32 : decode cX3_night 32 = .ok (.invokevirtual 138, 3) := by decide +kernel
theorem dX3_night_35 : decode cX3_night 35 = .ok (.pop, 1) := by decide +kernel
theorem dX3_night_36 : decode cX3_night 36 = .ok (.aload_n 0, 1) := by decide +kernel
theorem dX3_night_37 : decode cX3_night 37 = .ok (.getfield 23, 3) := by decide +kernel
theorem dX3_night_40 : decode cX3_night 40 = .ok (.getfield 91, 3) := by decide +kernel
theorem dX3_night_43 : decode cX3_night 43 = .ok (.ireturn, 1) := by decide +kernel
theorem dX3_setAside_0 : decode cX3_setAside 0 = .ok (.iload_n 1, 1) := by decide +kernel
theorem dX3_setAside_1 : decode cX3_setAside 1 = .ok (.invokestatic 135, 3) := by decide +kernel
theorem dX3_setAside_4 : decode cX3_setAside 4 = .ok (.ifCond .ne 5, 3) := by decide +kernel
theorem dX3_setAside_7 : decode cX3_setAside 7 = .ok (.iconst (-1), 1) := by decide +kernel
theorem dX3_setAside_8 : decode cX3_setAside 8 = .ok (.ireturn, 1) := by decide +kernel
theorem dX3_setAside_9 : decode cX3_setAside 9 = .ok (.aload_n 0, 1) := by decide +kernel
theorem dX3_setAside_10 : decode cX3_setAside 10 = .ok (.getfield 23, 3) := by decide +kernel
theorem dX3_setAside_13 : decode cX3_setAside 13 = .ok (.dup, 1) := by decide +kernel
theorem dX3_setAside_14 : decode cX3_setAside 14 = .ok (.getfield 101, 3) := by decide +kernel
theorem dX3_setAside_17 : decode cX3_setAside 17 = .ok (.iconst 1, 1) := by decide +kernel
theorem dX3_setAside_18 : decode cX3_setAside 18 = .ok (.iload_n 1, 1) := by decide +kernel
theorem dX3_setAside_19 : decode cX3_setAside 19 = .ok (.ishl, 1) := by decide +kernel
theorem dX3_setAside_20 : decode cX3_setAside 20 = .ok (.ixor, 1) := by decide +kernel
theorem dX3_setAside_21 : decode cX3_setAside 21 = .ok (.putfield 101, 3) := by decide +kernel
theorem dX3_setAside_24 : decode cX3_setAside 24 = .ok (.aload_n 0, 1) := by decide +kernel
theorem dX3_setAside_25 : decode cX3_setAside 25 = .ok (.bipush 7, 2) := by decide +kernel
theorem dX3_setAside_27 : decode cX3_setAside 27 = .ok (.iload_n 1, 1) := by decide +kernel
theorem dX3_setAside_28 : decode cX3_setAside 28 = .ok (.invokevirtual 138, 3) := by decide +kernel
theorem dX3_setAside_31 : decode cX3_setAside 31 = .ok (.pop, 1) := by decide +kernel
theorem dX3_setAside_32 : decode cX3_setAside 32 = .ok (.aload_n 0, 1) := by decide +kernel
theorem dX3_setAside_33 : decode cX3_setAside 33 = .ok (.getfield 23, 3) := by decide +kernel
theorem dX3_setAside_36 : decode cX3_setAside 36 = .ok (.getfield 101, 3) := by decide +kernel
theorem dX3_setAside_39 : decode cX3_setAside 39 = .ok (.iload_n 1, 1) := by decide +kernel
theorem dX3_setAside_40 : decode cX3_setAside 40 = .ok (.invokestatic 121, 3) := by decide +kernel
theorem dX3_setAside_43 : decode cX3_setAside 43 = .ok (.ireturn, 1) := by decide +kernel
theorem dX3_undo_0 : decode cX3_undo 0 = .ok (.aload_n 0, 1) := by decide +kernel
theorem dX3_undo_1 : decode cX3_undo 1 = .ok (.getfield 36, 3) := by decide +kernel
theorem dX3_undo_4 : decode cX3_undo 4 = .ok (.getfield 83, 3) := by decide +kernel
theorem dX3_undo_7 : decode cX3_undo 7 = .ok (.iconst 1, 1) := by decide +kernel
theorem dX3_undo_8 : decode cX3_undo 8 = .ok (.isub, 1) := by decide +kernel
theorem dX3_undo_9 : decode cX3_undo 9 = .ok (.istore_n 1, 1) := by decide +kernel
theorem dX3_undo_10 : decode cX3_undo 10 = .ok (.iload_n 1, 1) := by decide +kernel
theorem dX3_undo_11 : decode cX3_undo 11 = .ok (.ifCond .ge 6, 3) := by decide +kernel
theorem dX3_undo_14 : decode cX3_undo 14 = .ok (.bipush (-3), 2) := by decide +kernel
theorem dX3_undo_16 : decode cX3_undo 16 = .ok (.ireturn, 1) := by decide +kernel
theorem dX3_undo_17 : decode cX3_undo 17 = .ok (.aload_n 0, 1) := by decide +kernel
theorem dX3_undo_18 : decode cX3_undo 18 = .ok (.iload_n 1, 1) := by decide +kernel
theorem dX3_undo_19 : decode cX3_undo 19 = .ok (.invokevirtual 148, 3) := by decide +kernel
theorem dX3_undo_22 : decode cX3_undo 22 = .ok (.aload_n 0, 1) := by decide +kernel
theorem dX3_undo_23 : decode cX3_undo 23 = .ok (.getfield 36, 3) := by decide +kernel
theorem dX3_undo_26 : decode cX3_undo 26 = .ok (.iload_n 1, 1) := by decide +kernel
theorem dX3_undo_27 : decode cX3_undo 27 = .ok (.invokevirtual 145, 3) := by decide +kernel
theorem dX3_undo_30 : decode cX3_undo 30 = .ok (.aload_n 0, 1) := by decide +kernel
theorem dX3_undo_31 : decode cX3_undo 31 = .ok (.getfield 36, 3) := by decide +kernel
theorem dX3_undo_34 : decode cX3_undo 34 = .ok (.getfield 83, 3) := by decide +kernel
theorem dX3_undo_37 : decode cX3_undo 37 = .ok (.ireturn, 1) := by decide +kernel
theorem dX3_state_0 : decode cX3_state 0 = .ok (.iload_n 1, 1) := by decide +kernel
theorem dX3_state_1 : decode cX3_state 1 = .ok (.iload_n 2, 1) := by decide +kernel
theorem dX3_state_2 : decode cX3_state 2 = .ok (.invokestatic 131, 3) := by decide +kernel
theorem dX3_state_5 : decode cX3_state 5 = .ok (.ifCond .ne 6, 3) := by decide +kernel
theorem dX3_state_8 : decode cX3_state 8 = .ok (.bipush (-2), 2) := by decide +kernel
theorem dX3_state_10 : decode cX3_state 10 = .ok (.ireturn, 1) := by decide +kernel
theorem dX3_state_11 : decode cX3_state 11 = .ok (.iload_n 3, 1) := by decide +kernel
theorem dX3_state_12 : decode cX3_state 12 = .ok (.invokestatic 135, 3) := by decide +kernel
theorem dX3_state_15 : decode cX3_state 15 = .ok (.ifCond .ne 5, 3) := by decide +kernel
theorem dX3_state_18 : decode cX3_state 18 = .ok (.iconst (-1), 1) := by decide +kernel
theorem dX3_state_19 : decode cX3_state 19 = .ok (.ireturn, 1) := by decide +kernel
theorem dX3_state_20 : decode cX3_state 20 = .ok (.aload_n 0, 1) := by decide +kernel
theorem dX3_state_21 : decode cX3_state 21 = .ok (.getfield 23, 3) := by decide +kernel
theorem dX3_state_24 : decode cX3_state 24 = .ok (.iload_n 1, 1) := by decide +kernel
theorem dX3_state_25 : decode cX3_state 25 = .ok (.iload_n 2, 1) := by decide +kernel
theorem dX3_state_26 : decode cX3_state 26 = .ok (.invokestatic 151, 3) := by decide +kernel
theorem dX3_state_29 : decode cX3_state 29 = .ok (.iload_n 2, 1) := by decide +kernel
theorem dX3_state_30 : decode cX3_state 30 = .ok (.iload_n 3, 1) := by decide +kernel
theorem dX3_state_31 : decode cX3_state 31 = .ok (.aload_n 0, 1) := by decide +kernel
theorem dX3_state_32 : decode cX3_state 32 = .ok (.getfield 23, 3) := by decide +kernel
theorem dX3_state_35 : decode cX3_state 35 = .ok (.invokevirtual 104, 3) := by decide +kernel
theorem dX3_state_38 : decode cX3_state 38 = .ok (.invokevirtual 124, 3) := by decide +kernel
theorem dX3_state_41 : decode cX3_state 41 = .ok (.ireturn, 1) := by decide +kernel
theorem dX3_goes_0 : decode cX3_goes 0 = .ok (.iload_n 1, 1) := by decide +kernel
theorem dX3_goes_1 : decode cX3_goes 1 = .ok (.invokestatic 154, 3) := by decide +kernel
theorem dX3_goes_4 : decode cX3_goes 4 = .ok (.ifCond .ne 5, 3) := by decide +kernel
theorem dX3_goes_7 : decode cX3_goes 7 = .ok (.iconst (-1), 1) := by decide +kernel
theorem dX3_goes_8 : decode cX3_goes 8 = .ok (.ireturn, 1) := by decide +kernel
theorem dX3_goes_9 : decode cX3_goes 9 = .ok (.iload_n 2, 1) := by decide +kernel
theorem dX3_goes_10 : decode cX3_goes 10 = .ok (.invokestatic 157, 3) := by decide +kernel
theorem dX3_goes_13 : decode cX3_goes 13 = .ok (.ifCond .ne 6, 3) := by decide +kernel
theorem dX3_goes_16 : decode cX3_goes 16 = .ok (.bipush (-2), 2) := by decide +kernel
theorem dX3_goes_18 : decode cX3_goes 18 = .ok (.ireturn, 1) := by decide +kernel
theorem dX3_goes_19 : decode cX3_goes 19 = .ok (.aload_n 0, 1) := by decide +kernel
theorem dX3_goes_20 : decode cX3_goes 20 = .ok (.getfield 23, 3) := by decide +kernel
theorem dX3_goes_23 : decode cX3_goes 23 = .ok (.iload_n 1, 1) := by decide +kernel
theorem dX3_goes_24 : decode cX3_goes 24 = .ok (.iload_n 2, 1) := by decide +kernel
theorem dX3_goes_25 : decode cX3_goes 25 = .ok (.invokevirtual 160, 3) := by decide +kernel
theorem dX3_goes_28 : decode cX3_goes 28 = .ok (.ireturn, 1) := by decide +kernel
theorem dX3_theft_0 : decode cX3_theft 0 = .ok (.iload_n 1, 1) := by decide +kernel
theorem dX3_theft_1 : decode cX3_theft 1 = .ok (.invokestatic 154, 3) := by decide +kernel
theorem dX3_theft_4 : decode cX3_theft 4 = .ok (.ifCond .eq 10, 3) := by decide +kernel
theorem dX3_theft_7 : decode cX3_theft 7 = .ok (.iload_n 2, 1) := by decide +kernel
theorem dX3_theft_8 : decode cX3_theft 8 = .ok (.invokestatic 135, 3) := by decide +kernel
theorem dX3_theft_11 : decode cX3_theft 11 = .ok (.ifCond .ne 5, 3) := by decide +kernel
theorem dX3_theft_14 : decode cX3_theft 14 = .ok (.iconst (-1), 1) := by decide +kernel
theorem dX3_theft_15 : decode cX3_theft 15 = .ok (.ireturn, 1) := by decide +kernel
theorem dX3_theft_16 : decode cX3_theft 16 = .ok (.iload_n 3, 1) := by decide +kernel
theorem dX3_theft_17 : decode cX3_theft 17 = .ok (.invokestatic 157, 3) := by decide +kernel
theorem dX3_theft_20 : decode cX3_theft 20 = .ok (.ifCond .ne 6, 3) := by decide +kernel
theorem dX3_theft_23 : decode cX3_theft 23 = .ok (.bipush (-2), 2) := by decide +kernel
theorem dX3_theft_25 : decode cX3_theft 25 = .ok (.ireturn, 1) := by decide +kernel
theorem dX3_theft_26 : decode cX3_theft 26 = .ok (.iconst 0, 1) := by decide +kernel
theorem dX3_theft_27 : decode cX3_theft 27 = .ok (.istore 4, 2) := by decide +kernel
theorem dX3_theft_29 : decode cX3_theft 29 = .ok (.iload 4, 2) := by decide +kernel
theorem dX3_theft_31 : decode cX3_theft 31 = .ok (.iconst 5, 1) := by decide +kernel
theorem dX3_theft_32 : decode cX3_theft 32 = .ok (.if_icmp .gt 66, 3) := by decide +kernel
theorem dX3_theft_35 : decode cX3_theft 35 = .ok (.aload_n 0, 1) := by decide +kernel
theorem dX3_theft_36 : decode cX3_theft 36 = .ok (.getfield 27, 3) := by decide +kernel
theorem dX3_theft_39 : decode cX3_theft 39 = .ok (.aload_n 0, 1) := by decide +kernel
theorem dX3_theft_40 : decode cX3_theft 40 = .ok (.getfield 23, 3) := by decide +kernel
theorem dX3_theft_43 : decode cX3_theft 43 = .ok (.invokevirtual 163, 3) := by decide +kernel
theorem dX3_theft_46 : decode cX3_theft 46 = .ok (.iload_n 1, 1) := by decide +kernel
theorem dX3_theft_47 : decode cX3_theft 47 = .ok (.iload_n 1, 1) := by decide +kernel
theorem dX3_theft_48 : decode cX3_theft 48 = .ok (.iload 4, 2) := by decide +kernel
theorem dX3_theft_50 : decode cX3_theft 50 = .ok (.invokestatic 166, 3) := by decide +kernel
theorem dX3_theft_53 : decode cX3_theft 53 = .ok (.isub, 1) := by decide +kernel
theorem dX3_theft_54 : decode cX3_theft 54 = .ok (.istore 5, 2) := by decide +kernel
theorem dX3_theft_56 : decode cX3_theft 56 = .ok (.aload_n 0, 1) := by decide +kernel
theorem dX3_theft_57 : decode cX3_theft 57 = .ok (.getfield 27, 3) := by decide +kernel
theorem dX3_theft_60 : decode cX3_theft 60 = .ok (.getfield 90, 3) := by decide +kernel
theorem dX3_theft_63 : decode cX3_theft 63 = .ok (.iload 5, 2) := by decide +kernel
theorem dX3_theft_65 : decode cX3_theft 65 = .ok (.iload 4, 2) := by decide +kernel
theorem dX3_theft_67 : decode cX3_theft 67 = .ok (.iload_n 2, 1) := by decide +kernel
theorem dX3_theft_68 : decode cX3_theft 68 = .ok (.iconst 0, 1) := by decide +kernel
theorem dX3_theft_69 : decode cX3_theft 69 = .ok (.iconst 0, 1) := by decide +kernel
theorem dX3_theft_70 : decode cX3_theft 70 = .ok (.invokevirtual 53, 3) := by decide +kernel
theorem dX3_theft_73 : decode cX3_theft 73 = .ok (.istore 6, 2) := by decide +kernel
theorem dX3_theft_75 : decode cX3_theft 75 = .ok (.aload_n 0, 1) := by decide +kernel
theorem dX3_theft_76 : decode cX3_theft 76 = .ok (.getfield 27, 3) := by decide +kernel
theorem dX3_theft_79 : decode cX3_theft 79 = .ok (.iload_n 1, 1) := by decide +kernel
theorem dX3_theft_80 : decode cX3_theft 80 = .ok (.iload_n 3, 1) := by decide +kernel
theorem dX3_theft_81 : decode cX3_theft 81 = .ok (.invokevirtual 160, 3) := by decide +kernel
theorem dX3_theft_84 : decode cX3_theft 84 = .ok (.iload 6, 2) := by decide +kernel
theorem dX3_theft_86 : decode cX3_theft 86 = .ok (.if_icmp .ne 6, 3) := by decide +kernel
theorem dX3_theft_89 : decode cX3_theft 89 = .ok (.iload 4, 2) := by decide +kernel
theorem dX3_theft_91 : decode cX3_theft 91 = .ok (.ireturn, 1) := by decide +kernel
theorem dX3_theft_92 : decode cX3_theft 92 = .ok (.iinc 4 1, 3) := by decide +kernel
theorem dX3_theft_95 : decode cX3_theft 95 = .ok (.goto (-66), 3) := by decide +kernel
theorem dX3_theft_98 : decode cX3_theft 98 = .ok (.bipush (-9), 2) := by decide +kernel
theorem dX3_theft_100 : decode cX3_theft 100 = .ok (.ireturn, 1) := by decide +kernel
theorem dX3_lost_0 : decode cX3_lost 0 = .ok (.iload_n 1, 1) := by decide +kernel
theorem dX3_lost_1 : decode cX3_lost 1 = .ok (.ifCond .eq 14, 3) := by decide +kernel
theorem dX3_lost_4 : decode cX3_lost 4 = .ok (.aload_n 0, 1) := by decide +kernel
theorem dX3_lost_5 : decode cX3_lost 5 = .ok (.getfield 14, 3) := by decide +kernel
theorem dX3_lost_8 : decode cX3_lost 8 = .ok (.iload_n 1, 1) := by decide +kernel
theorem dX3_lost_9 : decode cX3_lost 9 = .ok (.invokevirtual 114, 3) := by decide +kernel
theorem dX3_lost_12 : decode cX3_lost 12 = .ok (.ifCond .ne 5, 3) := by decide +kernel
theorem dX3_lost_15 : decode cX3_lost 15 = .ok (.iconst (-1), 1) := by decide +kernel
theorem dX3_lost_16 : decode cX3_lost 16 = .ok (.ireturn, 1) := by decide +kernel
theorem dX3_lost_17 : decode cX3_lost 17 = .ok (.aload_n 0, 1) := by decide +kernel
theorem dX3_lost_18 : decode cX3_lost 18 = .ok (.getfield 23, 3) := by decide +kernel
theorem dX3_lost_21 : decode cX3_lost 21 = .ok (.aload_n 0, 1) := by decide +kernel
theorem dX3_lost_22 : decode cX3_lost 22 = .ok (.getfield 23, 3) := by decide +kernel
theorem dX3_lost_25 : decode cX3_lost 25 = .ok (.aload_n 0, 1) := by decide +kernel
theorem dX3_lost_26 : decode cX3_lost 26 = .ok (.getfield 23, 3) := by decide +kernel
theorem dX3_lost_29 : decode cX3_lost 29 = .ok (.getfield 94, 3) := by decide +kernel
theorem dX3_lost_32 : decode cX3_lost 32 = .ok (.iconst 1, 1) := by decide +kernel
theorem dX3_lost_33 : decode cX3_lost 33 = .ok (.iload_n 1, 1) := by decide +kernel
theorem dX3_lost_34 : decode cX3_lost 34 = .ok (.ishl, 1) := by decide +kernel
theorem dX3_lost_35 : decode cX3_lost 35 = .ok (.ior, 1) := by decide +kernel
theorem dX3_lost_36 : decode cX3_lost 36 = .ok (.invokevirtual 97, 3) := by decide +kernel
theorem dX3_lost_39 : decode cX3_lost 39 = .ok (.invokevirtual 169, 3) := by decide +kernel
theorem dX3_lost_42 : decode cX3_lost 42 = .ok (.istore_n 2, 1) := by decide +kernel
theorem dX3_lost_43 : decode cX3_lost 43 = .ok (.aload_n 0, 1) := by decide +kernel
theorem dX3_lost_44 : decode cX3_lost 44 = .ok (.getfield 23, 3) := by decide +kernel
theorem dX3_lost_47 : decode cX3_lost 47 = .ok (.iconst 2, 1) := by decide +kernel
theorem dX3_lost_48 : decode cX3_lost 48 = .ok (.aload_n 0, 1) := by decide +kernel
theorem dX3_lost_49 : decode cX3_lost 49 = .ok (.getfield 23, 3) := by decide +kernel
theorem dX3_lost_52 : decode cX3_lost 52 = .ok (.invokevirtual 104, 3) := by decide +kernel
theorem dX3_lost_55 : decode cX3_lost 55 = .ok (.invokevirtual 107, 3) := by decide +kernel
theorem dX3_lost_58 : decode cX3_lost 58 = .ok (.aload_n 0, 1) := by decide +kernel
theorem dX3_lost_59 : decode cX3_lost 59 = .ok (.getfield 23, 3) := by decide +kernel
theorem dX3_lost_62 : decode cX3_lost 62 = .ok (.iconst 2, 1) := by decide +kernel
theorem dX3_lost_63 : decode cX3_lost 63 = .ok (.iload_n 2, 1) := by decide +kernel
theorem dX3_lost_64 : decode cX3_lost 64 = .ok (.invokevirtual 107, 3) := by decide +kernel
theorem dX3_lost_67 : decode cX3_lost 67 = .ok (.iconst (-1), 1) := by decide +kernel
theorem dX3_lost_68 : decode cX3_lost 68 = .ok (.ixor, 1) := by decide +kernel
theorem dX3_lost_69 : decode cX3_lost 69 = .ok (.iand, 1) := by decide +kernel
theorem dX3_lost_70 : decode cX3_lost 70 = .ok (.ireturn, 1) := by decide +kernel
theorem dX3_judge_0 : decode cX3_judge 0 = .ok (.iload_n 1, 1) := by decide +kernel
theorem dX3_judge_1 : decode cX3_judge 1 = .ok (.iconst 1, 1) := by decide +kernel
theorem dX3_judge_2 : decode cX3_judge 2 = .ok (.if_icmp .lt 23, 3) := by decide +kernel
theorem dX3_judge_5 : decode cX3_judge 5 = .ok (.iload_n 1, 1) := by decide +kernel
theorem dX3_judge_6 : decode cX3_judge 6 = .ok (.iconst 4, 1) := by decide +kernel
theorem dX3_judge_7 : decode cX3_judge 7 = .ok (.if_icmp .gt 18, 3) := by decide +kernel
theorem dX3_judge_10 : decode cX3_judge 10 = .ok (.lload_n 2, 1) := by decide +kernel
theorem dX3_judge_11 : decode cX3_judge 11 = .ok (.lconst 0, 1) := by decide +kernel
theorem dX3_judge_12 : decode cX3_judge 12 = .ok (.lcmp, 1) := by decide +kernel
theorem dX3_judge_13 : decode cX3_judge 13 = .ok (.ifCond .lt 12, 3) := by decide +kernel
theorem dX3_judge_16 : decode cX3_judge 16 = .ok (.aload_n 0, 1) := by decide +kernel
theorem dX3_judge_17 : decode cX3_judge 17 = .ok (.iload_n 1, 1) := by decide +kernel
theorem dX3_judge_18 : decode cX3_judge 18 = .ok (.lload_n 2, 1) := by decide +kernel
theorem dX3_judge_19 : decode cX3_judge 19 = .ok (.invokevirtual 172, 3) := by decide +kernel
theorem dX3_judge_22 : decode cX3_judge 22 = .ok (.ifCond .ne 6, 3) := by decide +kernel
theorem dX3_judge_25 : decode cX3_judge 25 = .ok (.bipush (-2), 2) := by decide +kernel
theorem dX3_judge_27 : decode cX3_judge 27 = .ok (.ireturn, 1) := by decide +kernel
theorem dX3_judge_28 : decode cX3_judge 28 = .ok (.aload_n 0, 1) := by decide +kernel
theorem dX3_judge_29 : decode cX3_judge 29 = .ok (.getfield 27, 3) := by decide +kernel
theorem dX3_judge_32 : decode cX3_judge 32 = .ok (.aload_n 0, 1) := by decide +kernel
theorem dX3_judge_33 : decode cX3_judge 33 = .ok (.getfield 23, 3) := by decide +kernel
theorem dX3_judge_36 : decode cX3_judge 36 = .ok (.invokevirtual 163, 3) := by decide +kernel
theorem dX3_judge_39 : decode cX3_judge 39 = .ok (.iconst 0, 1) := by decide +kernel
theorem dX3_judge_40 : decode cX3_judge 40 = .ok (.istore 4, 2) := by decide +kernel
theorem dX3_judge_42 : decode cX3_judge 42 = .ok (.iload 4, 2) := by decide +kernel
theorem dX3_judge_44 : decode cX3_judge 44 = .ok (.iload_n 1, 1) := by decide +kernel
theorem dX3_judge_45 : decode cX3_judge 45 = .ok (.if_icmp .ge 35, 3) := by decide +kernel
theorem dX3_judge_48 : decode cX3_judge 48 = .ok (.iload 4, 2) := by decide +kernel
theorem dX3_judge_50 : decode cX3_judge 50 = .ok (.iconst 4, 1) := by decide +kernel
theorem dX3_judge_51 : decode cX3_judge 51 = .ok (.if_icmp .ge 29, 3) := by decide +kernel
theorem dX3_judge_54 : decode cX3_judge 54 = .ok (.aload_n 0, 1) := by decide +kernel
theorem dX3_judge_55 : decode cX3_judge 55 = .ok (.getfield 27, 3) := by decide +kernel
theorem dX3_judge_58 : decode cX3_judge 58 = .ok (.aload_n 0, 1) := by decide +kernel
theorem dX3_judge_59 : decode cX3_judge 59 = .ok (.getfield 49, 3) := by decide +kernel
theorem dX3_judge_62 : decode cX3_judge 62 = .ok (.iload 4, 2) := by decide +kernel
theorem dX3_judge_64 : decode cX3_judge 64 = .ok (.iaload, 1) := by decide +kernel
theorem dX3_judge_65 : decode cX3_judge 65 = .ok (.invokevirtual 176, 3) := by decide +kernel
theorem dX3_judge_68 : decode cX3_judge 68 = .ok (.ifCond .ne 6, 3) := by decide +kernel
theorem dX3_judge_71 : decode cX3_judge 71 = .ok (.iload 4, 2) := by decide +kernel
theorem dX3_judge_73 : decode cX3_judge 73 = .ok (.ireturn, 1) := by decide +kernel
theorem dX3_judge_74 : decode cX3_judge 74 = .ok (.iinc 4 1, 3) := by decide +kernel
theorem dX3_judge_77 : decode cX3_judge 77 = .ok (.goto (-35), 3) := by decide +kernel
theorem dX3_judge_80 : decode cX3_judge 80 = .ok (.bipush (-9), 2) := by decide +kernel
theorem dX3_judge_82 : decode cX3_judge 82 = .ok (.ireturn, 1) := by decide +kernel
theorem dX3_see_0 : decode cX3_see 0 = .ok (.iload_n 1, 1) := by decide +kernel
theorem dX3_see_1 : decode cX3_see 1 = .ok (.iload_n 2, 1) := by decide +kernel
theorem dX3_see_2 : decode cX3_see 2 = .ok (.invokestatic 131, 3) := by decide +kernel
theorem dX3_see_5 : decode cX3_see 5 = .ok (.ifCond .eq 14, 3) := by decide +kernel
theorem dX3_see_8 : decode cX3_see 8 = .ok (.iload 4, 2) := by decide +kernel
theorem dX3_see_10 : decode cX3_see 10 = .ok (.ifCond .lt 9, 3) := by decide +kernel
theorem dX3_see_13 : decode cX3_see 13 = .ok (.iload 4, 2) := by decide +kernel
theorem dX3_see_15 : decode cX3_see 15 = .ok (.iconst 2, 1) := by decide +kernel
theorem dX3_see_16 : decode cX3_see 16 = .ok (.if_icmp .le 6, 3) := by decide +kernel
theorem dX3_see_19 : decode cX3_see 19 = .ok (.bipush (-2), 2) := by decide +kernel
theorem dX3_see_21 : decode cX3_see 21 = .ok (.ireturn, 1) := by decide +kernel
theorem dX3_see_22 : decode cX3_see 22 = .ok (.iload_n 3, 1) := by decide +kernel
theorem dX3_see_23 : decode cX3_see 23 = .ok (.invokestatic 135, 3) := by decide +kernel
theorem dX3_see_26 : decode cX3_see 26 = .ok (.ifCond .ne 5, 3) := by decide +kernel
theorem dX3_see_29 : decode cX3_see 29 = .ok (.iconst (-1), 1) := by decide +kernel
theorem dX3_see_30 : decode cX3_see 30 = .ok (.ireturn, 1) := by decide +kernel
theorem dX3_see_31 : decode cX3_see 31 = .ok (.aload_n 0, 1) := by decide +kernel
theorem dX3_see_32 : decode cX3_see 32 = .ok (.getfield 39, 3) := by decide +kernel
theorem dX3_see_35 : decode cX3_see 35 = .ok (.getfield 83, 3) := by decide +kernel
theorem dX3_see_38 : decode cX3_see 38 = .ok (.bipush 6, 2) := by decide +kernel
theorem dX3_see_40 : decode cX3_see 40 = .ok (.if_icmp .lt 6, 3) := by decide +kernel
theorem dX3_see_43 : decode cX3_see 43 = .ok (.bipush (-4), 2) := by decide +kernel
theorem dX3_see_45 : decode cX3_see 45 = .ok (.ireturn, 1) := by decide +kernel
theorem dX3_see_46 : decode cX3_see 46 = .ok (.aload_n 0, 1) := by decide +kernel
theorem dX3_see_47 : decode cX3_see 47 = .ok (.getfield 39, 3) := by decide +kernel
theorem dX3_see_50 : decode cX3_see 50 = .ok (.iload_n 1, 1) := by decide +kernel
theorem dX3_see_51 : decode cX3_see 51 = .ok (.iload_n 2, 1) := by decide +kernel
theorem dX3_see_52 : decode cX3_see 52 = .ok (.iload_n 3, 1) := by decide +kernel
theorem dX3_see_53 : decode cX3_see 53 = .ok (.iload 4, 2) := by decide +kernel
theorem dX3_see_55 : decode cX3_see 55 = .ok (.iconst 0, 1) := by decide +kernel
theorem dX3_see_56 : decode cX3_see 56 = .ok (.invokevirtual 53, 3) := by decide +kernel
theorem dX3_see_59 : decode cX3_see 59 = .ok (.pop, 1) := by decide +kernel
theorem dX3_see_60 : decode cX3_see 60 = .ok (.aload_n 0, 1) := by decide +kernel
theorem dX3_see_61 : decode cX3_see 61 = .ok (.getfield 39, 3) := by decide +kernel
theorem dX3_see_64 : decode cX3_see 64 = .ok (.getfield 83, 3) := by decide +kernel
theorem dX3_see_67 : decode cX3_see 67 = .ok (.ireturn, 1) := by decide +kernel
theorem dX3_unsee_0 : decode cX3_unsee 0 = .ok (.aload_n 0, 1) := by decide +kernel
theorem dX3_unsee_1 : decode cX3_unsee 1 = .ok (.getfield 39, 3) := by decide +kernel
theorem dX3_unsee_4 : decode cX3_unsee 4 = .ok (.getfield 83, 3) := by decide +kernel
theorem dX3_unsee_7 : decode cX3_unsee 7 = .ok (.istore_n 1, 1) := by decide +kernel
theorem dX3_unsee_8 : decode cX3_unsee 8 = .ok (.aload_n 0, 1) := by decide +kernel
theorem dX3_unsee_9 : decode cX3_unsee 9 = .ok (.getfield 39, 3) := by decide +kernel
theorem dX3_unsee_12 : decode cX3_unsee 12 = .ok (.iconst 0, 1) := by decide +kernel
theorem dX3_unsee_13 : decode cX3_unsee 13 = .ok (.putfield 83, 3) := by decide +kernel
theorem dX3_unsee_16 : decode cX3_unsee 16 = .ok (.iload_n 1, 1) := by decide +kernel
theorem dX3_unsee_17 : decode cX3_unsee 17 = .ok (.ireturn, 1) := by decide +kernel
theorem dX3_which_0 : decode cX3_which 0 = .ok (.aload_n 0, 1) := by decide +kernel
theorem dX3_which_1 : decode cX3_which 1 = .ok (.getfield 23, 3) := by decide +kernel
theorem dX3_which_4 : decode cX3_which 4 = .ok (.getfield 89, 3) := by decide +kernel
theorem dX3_which_7 : decode cX3_which 7 = .ok (.iload_n 1, 1) := by decide +kernel
theorem dX3_which_8 : decode cX3_which 8 = .ok (.invokevirtual 114, 3) := by decide +kernel
theorem dX3_which_11 : decode cX3_which 11 = .ok (.ifCond .ne 5, 3) := by decide +kernel
theorem dX3_which_14 : decode cX3_which 14 = .ok (.iconst (-1), 1) := by decide +kernel
theorem dX3_which_15 : decode cX3_which 15 = .ok (.ireturn, 1) := by decide +kernel
theorem dX3_which_16 : decode cX3_which 16 = .ok (.aload_n 0, 1) := by decide +kernel
theorem dX3_which_17 : decode cX3_which 17 = .ok (.getfield 27, 3) := by decide +kernel
theorem dX3_which_20 : decode cX3_which 20 = .ok (.aload_n 0, 1) := by decide +kernel
theorem dX3_which_21 : decode cX3_which 21 = .ok (.getfield 23, 3) := by decide +kernel
theorem dX3_which_24 : decode cX3_which 24 = .ok (.invokevirtual 163, 3) := by decide +kernel
theorem dX3_which_27 : decode cX3_which 27 = .ok (.iconst 0, 1) := by decide +kernel
theorem dX3_which_28 : decode cX3_which 28 = .ok (.istore_n 2, 1) := by decide +kernel
theorem dX3_which_29 : decode cX3_which 29 = .ok (.aload_n 0, 1) := by decide +kernel
theorem dX3_which_30 : decode cX3_which 30 = .ok (.getfield 23, 3) := by decide +kernel
theorem dX3_which_33 : decode cX3_which 33 = .ok (.getfield 89, 3) := by decide +kernel
theorem dX3_which_36 : decode cX3_which 36 = .ok (.iload_n 1, 1) := by decide +kernel
theorem dX3_which_37 : decode cX3_which 37 = .ok (.iconst 1, 1) := by decide +kernel
theorem dX3_which_38 : decode cX3_which 38 = .ok (.invokevirtual 118, 3) := by decide +kernel
theorem dX3_which_41 : decode cX3_which 41 = .ok (.istore_n 3, 1) := by decide +kernel
theorem dX3_which_42 : decode cX3_which 42 = .ok (.iload_n 3, 1) := by decide +kernel
theorem dX3_which_43 : decode cX3_which 43 = .ok (.iconst 5, 1) := by decide +kernel
theorem dX3_which_44 : decode cX3_which 44 = .ok (.if_icmp .gt 42, 3) := by decide +kernel
theorem dX3_which_47 : decode cX3_which 47 = .ok (.aload_n 0, 1) := by decide +kernel
theorem dX3_which_48 : decode cX3_which 48 = .ok (.getfield 27, 3) := by decide +kernel
theorem dX3_which_51 : decode cX3_which 51 = .ok (.getfield 89, 3) := by decide +kernel
theorem dX3_which_54 : decode cX3_which 54 = .ok (.iload_n 1, 1) := by decide +kernel
theorem dX3_which_55 : decode cX3_which 55 = .ok (.iconst 5, 1) := by decide +kernel
theorem dX3_which_56 : decode cX3_which 56 = .ok (.iload_n 3, 1) := by decide +kernel
theorem dX3_which_57 : decode cX3_which 57 = .ok (.invokevirtual 179, 3) := by decide +kernel
theorem dX3_which_60 : decode cX3_which 60 = .ok (.aload_n 0, 1) := by decide +kernel
theorem dX3_which_61 : decode cX3_which 61 = .ok (.getfield 27, 3) := by decide +kernel
theorem dX3_which_64 : decode cX3_which 64 = .ok (.aload_n 0, 1) := by decide +kernel
theorem dX3_which_65 : decode cX3_which 65 = .ok (.getfield 39, 3) := by decide +kernel
theorem dX3_which_68 : decode cX3_which 68 = .ok (.invokevirtual 183, 3) := by decide +kernel
theorem dX3_which_71 : decode cX3_which 71 = .ok (.ifCond .eq 9, 3) := by decide +kernel
theorem dX3_which_74 : decode cX3_which 74 = .ok (.iload_n 2, 1) := by decide +kernel
theorem dX3_which_75 : decode cX3_which 75 = .ok (.iconst 1, 1) := by decide +kernel
theorem dX3_which_76 : decode cX3_which 76 = .ok (.iload_n 3, 1) := by decide +kernel
theorem dX3_which_77 : decode cX3_which 77 = .ok (.ishl, 1) := by decide +kernel
theorem dX3_which_78 : decode cX3_which 78 = .ok (.ior, 1) := by decide +kernel
theorem dX3_which_79 : decode cX3_which 79 = .ok (.istore_n 2, 1) := by decide +kernel
theorem dX3_which_80 : decode cX3_which 80 = .ok (.iinc 3 1, 3) := by decide +kernel
theorem dX3_which_83 : decode cX3_which 83 = .ok (.goto (-41), 3) := by decide +kernel
theorem dX3_which_86 : decode cX3_which 86 = .ok (.iload_n 2, 1) := by decide +kernel
theorem dX3_which_87 : decode cX3_which 87 = .ok (.ireturn, 1) := by decide +kernel
theorem dX3_share_0 : decode cX3_share 0 = .ok (.aload_n 0, 1) := by decide +kernel
theorem dX3_share_1 : decode cX3_share 1 = .ok (.getfield 23, 3) := by decide +kernel
theorem dX3_share_4 : decode cX3_share 4 = .ok (.getfield 89, 3) := by decide +kernel
theorem dX3_share_7 : decode cX3_share 7 = .ok (.iload_n 1, 1) := by decide +kernel
theorem dX3_share_8 : decode cX3_share 8 = .ok (.invokevirtual 114, 3) := by decide +kernel
theorem dX3_share_11 : decode cX3_share 11 = .ok (.ifCond .ne 5, 3) := by decide +kernel
theorem dX3_share_14 : decode cX3_share 14 = .ok (.iconst (-1), 1) := by decide +kernel
theorem dX3_share_15 : decode cX3_share 15 = .ok (.ireturn, 1) := by decide +kernel
theorem dX3_share_16 : decode cX3_share 16 = .ok (.aload_n 0, 1) := by decide +kernel
theorem dX3_share_17 : decode cX3_share 17 = .ok (.getfield 23, 3) := by decide +kernel
theorem dX3_share_20 : decode cX3_share 20 = .ok (.invokevirtual 104, 3) := by decide +kernel
theorem dX3_share_23 : decode cX3_share 23 = .ok (.istore_n 3, 1) := by decide +kernel
theorem dX3_share_24 : decode cX3_share 24 = .ok (.iconst 0, 1) := by decide +kernel
theorem dX3_share_25 : decode cX3_share 25 = .ok (.istore 4, 2) := by decide +kernel
theorem dX3_share_27 : decode cX3_share 27 = .ok (.iconst 0, 1) := by decide +kernel
theorem dX3_share_28 : decode cX3_share 28 = .ok (.istore 5, 2) := by decide +kernel
theorem dX3_share_30 : decode cX3_share 30 = .ok (.iload 5, 2) := by decide +kernel
theorem dX3_share_32 : decode cX3_share 32 = .ok (.aload_n 0, 1) := by decide +kernel
theorem dX3_share_33 : decode cX3_share 33 = .ok (.getfield 23, 3) := by decide +kernel
theorem dX3_share_36 : decode cX3_share 36 = .ok (.getfield 90, 3) := by decide +kernel
theorem dX3_share_39 : decode cX3_share 39 = .ok (.getfield 83, 3) := by decide +kernel
theorem dX3_share_42 : decode cX3_share 42 = .ok (.if_icmp .ge 54, 3) := by decide +kernel
theorem dX3_share_45 : decode cX3_share 45 = .ok (.aload_n 0, 1) := by decide +kernel
theorem dX3_share_46 : decode cX3_share 46 = .ok (.getfield 23, 3) := by decide +kernel
theorem dX3_share_49 : decode cX3_share 49 = .ok (.iload 5, 2) := by decide +kernel
theorem dX3_share_51 : decode cX3_share 51 = .ok (.iload_n 3, 1) := by decide +kernel
theorem dX3_share_52 : decode cX3_share 52 = .ok (.invokevirtual 187, 3) := by decide +kernel
theorem dX3_share_55 : decode cX3_share 55 = .ok (.istore 6, 2) := by decide +kernel
theorem dX3_share_57 : decode cX3_share 57 = .ok (.iload 6, 2) := by decide +kernel
theorem dX3_share_59 : decode cX3_share 59 = .ok (.invokestatic 190, 3) := by decide +kernel
theorem dX3_share_62 : decode cX3_share 62 = .ok (.istore 7, 2) := by decide +kernel
theorem dX3_share_64 : decode cX3_share 64 = .ok (.iload 6, 2) := by decide +kernel
theorem dX3_share_66 : decode cX3_share 66 = .ok (.iload_n 1, 1) := by decide +kernel
theorem dX3_share_67 : decode cX3_share 67 = .ok (.invokestatic 121, 3) := by decide +kernel
theorem dX3_share_70 : decode cX3_share 70 = .ok (.iconst 1, 1) := by decide +kernel
theorem dX3_share_71 : decode cX3_share 71 = .ok (.if_icmp .ne 19, 3) := by decide +kernel
theorem dX3_share_74 : decode cX3_share 74 = .ok (.iload 7, 2) := by decide +kernel
theorem dX3_share_76 : decode cX3_share 76 = .ok (.ifCond .le 14, 3) := by decide +kernel
theorem dX3_share_79 : decode cX3_share 79 = .ok (.iload 4, 2) := by decide +kernel
theorem dX3_share_81 : decode cX3_share 81 = .ok (.sipush 840, 3) := by decide +kernel
theorem dX3_share_84 : decode cX3_share 84 = .ok (.iload 7, 2) := by decide +kernel
theorem dX3_share_86 : decode cX3_share 86 = .ok (.idiv, 1) := by decide +kernel
theorem dX3_share_87 : decode cX3_share 87 = .ok (.iadd, 1) := by decide +kernel
theorem dX3_share_88 : decode cX3_share 88 = .ok (.istore 4, 2) := by decide +kernel
theorem dX3_share_90 : decode cX3_share 90 = .ok (.iinc 5 1, 3) := by decide +kernel
theorem dX3_share_93 : decode cX3_share 93 = .ok (.goto (-63), 3) := by decide +kernel
theorem dX3_share_96 : decode cX3_share 96 = .ok (.iload 4, 2) := by decide +kernel
theorem dX3_share_98 : decode cX3_share 98 = .ok (.sipush 840, 3) := by decide +kernel
theorem dX3_share_101 : decode cX3_share 101 = .ok (.iload_n 2, 1) := by decide +kernel
theorem dX3_share_102 : decode cX3_share 102 = .ok (.invokestatic 195, 3) := by decide +kernel
theorem dX3_share_105 : decode cX3_share 105 = .ok (.ireturn, 1) := by decide +kernel
theorem dX3_chance_0 : decode cX3_chance 0 = .ok (.iload_n 1, 1) := by decide +kernel
theorem dX3_chance_1 : decode cX3_chance 1 = .ok (.ifCond .lt 19, 3) := by decide +kernel
theorem dX3_chance_4 : decode cX3_chance 4 = .ok (.iload_n 1, 1) := by decide +kernel
theorem dX3_chance_5 : decode cX3_chance 5 = .ok (.bipush 6, 2) := by decide +kernel
theorem dX3_chance_7 : decode cX3_chance 7 = .ok (.if_icmp .gt 13, 3) := by decide +kernel
theorem dX3_chance_10 : decode cX3_chance 10 = .ok (.iload_n 2, 1) := by decide +kernel
theorem dX3_chance_11 : decode cX3_chance 11 = .ok (.ifCond .lt 9, 3) := by decide +kernel
theorem dX3_chance_14 : decode cX3_chance 14 = .ok (.iload_n 2, 1) := by decide +kernel
theorem dX3_chance_15 : decode cX3_chance 15 = .ok (.bipush 10, 2) := by decide +kernel
theorem dX3_chance_17 : decode cX3_chance 17 = .ok (.if_icmp .le 6, 3) := by decide +kernel
theorem dX3_chance_20 : decode cX3_chance 20 = .ok (.bipush (-2), 2) := by decide +kernel
theorem dX3_chance_22 : decode cX3_chance 22 = .ok (.ireturn, 1) := by decide +kernel
theorem dX3_chance_23 : decode cX3_chance 23 = .ok (.iconst 0, 1) := by decide +kernel
theorem dX3_chance_24 : decode cX3_chance 24 = .ok (.istore 4, 2) := by decide +kernel
theorem dX3_chance_26 : decode cX3_chance 26 = .ok (.iconst 0, 1) := by decide +kernel
theorem dX3_chance_27 : decode cX3_chance 27 = .ok (.istore 5, 2) := by decide +kernel
theorem dX3_chance_29 : decode cX3_chance 29 = .ok (.iconst 0, 1) := by decide +kernel
theorem dX3_chance_30 : decode cX3_chance 30 = .ok (.istore 6, 2) := by decide +kernel
theorem dX3_chance_32 : decode cX3_chance 32 = .ok (.iload 6, 2) := by decide +kernel
theorem dX3_chance_34 : decode cX3_chance 34 = .ok (.iconst 1, 1) := by decide +kernel
theorem dX3_chance_35 : decode cX3_chance 35 = .ok (.aload_n 0, 1) := by decide +kernel
theorem dX3_chance_36 : decode cX3_chance 36 = .ok (.getfield 14, 3) := by decide +kernel
theorem dX3_chance_39 : decode cX3_chance 39 = .ok (.getfield 83, 3) := by decide +kernel
theorem dX3_chance_42 : decode cX3_chance 42 = .ok (.iconst 1, 1) := by decide +kernel
theorem dX3_chance_43 : decode cX3_chance 43 = .ok (.isub, 1) := by decide +kernel
theorem dX3_chance_44 : decode cX3_chance 44 = .ok (.ishl, 1) := by decide +kernel
theorem dX3_chance_45 : decode cX3_chance 45 = .ok (.if_icmp .ge 73, 3) := by decide +kernel
theorem dX3_chance_48 : decode cX3_chance 48 = .ok (.iload 6, 2) := by decide +kernel
theorem dX3_chance_50 : decode cX3_chance 50 = .ok (.iconst 1, 1) := by decide +kernel
theorem dX3_chance_51 : decode cX3_chance 51 = .ok (.ishl, 1) := by decide +kernel
theorem dX3_chance_52 : decode cX3_chance 52 = .ok (.istore 7, 2) := by decide +kernel
theorem dX3_chance_54 : decode cX3_chance 54 = .ok (.aload_n 0, 1) := by decide +kernel
theorem dX3_chance_55 : decode cX3_chance 55 = .ok (.iload 7, 2) := by decide +kernel
theorem dX3_chance_57 : decode cX3_chance 57 = .ok (.iload_n 2, 1) := by decide +kernel
theorem dX3_chance_58 : decode cX3_chance 58 = .ok (.invokevirtual 199, 3) := by decide +kernel
theorem dX3_chance_61 : decode cX3_chance 61 = .ok (.istore 8, 2) := by decide +kernel
theorem dX3_chance_63 : decode cX3_chance 63 = .ok (.aload_n 0, 1) := by decide +kernel
theorem dX3_chance_64 : decode cX3_chance 64 = .ok (.getfield 23, 3) := by decide +kernel
theorem dX3_chance_67 : decode cX3_chance 67 = .ok (.iconst 2, 1) := by decide +kernel
theorem dX3_chance_68 : decode cX3_chance 68 = .ok (.aload_n 0, 1) := by decide +kernel
theorem dX3_chance_69 : decode cX3_chance 69 = .ok (.getfield 23, 3) := by decide +kernel
theorem dX3_chance_72 : decode cX3_chance 72 = .ok (.aload_n 0, 1) := by decide +kernel
theorem dX3_chance_73 : decode cX3_chance 73 = .ok (.getfield 23, 3) := by decide +kernel
theorem dX3_chance_76 : decode cX3_chance 76 = .ok (.iload 7, 2) := by decide +kernel
theorem dX3_chance_78 : decode cX3_chance 78 = .ok (.invokevirtual 97, 3) := by decide +kernel
theorem dX3_chance_81 : decode cX3_chance 81 = .ok (.invokevirtual 169, 3) := by decide +kernel
theorem dX3_chance_84 : decode cX3_chance 84 = .ok (.invokevirtual 107, 3) := by decide +kernel
theorem dX3_chance_87 : decode cX3_chance 87 = .ok (.istore 9, 2) := by decide +kernel
theorem dX3_chance_89 : decode cX3_chance 89 = .ok (.iload 5, 2) := by decide +kernel
theorem dX3_chance_91 : decode cX3_chance 91 = .ok (.iload 8, 2) := by decide +kernel
theorem dX3_chance_93 : decode cX3_chance 93 = .ok (.iadd, 1) := by decide +kernel
theorem dX3_chance_94 : decode cX3_chance 94 = .ok (.istore 5, 2) := by decide +kernel
theorem dX3_chance_96 : decode cX3_chance 96 = .ok (.iload 9, 2) := by decide +kernel
theorem dX3_chance_98 : decode cX3_chance 98 = .ok (.invokestatic 190, 3) := by decide +kernel
theorem dX3_chance_101 : decode cX3_chance 101 = .ok (.iload_n 1, 1) := by decide +kernel
theorem dX3_chance_102 : decode cX3_chance 102 = .ok (.if_icmp .lt 10, 3) := by decide +kernel
theorem dX3_chance_105 : decode cX3_chance 105 = .ok (.iload 4, 2) := by decide +kernel
theorem dX3_chance_107 : decode cX3_chance 107 = .ok (.iload 8, 2) := by decide +kernel
theorem dX3_chance_109 : decode cX3_chance 109 = .ok (.iadd, 1) := by decide +kernel
theorem dX3_chance_110 : decode cX3_chance 110 = .ok (.istore 4, 2) := by decide +kernel
theorem dX3_chance_112 : decode cX3_chance 112 = .ok (.iinc 6 1, 3) := by decide +kernel
theorem dX3_chance_115 : decode cX3_chance 115 = .ok (.goto (-83), 3) := by decide +kernel
theorem dX3_chance_118 : decode cX3_chance 118 = .ok (.iload 4, 2) := by decide +kernel
theorem dX3_chance_120 : decode cX3_chance 120 = .ok (.iload 5, 2) := by decide +kernel
theorem dX3_chance_122 : decode cX3_chance 122 = .ok (.iload_n 3, 1) := by decide +kernel
theorem dX3_chance_123 : decode cX3_chance 123 = .ok (.invokestatic 195, 3) := by decide +kernel
theorem dX3_chance_126 : decode cX3_chance 126 = .ok (.ireturn, 1) := by decide +kernel
theorem dX3_seed_0 : decode cX3_seed 0 = .ok (.aload_n 0, 1) := by decide +kernel
theorem dX3_seed_1 : decode cX3_seed 1 = .ok (.getfield 202, 3) := by decide +kernel
theorem dX3_seed_4 : decode cX3_seed 4 = .ok (.lstore_n 3, 1) := by decide +kernel
theorem dX3_seed_5 : decode cX3_seed 5 = .ok (.aload_n 0, 1) := by decide +kernel
theorem dX3_seed_6 : decode cX3_seed 6 = .ok (.lload_n 1, 1) := by decide +kernel
theorem dX3_seed_7 : decode cX3_seed 7 = .ok (.putfield 202, 3) := by decide +kernel
theorem dX3_seed_10 : decode cX3_seed 10 = .ok (.lload_n 3, 1) := by decide +kernel
theorem dX3_seed_11 : decode cX3_seed 11 = .ok (.lreturn, 1) := by decide +kernel
theorem dX3_drawn_0 : decode cX3_drawn 0 = .ok (.iload_n 1, 1) := by decide +kernel
theorem dX3_drawn_1 : decode cX3_drawn 1 = .ok (.iconst 1, 1) := by decide +kernel
theorem dX3_drawn_2 : decode cX3_drawn 2 = .ok (.if_icmp .lt 9, 3) := by decide +kernel
theorem dX3_drawn_5 : decode cX3_drawn 5 = .ok (.iload_n 1, 1) := by decide +kernel
theorem dX3_drawn_6 : decode cX3_drawn 6 = .ok (.bipush 40, 2) := by decide +kernel
theorem dX3_drawn_8 : decode cX3_drawn 8 = .ok (.if_icmp .le 6, 3) := by decide +kernel
theorem dX3_drawn_11 : decode cX3_drawn 11 = .ok (.bipush (-2), 2) := by decide +kernel
theorem dX3_drawn_13 : decode cX3_drawn 13 = .ok (.ireturn, 1) := by decide +kernel
theorem dX3_drawn_14 : decode cX3_drawn 14 = .ok (.aload_n 0, 1) := by decide +kernel
theorem dX3_drawn_15 : decode cX3_drawn 15 = .ok (.getfield 23, 3) := by decide +kernel
theorem dX3_drawn_18 : decode cX3_drawn 18 = .ok (.invokevirtual 104, 3) := by decide +kernel
theorem dX3_drawn_21 : decode cX3_drawn 21 = .ok (.istore_n 2, 1) := by decide +kernel
theorem dX3_drawn_22 : decode cX3_drawn 22 = .ok (.iconst 0, 1) := by decide +kernel
theorem dX3_drawn_23 : decode cX3_drawn 23 = .ok (.istore_n 3, 1) := by decide +kernel
theorem dX3_drawn_24 : decode cX3_drawn 24 = .ok (.iconst 0, 1) := by decide +kernel
theorem dX3_drawn_25 : decode cX3_drawn 25 = .ok (.istore 4, 2) := by decide +kernel
theorem dX3_drawn_27 : decode cX3_drawn 27 = .ok (.iload 4, 2) := by decide +kernel
theorem dX3_drawn_29 : decode cX3_drawn 29 = .ok (.iload_n 1, 1) := by decide +kernel
theorem dX3_drawn_30 : decode cX3_drawn 30 = .ok (.if_icmp .ge 93, 3) := by decide +kernel
theorem dX3_drawn_33 : decode cX3_drawn 33 = .ok (.aload_n 0, 1) := by decide +kernel
theorem dX3_drawn_34 : decode cX3_drawn 34 = .ok (.aload_n 0, 1) := by decide +kernel
theorem dX3_drawn_35 : decode cX3_drawn 35 = .ok (.getfield 202, 3) := by decide +kernel
theorem dX3_drawn_38 : decode cX3_drawn 38 = .ok (.ldc2_w 206, 3) := by decide +kernel
theorem dX3_drawn_41 : decode cX3_drawn 41 = .ok (.lmul, 1) := by decide +kernel
theorem dX3_drawn_42 : decode cX3_drawn 42 = .ok (.ldc2_w 208, 3) := by decide +kernel
theorem dX3_drawn_45 : decode cX3_drawn 45 = .ok (.ladd, 1) := by decide +kernel
theorem dX3_drawn_46 : decode cX3_drawn 46 = .ok (.putfield 202, 3) := by decide +kernel
theorem dX3_drawn_49 : decode cX3_drawn 49 = .ok (.aload_n 0, 1) := by decide +kernel
theorem dX3_drawn_50 : decode cX3_drawn 50 = .ok (.getfield 202, 3) := by decide +kernel
theorem dX3_drawn_53 : decode cX3_drawn 53 = .ok (.bipush 33, 2) := by decide +kernel
theorem dX3_drawn_55 : decode cX3_drawn 55 = .ok (.lushr, 1) := by decide +kernel
theorem dX3_drawn_56 : decode cX3_drawn 56 = .ok (.l2i, 1) := by decide +kernel
theorem dX3_drawn_57 : decode cX3_drawn 57 = .ok (.istore 5, 2) := by decide +kernel
theorem dX3_drawn_59 : decode cX3_drawn 59 = .ok (.iload 5, 2) := by decide +kernel
theorem dX3_drawn_61 : decode cX3_drawn 61 = .ok (.bipush 6, 2) := by decide +kernel
theorem dX3_drawn_63 : decode cX3_drawn 63 = .ok (.irem, 1) := by decide +kernel
theorem dX3_drawn_64 : decode cX3_drawn 64 = .ok (.istore 6, 2) := by decide +kernel
theorem dX3_drawn_66 : decode cX3_drawn 66 = .ok (.iload 5, 2) := by decide +kernel
theorem dX3_drawn_68 : decode cX3_drawn 68 = .ok (.bipush 6, 2) := by decide +kernel
theorem dX3_drawn_70 : decode cX3_drawn 70 = .ok (.idiv, 1) := by decide +kernel
theorem dX3_drawn_71 : decode cX3_drawn 71 = .ok (.bipush 32, 2) := by decide +kernel
theorem dX3_drawn_73 : decode cX3_drawn 73 = .ok (.irem, 1) := by decide +kernel
theorem dX3_drawn_74 : decode cX3_drawn 74 = .ok (.istore 7, 2) := by decide +kernel
theorem dX3_drawn_76 : decode cX3_drawn 76 = .ok (.iload 7, 2) := by decide +kernel
theorem dX3_drawn_78 : decode cX3_drawn 78 = .ok (.iload 7, 2) := by decide +kernel
theorem dX3_drawn_80 : decode cX3_drawn 80 = .ok (.iload 6, 2) := by decide +kernel
theorem dX3_drawn_82 : decode cX3_drawn 82 = .ok (.invokestatic 166, 3) := by decide +kernel
theorem dX3_drawn_85 : decode cX3_drawn 85 = .ok (.isub, 1) := by decide +kernel
theorem dX3_drawn_86 : decode cX3_drawn 86 = .ok (.istore 8, 2) := by decide +kernel
theorem dX3_drawn_88 : decode cX3_drawn 88 = .ok (.iload_n 3, 1) := by decide +kernel
theorem dX3_drawn_89 : decode cX3_drawn 89 = .ok (.aload_n 0, 1) := by decide +kernel
theorem dX3_drawn_90 : decode cX3_drawn 90 = .ok (.getfield 23, 3) := by decide +kernel
theorem dX3_drawn_93 : decode cX3_drawn 93 = .ok (.iload 8, 2) := by decide +kernel
theorem dX3_drawn_95 : decode cX3_drawn 95 = .ok (.iload 6, 2) := by decide +kernel
theorem dX3_drawn_97 : decode cX3_drawn 97 = .ok (.invokestatic 151, 3) := by decide +kernel
theorem dX3_drawn_100 : decode cX3_drawn 100 = .ok (.iload 6, 2) := by decide +kernel
theorem dX3_drawn_102 : decode cX3_drawn 102 = .ok (.iload 5, 2) := by decide +kernel
theorem dX3_drawn_104 : decode cX3_drawn 104 = .ok (.sipush 192, 3) := by decide +kernel
theorem dX3_drawn_107 : decode cX3_drawn 107 = .ok (.idiv, 1) := by decide +kernel
theorem dX3_drawn_108 : decode cX3_drawn 108 = .ok (.bipush 6, 2) := by decide +kernel
theorem dX3_drawn_110 : decode cX3_drawn 110 = .ok (.irem, 1) := by decide +kernel
theorem dX3_drawn_111 : decode cX3_drawn 111 = .ok (.iload_n 2, 1) := by decide +kernel
theorem dX3_drawn_112 : decode cX3_drawn 112 = .ok (.invokevirtual 124, 3) := by decide +kernel
theorem dX3_drawn_115 : decode cX3_drawn 115 = .ok (.iadd, 1) := by decide +kernel
theorem dX3_drawn_116 : decode cX3_drawn 116 = .ok (.istore_n 3, 1) := by decide +kernel
theorem dX3_drawn_117 : decode cX3_drawn 117 = .ok (.iinc 4 1, 3) := by decide +kernel
theorem dX3_drawn_120 : decode cX3_drawn 120 = .ok (.goto (-93), 3) := by decide +kernel
theorem dX3_drawn_123 : decode cX3_drawn 123 = .ok (.iload_n 3, 1) := by decide +kernel
theorem dX3_drawn_124 : decode cX3_drawn 124 = .ok (.ireturn, 1) := by decide +kernel
theorem dX3_keep_0 : decode cX3_keep 0 = .ok (.iload_n 1, 1) := by decide +kernel
theorem dX3_keep_1 : decode cX3_keep 1 = .ok (.ifCond .lt 8, 3) := by decide +kernel
theorem dX3_keep_4 : decode cX3_keep 4 = .ok (.iload_n 1, 1) := by decide +kernel
theorem dX3_keep_5 : decode cX3_keep 5 = .ok (.iconst 2, 1) := by decide +kernel
theorem dX3_keep_6 : decode cX3_keep 6 = .ok (.if_icmp .lt 5, 3) := by decide +kernel
theorem dX3_keep_9 : decode cX3_keep 9 = .ok (.iconst (-1), 1) := by decide +kernel
theorem dX3_keep_10 : decode cX3_keep 10 = .ok (.ireturn, 1) := by decide +kernel
theorem dX3_keep_11 : decode cX3_keep 11 = .ok (.aload_n 0, 1) := by decide +kernel
theorem dX3_keep_12 : decode cX3_keep 12 = .ok (.iload_n 1, 1) := by decide +kernel
theorem dX3_keep_13 : decode cX3_keep 13 = .ok (.invokevirtual 210, 3) := by decide +kernel
theorem dX3_keep_16 : decode cX3_keep 16 = .ok (.aload_n 0, 1) := by decide +kernel
theorem dX3_keep_17 : decode cX3_keep 17 = .ok (.getfield 23, 3) := by decide +kernel
theorem dX3_keep_20 : decode cX3_keep 20 = .ok (.invokevirtual 163, 3) := by decide +kernel
theorem dX3_keep_23 : decode cX3_keep 23 = .ok (.aload_n 0, 1) := by decide +kernel
theorem dX3_keep_24 : decode cX3_keep 24 = .ok (.dup, 1) := by decide +kernel
theorem dX3_keep_25 : decode cX3_keep 25 = .ok (.getfield 86, 3) := by decide +kernel
theorem dX3_keep_28 : decode cX3_keep 28 = .ok (.iconst 1, 1) := by decide +kernel
theorem dX3_keep_29 : decode cX3_keep 29 = .ok (.iload_n 1, 1) := by decide +kernel
theorem dX3_keep_30 : decode cX3_keep 30 = .ok (.ishl, 1) := by decide +kernel
theorem dX3_keep_31 : decode cX3_keep 31 = .ok (.ior, 1) := by decide +kernel
theorem dX3_keep_32 : decode cX3_keep 32 = .ok (.putfield 86, 3) := by decide +kernel
theorem dX3_keep_35 : decode cX3_keep 35 = .ok (.aload_n 0, 1) := by decide +kernel
theorem dX3_keep_36 : decode cX3_keep 36 = .ok (.getfield 23, 3) := by decide +kernel
theorem dX3_keep_39 : decode cX3_keep 39 = .ok (.getfield 90, 3) := by decide +kernel
theorem dX3_keep_42 : decode cX3_keep 42 = .ok (.getfield 83, 3) := by decide +kernel
theorem dX3_keep_45 : decode cX3_keep 45 = .ok (.ireturn, 1) := by decide +kernel
theorem dX3_again_0 : decode cX3_again 0 = .ok (.iload_n 1, 1) := by decide +kernel
theorem dX3_again_1 : decode cX3_again 1 = .ok (.ifCond .lt 8, 3) := by decide +kernel
theorem dX3_again_4 : decode cX3_again 4 = .ok (.iload_n 1, 1) := by decide +kernel
theorem dX3_again_5 : decode cX3_again 5 = .ok (.iconst 2, 1) := by decide +kernel
theorem dX3_again_6 : decode cX3_again 6 = .ok (.if_icmp .lt 5, 3) := by decide +kernel
theorem dX3_again_9 : decode cX3_again 9 = .ok (.iconst (-1), 1) := by decide +kernel
theorem dX3_again_10 : decode cX3_again 10 = .ok (.ireturn, 1) := by decide +kernel
theorem dX3_again_11 : decode cX3_again 11 = .ok (.aload_n 0, 1) := by decide +kernel
theorem dX3_again_12 : decode cX3_again 12 = .ok (.getfield 86, 3) := by decide +kernel
theorem dX3_again_15 : decode cX3_again 15 = .ok (.iload_n 1, 1) := by decide +kernel
theorem dX3_again_16 : decode cX3_again 16 = .ok (.invokestatic 121, 3) := by decide +kernel
theorem dX3_again_19 : decode cX3_again 19 = .ok (.ifCond .ne 6, 3) := by decide +kernel
theorem dX3_again_22 : decode cX3_again 22 = .ok (.bipush (-3), 2) := by decide +kernel
theorem dX3_again_24 : decode cX3_again 24 = .ok (.ireturn, 1) := by decide +kernel
theorem dX3_again_25 : decode cX3_again 25 = .ok (.aload_n 0, 1) := by decide +kernel
theorem dX3_again_26 : decode cX3_again 26 = .ok (.getfield 23, 3) := by decide +kernel
theorem dX3_again_29 : decode cX3_again 29 = .ok (.aload_n 0, 1) := by decide +kernel
theorem dX3_again_30 : decode cX3_again 30 = .ok (.iload_n 1, 1) := by decide +kernel
theorem dX3_again_31 : decode cX3_again 31 = .ok (.invokevirtual 210, 3) := by decide +kernel
theorem dX3_again_34 : decode cX3_again 34 = .ok (.invokevirtual 163, 3) := by decide +kernel
theorem dX3_again_37 : decode cX3_again 37 = .ok (.aload_n 0, 1) := by decide +kernel
theorem dX3_again_38 : decode cX3_again 38 = .ok (.getfield 36, 3) := by decide +kernel
theorem dX3_again_41 : decode cX3_again 41 = .ok (.iconst 0, 1) := by decide +kernel
theorem dX3_again_42 : decode cX3_again 42 = .ok (.putfield 83, 3) := by decide +kernel
theorem dX3_again_45 : decode cX3_again 45 = .ok (.aload_n 0, 1) := by decide +kernel
theorem dX3_again_46 : decode cX3_again 46 = .ok (.getfield 23, 3) := by decide +kernel
theorem dX3_again_49 : decode cX3_again 49 = .ok (.getfield 90, 3) := by decide +kernel
theorem dX3_again_52 : decode cX3_again 52 = .ok (.getfield 83, 3) := by decide +kernel
theorem dX3_again_55 : decode cX3_again 55 = .ok (.ireturn, 1) := by decide +kernel
theorem dX3_slotBooks_0 : decode cX3_slotBooks 0 = .ok (.iload_n 1, 1) := by decide +kernel
theorem dX3_slotBooks_1 : decode cX3_slotBooks 1 = .ok (.ifCond .ne 10, 3) := by decide +kernel
theorem dX3_slotBooks_4 : decode cX3_slotBooks 4 = .ok (.aload_n 0, 1) := by decide +kernel
theorem dX3_slotBooks_5 : decode cX3_slotBooks 5 = .ok (.getfield 30, 3) := by decide +kernel
theorem dX3_slotBooks_8 : decode cX3_slotBooks 8 = .ok (.goto 7, 3) := by decide +kernel
theorem dX3_slotBooks_11 : decode cX3_slotBooks 11 = .ok (.aload_n 0, 1) := by decide +kernel
theorem dX3_slotBooks_12 : decode cX3_slotBooks 12 = .ok (.getfield 33, 3) := by decide +kernel
theorem dX3_slotBooks_15 : decode cX3_slotBooks 15 = .ok (.areturn, 1) := by decide +kernel
theorem dX3_remember_0 : decode cX3_remember 0 = .ok (.aload_n 0, 1) := by decide +kernel
theorem dX3_remember_1 : decode cX3_remember 1 = .ok (.getfield 36, 3) := by decide +kernel
theorem dX3_remember_4 : decode cX3_remember 4 = .ok (.getfield 83, 3) := by decide +kernel
theorem dX3_remember_7 : decode cX3_remember 7 = .ok (.bipush 14, 2) := by decide +kernel
theorem dX3_remember_9 : decode cX3_remember 9 = .ok (.if_icmp .lt 11, 3) := by decide +kernel
theorem dX3_remember_12 : decode cX3_remember 12 = .ok (.aload_n 0, 1) := by decide +kernel
theorem dX3_remember_13 : decode cX3_remember 13 = .ok (.getfield 36, 3) := by decide +kernel
theorem dX3_remember_16 : decode cX3_remember 16 = .ok (.iconst 0, 1) := by decide +kernel
theorem dX3_remember_17 : decode cX3_remember 17 = .ok (.invokevirtual 145, 3) := by decide +kernel
theorem dX3_remember_20 : decode cX3_remember 20 = .ok (.aload_n 0, 1) := by decide +kernel
theorem dX3_remember_21 : decode cX3_remember 21 = .ok (.getfield 36, 3) := by decide +kernel
theorem dX3_remember_24 : decode cX3_remember 24 = .ok (.getfield 83, 3) := by decide +kernel
theorem dX3_remember_27 : decode cX3_remember 27 = .ok (.istore_n 3, 1) := by decide +kernel
theorem dX3_remember_28 : decode cX3_remember 28 = .ok (.aload_n 0, 1) := by decide +kernel
theorem dX3_remember_29 : decode cX3_remember 29 = .ok (.getfield 36, 3) := by decide +kernel
theorem dX3_remember_32 : decode cX3_remember 32 = .ok (.iload_n 3, 1) := by decide +kernel
theorem dX3_remember_33 : decode cX3_remember 33 = .ok (.invokevirtual 214, 3) := by decide +kernel
theorem dX3_remember_36 : decode cX3_remember 36 = .ok (.aload_n 0, 1) := by decide +kernel
theorem dX3_remember_37 : decode cX3_remember 37 = .ok (.getfield 36, 3) := by decide +kernel
theorem dX3_remember_40 : decode cX3_remember 40 = .ok (.iload_n 3, 1) := by decide +kernel
theorem dX3_remember_41 : decode cX3_remember 41 = .ok (.iconst 0, 1) := by decide +kernel
theorem dX3_remember_42 : decode cX3_remember 42 = .ok (.iload_n 1, 1) := by decide +kernel
theorem dX3_remember_43 : decode cX3_remember 43 = .ok (.invokevirtual 179, 3) := by decide +kernel
theorem dX3_remember_46 : decode cX3_remember 46 = .ok (.aload_n 0, 1) := by decide +kernel
theorem dX3_remember_47 : decode cX3_remember 47 = .ok (.getfield 36, 3) := by decide +kernel
theorem dX3_remember_50 : decode cX3_remember 50 = .ok (.iload_n 3, 1) := by decide +kernel
theorem dX3_remember_51 : decode cX3_remember 51 = .ok (.iconst 1, 1) := by decide +kernel
theorem dX3_remember_52 : decode cX3_remember 52 = .ok (.iload_n 2, 1) := by decide +kernel
theorem dX3_remember_53 : decode cX3_remember 53 = .ok (.invokevirtual 179, 3) := by decide +kernel
theorem dX3_remember_56 : decode cX3_remember 56 = .ok (.iload_n 3, 1) := by decide +kernel
theorem dX3_remember_57 : decode cX3_remember 57 = .ok (.ireturn, 1) := by decide +kernel
theorem dX3_rememberRow_0 : decode cX3_rememberRow 0 = .ok (.aload_n 0, 1) := by decide +kernel
theorem dX3_rememberRow_1 : decode cX3_rememberRow 1 = .ok (.iload_n 1, 1) := by decide +kernel
theorem dX3_rememberRow_2 : decode cX3_rememberRow 2 = .ok (.iload_n 2, 1) := by decide +kernel
theorem dX3_rememberRow_3 : decode cX3_rememberRow 3 = .ok (.invokevirtual 138, 3) := by decide +kernel
theorem dX3_rememberRow_6 : decode cX3_rememberRow 6 = .ok (.istore 4, 2) := by decide +kernel
theorem dX3_rememberRow_8 : decode cX3_rememberRow 8 = .ok (.iconst 0, 1) := by decide +kernel
theorem dX3_rememberRow_9 : decode cX3_rememberRow 9 = .ok (.istore 5, 2) := by decide +kernel
theorem dX3_rememberRow_11 : decode cX3_rememberRow 11 = .ok (.iload 5, 2) := by decide +kernel
theorem dX3_rememberRow_13 : decode cX3_rememberRow 13 = .ok (.aload_n 3, 1) := by decide +kernel
theorem dX3_rememberRow_14 : decode cX3_rememberRow 14 = .ok (.getfield 217, 3) := by decide +kernel
theorem dX3_rememberRow_17 : decode cX3_rememberRow 17 = .ok (.if_icmp .ge 29, 3) := by decide +kernel
theorem dX3_rememberRow_20 : decode cX3_rememberRow 20 = .ok (.aload_n 0, 1) := by decide +kernel
theorem dX3_rememberRow_21 : decode cX3_rememberRow 21 = .ok (.getfield 36, 3) := by decide +kernel
theorem dX3_rememberRow_24 : decode cX3_rememberRow 24 = .ok (.iload 4, 2) := by decide +kernel
theorem dX3_rememberRow_26 : decode cX3_rememberRow 26 = .ok (.iconst 2, 1) := by decide +kernel
theorem dX3_rememberRow_27 : decode cX3_rememberRow 27 = .ok (.iload 5, 2) := by decide +kernel
theorem dX3_rememberRow_29 : decode cX3_rememberRow 29 = .ok (.iadd, 1) := by decide +kernel
theorem dX3_rememberRow_30 : decode cX3_rememberRow 30 = .ok (.aload_n 3, 1) := by decide +kernel
theorem dX3_rememberRow_31 : decode cX3_rememberRow 31 = .ok (.iload_n 2, 1) := by decide +kernel
theorem dX3_rememberRow_32 : decode cX3_rememberRow 32 = .ok (.iload 5, 2) := by decide +kernel
theorem dX3_rememberRow_34 : decode cX3_rememberRow 34 = .ok (.invokevirtual 118, 3) := by decide +kernel
theorem dX3_rememberRow_37 : decode cX3_rememberRow 37 = .ok (.invokevirtual 179, 3) := by decide +kernel
theorem dX3_rememberRow_40 : decode cX3_rememberRow 40 = .ok (.iinc 5 1, 3) := by decide +kernel
theorem dX3_rememberRow_43 : decode cX3_rememberRow 43 = .ok (.goto (-32), 3) := by decide +kernel
theorem dX3_rememberRow_46 : decode cX3_rememberRow 46 = .ok (.return_, 1) := by decide +kernel
theorem dX3_takeBack_0 : decode cX3_takeBack 0 = .ok (.aload_n 0, 1) := by decide +kernel
theorem dX3_takeBack_1 : decode cX3_takeBack 1 = .ok (.getfield 36, 3) := by decide +kernel
theorem dX3_takeBack_4 : decode cX3_takeBack 4 = .ok (.iload_n 1, 1) := by decide +kernel
theorem dX3_takeBack_5 : decode cX3_takeBack 5 = .ok (.iconst 1, 1) := by decide +kernel
theorem dX3_takeBack_6 : decode cX3_takeBack 6 = .ok (.invokevirtual 118, 3) := by decide +kernel
theorem dX3_takeBack_9 : decode cX3_takeBack 9 = .ok (.istore_n 2, 1) := by decide +kernel
theorem dX3_takeBack_10 : decode cX3_takeBack 10 = .ok (.aload_n 0, 1) := by decide +kernel
theorem dX3_takeBack_11 : decode cX3_takeBack 11 = .ok (.getfield 36, 3) := by decide +kernel
theorem dX3_takeBack_14 : decode cX3_takeBack 14 = .ok (.iload_n 1, 1) := by decide +kernel
theorem dX3_takeBack_15 : decode cX3_takeBack 15 = .ok (.iconst 0, 1) := by decide +kernel
theorem dX3_takeBack_16 : decode cX3_takeBack 16 = .ok (.invokevirtual 118, 3) := by decide +kernel
theorem dX3_takeBack_19 : decode cX3_takeBack 19 = .ok (.tableswitch 153 1 7 #[41, 55, 71, 85, 101, 119, 135], 41) := by decide +kernel
theorem dX3_takeBack_60 : decode cX3_takeBack 60 = .ok (.aload_n 0, 1) := by decide +kernel
theorem dX3_takeBack_61 : decode cX3_takeBack 61 = .ok (.getfield 23, 3) := by decide +kernel
theorem dX3_takeBack_64 : decode cX3_takeBack 64 = .ok (.getfield 90, 3) := by decide +kernel
theorem dX3_takeBack_67 : decode cX3_takeBack 67 = .ok (.iload_n 2, 1) := by decide +kernel
theorem dX3_takeBack_68 : decode cX3_takeBack 68 = .ok (.invokevirtual 145, 3) := by decide +kernel
theorem dX3_takeBack_71 : decode cX3_takeBack 71 = .ok (.goto 101, 3) := by decide +kernel
theorem dX3_takeBack_74 : decode cX3_takeBack 74 = .ok (.aload_n 0, 1) := by decide +kernel
theorem dX3_takeBack_75 : decode cX3_takeBack 75 = .ok (.iload_n 1, 1) := by decide +kernel
theorem dX3_takeBack_76 : decode cX3_takeBack 76 = .ok (.iload_n 2, 1) := by decide +kernel
theorem dX3_takeBack_77 : decode cX3_takeBack 77 = .ok (.aload_n 0, 1) := by decide +kernel
theorem dX3_takeBack_78 : decode cX3_takeBack 78 = .ok (.getfield 23, 3) := by decide +kernel
theorem dX3_takeBack_81 : decode cX3_takeBack 81 = .ok (.getfield 90, 3) := by decide +kernel
theorem dX3_takeBack_84 : decode cX3_takeBack 84 = .ok (.invokevirtual 220, 3) := by decide +kernel
theorem dX3_takeBack_87 : decode cX3_takeBack 87 = .ok (.goto 85, 3) := by decide +kernel
theorem dX3_takeBack_90 : decode cX3_takeBack 90 = .ok (.aload_n 0, 1) := by decide +kernel
theorem dX3_takeBack_91 : decode cX3_takeBack 91 = .ok (.getfield 23, 3) := by decide +kernel
theorem dX3_takeBack_94 : decode cX3_takeBack 94 = .ok (.getfield 89, 3) := by decide +kernel
theorem dX3_takeBack_97 : decode cX3_takeBack 97 = .ok (.iload_n 2, 1) := by decide +kernel
theorem dX3_takeBack_98 : decode cX3_takeBack 98 = .ok (.invokevirtual 145, 3) := by decide +kernel
theorem dX3_takeBack_101 : decode cX3_takeBack 101 = .ok (.goto 71, 3) := by decide +kernel
theorem dX3_takeBack_104 : decode cX3_takeBack 104 = .ok (.aload_n 0, 1) := by decide +kernel
theorem dX3_takeBack_105 : decode cX3_takeBack 105 = .ok (.iload_n 1, 1) := by decide +kernel
theorem dX3_takeBack_106 : decode cX3_takeBack 106 = .ok (.iload_n 2, 1) := by decide +kernel
theorem dX3_takeBack_107 : decode cX3_takeBack 107 = .ok (.aload_n 0, 1) := by decide +kernel
theorem dX3_takeBack_108 : decode cX3_takeBack 108 = .ok (.getfield 23, 3) := by decide +kernel
theorem dX3_takeBack_111 : decode cX3_takeBack 111 = .ok (.getfield 89, 3) := by decide +kernel
theorem dX3_takeBack_114 : decode cX3_takeBack 114 = .ok (.invokevirtual 220, 3) := by decide +kernel
theorem dX3_takeBack_117 : decode cX3_takeBack 117 = .ok (.goto 55, 3) := by decide +kernel
theorem dX3_takeBack_120 : decode cX3_takeBack 120 = .ok (.aload_n 0, 1) := by decide +kernel
theorem dX3_takeBack_121 : decode cX3_takeBack 121 = .ok (.getfield 23, 3) := by decide +kernel
theorem dX3_takeBack_124 : decode cX3_takeBack 124 = .ok (.dup, 1) := by decide +kernel
theorem dX3_takeBack_125 : decode cX3_takeBack 125 = .ok (.getfield 94, 3) := by decide +kernel
theorem dX3_takeBack_128 : decode cX3_takeBack 128 = .ok (.iconst 1, 1) := by decide +kernel
theorem dX3_takeBack_129 : decode cX3_takeBack 129 = .ok (.iload_n 2, 1) := by decide +kernel
theorem dX3_takeBack_130 : decode cX3_takeBack 130 = .ok (.ishl, 1) := by decide +kernel
theorem dX3_takeBack_131 : decode cX3_takeBack 131 = .ok (.ixor, 1) := by decide +kernel
theorem dX3_takeBack_132 : decode cX3_takeBack 132 = .ok (.putfield 94, 3) := by decide +kernel
theorem dX3_takeBack_135 : decode cX3_takeBack 135 = .ok (.goto 37, 3) := by decide +kernel
theorem dX3_takeBack_138 : decode cX3_takeBack 138 = .ok (.aload_n 0, 1) := by decide +kernel
theorem dX3_takeBack_139 : decode cX3_takeBack 139 = .ok (.getfield 23, 3) := by decide +kernel
theorem dX3_takeBack_142 : decode cX3_takeBack 142 = .ok (.dup, 1) := by decide +kernel
theorem dX3_takeBack_143 : decode cX3_takeBack 143 = .ok (.getfield 91, 3) := by decide +kernel
theorem dX3_takeBack_146 : decode cX3_takeBack 146 = .ok (.iconst 1, 1) := by decide +kernel
theorem dX3_takeBack_147 : decode cX3_takeBack 147 = .ok (.isub, 1) := by decide +kernel
theorem dX3_takeBack_148 : decode cX3_takeBack 148 = .ok (.putfield 91, 3) := by decide +kernel
theorem dX3_takeBack_151 : decode cX3_takeBack 151 = .ok (.goto 21, 3) := by decide +kernel
theorem dX3_takeBack_154 : decode cX3_takeBack 154 = .ok (.aload_n 0, 1) := by decide +kernel
theorem dX3_takeBack_155 : decode cX3_takeBack 155 = .ok (.getfield 23, 3) := by decide +kernel
theorem dX3_takeBack_158 : decode cX3_takeBack 158 = .ok (.dup, 1) := by decide +kernel
theorem dX3_takeBack_159 : decode cX3_takeBack 159 = .ok (.getfield 101, 3) := by decide +kernel
theorem dX3_takeBack_162 : decode cX3_takeBack 162 = .ok (.iconst 1, 1) := by decide +kernel
theorem dX3_takeBack_163 : decode cX3_takeBack 163 = .ok (.iload_n 2, 1) := by decide +kernel
theorem dX3_takeBack_164 : decode cX3_takeBack 164 = .ok (.ishl, 1) := by decide +kernel
theorem dX3_takeBack_165 : decode cX3_takeBack 165 = .ok (.ixor, 1) := by decide +kernel
theorem dX3_takeBack_166 : decode cX3_takeBack 166 = .ok (.putfield 101, 3) := by decide +kernel
theorem dX3_takeBack_169 : decode cX3_takeBack 169 = .ok (.goto 3, 3) := by decide +kernel
theorem dX3_takeBack_172 : decode cX3_takeBack 172 = .ok (.return_, 1) := by decide +kernel
theorem dX3_putBack_0 : decode cX3_putBack 0 = .ok (.aload_n 3, 1) := by decide +kernel
theorem dX3_putBack_1 : decode cX3_putBack 1 = .ok (.iload_n 2, 1) := by decide +kernel
theorem dX3_putBack_2 : decode cX3_putBack 2 = .ok (.invokevirtual 214, 3) := by decide +kernel
theorem dX3_putBack_5 : decode cX3_putBack 5 = .ok (.iconst 0, 1) := by decide +kernel
theorem dX3_putBack_6 : decode cX3_putBack 6 = .ok (.istore 4, 2) := by decide +kernel
theorem dX3_putBack_8 : decode cX3_putBack 8 = .ok (.iload 4, 2) := by decide +kernel
theorem dX3_putBack_10 : decode cX3_putBack 10 = .ok (.aload_n 3, 1) := by decide +kernel
theorem dX3_putBack_11 : decode cX3_putBack 11 = .ok (.getfield 217, 3) := by decide +kernel
theorem dX3_putBack_14 : decode cX3_putBack 14 = .ok (.if_icmp .ge 28, 3) := by decide +kernel
theorem dX3_putBack_17 : decode cX3_putBack 17 = .ok (.aload_n 3, 1) := by decide +kernel
theorem dX3_putBack_18 : decode cX3_putBack 18 = .ok (.iload_n 2, 1) := by decide +kernel
theorem dX3_putBack_19 : decode cX3_putBack 19 = .ok (.iload 4, 2) := by decide +kernel
theorem dX3_putBack_21 : decode cX3_putBack 21 = .ok (.aload_n 0, 1) := by decide +kernel
theorem dX3_putBack_22 : decode cX3_putBack 22 = .ok (.getfield 36, 3) := by decide +kernel
theorem dX3_putBack_25 : decode cX3_putBack 25 = .ok (.iload_n 1, 1) := by decide +kernel
theorem dX3_putBack_26 : decode cX3_putBack 26 = .ok (.iconst 2, 1) := by decide +kernel
theorem dX3_putBack_27 : decode cX3_putBack 27 = .ok (.iload 4, 2) := by decide +kernel
theorem dX3_putBack_29 : decode cX3_putBack 29 = .ok (.iadd, 1) := by decide +kernel
theorem dX3_putBack_30 : decode cX3_putBack 30 = .ok (.invokevirtual 118, 3) := by decide +kernel
theorem dX3_putBack_33 : decode cX3_putBack 33 = .ok (.invokevirtual 179, 3) := by decide +kernel
theorem dX3_putBack_36 : decode cX3_putBack 36 = .ok (.iinc 4 1, 3) := by decide +kernel
theorem dX3_putBack_39 : decode cX3_putBack 39 = .ok (.goto (-31), 3) := by decide +kernel
theorem dX3_putBack_42 : decode cX3_putBack 42 = .ok (.return_, 1) := by decide +kernel
theorem dX3_splitDoings_0 : decode cX3_splitDoings 0 = .ok (.lload_n 2, 1) := by decide +kernel
theorem dX3_splitDoings_1 : decode cX3_splitDoings 1 = .ok (.lstore 4, 2) := by decide +kernel
theorem dX3_splitDoings_3 : decode cX3_splitDoings 3 = .ok (.iload_n 1, 1) := by decide +kernel
theorem dX3_splitDoings_4 : decode cX3_splitDoings 4 = .ok (.iconst 4, 1) := by decide +kernel
theorem dX3_splitDoings_5 : decode cX3_splitDoings 5 = .ok (.invokestatic 223, 3) := by decide +kernel
theorem dX3_splitDoings_8 : decode cX3_splitDoings 8 = .ok (.iconst 1, 1) := by decide +kernel
theorem dX3_splitDoings_9 : decode cX3_splitDoings 9 = .ok (.isub, 1) := by decide +kernel
theorem dX3_splitDoings_10 : decode cX3_splitDoings 10 = .ok (.istore 6, 2) := by decide +kernel
theorem dX3_splitDoings_12 : decode cX3_splitDoings 12 = .ok (.iload 6, 2) := by decide +kernel
theorem dX3_splitDoings_14 : decode cX3_splitDoings 14 = .ok (.ifCond .lt 31, 3) := by decide +kernel
theorem dX3_splitDoings_17 : decode cX3_splitDoings 17 = .ok (.aload_n 0, 1) := by decide +kernel
theorem dX3_splitDoings_18 : decode cX3_splitDoings 18 = .ok (.getfield 49, 3) := by decide +kernel
theorem dX3_splitDoings_21 : decode cX3_splitDoings 21 = .ok (.iload 6, 2) := by decide +kernel
theorem dX3_splitDoings_23 : decode cX3_splitDoings 23 = .ok (.lload 4, 2) := by decide +kernel
theorem dX3_splitDoings_25 : decode cX3_splitDoings 25 = .ok (.ldc2_w 228, 3) := by decide +kernel
theorem dX3_splitDoings_28 : decode cX3_splitDoings 28 = .ok (.lrem, 1) := by decide +kernel
theorem dX3_splitDoings_29 : decode cX3_splitDoings 29 = .ok (.l2i, 1) := by decide +kernel
theorem dX3_splitDoings_30 : decode cX3_splitDoings 30 = .ok (.iastore, 1) := by decide +kernel
theorem dX3_splitDoings_31 : decode cX3_splitDoings 31 = .ok (.lload 4, 2) := by decide +kernel
theorem dX3_splitDoings_33 : decode cX3_splitDoings 33 = .ok (.ldc2_w 228, 3) := by decide +kernel
theorem dX3_splitDoings_36 : decode cX3_splitDoings 36 = .ok (.ldiv, 1) := by decide +kernel
theorem dX3_splitDoings_37 : decode cX3_splitDoings 37 = .ok (.lstore 4, 2) := by decide +kernel
theorem dX3_splitDoings_39 : decode cX3_splitDoings 39 = .ok (.iinc 6 (-1), 3) := by decide +kernel
theorem dX3_splitDoings_42 : decode cX3_splitDoings 42 = .ok (.goto (-30), 3) := by decide +kernel
theorem dX3_splitDoings_45 : decode cX3_splitDoings 45 = .ok (.lload 4, 2) := by decide +kernel
theorem dX3_splitDoings_47 : decode cX3_splitDoings 47 = .ok (.lconst 0, 1) := by decide +kernel
theorem dX3_splitDoings_48 : decode cX3_splitDoings 48 = .ok (.lcmp, 1) := by decide +kernel
theorem dX3_splitDoings_49 : decode cX3_splitDoings 49 = .ok (.ifCond .ne 7, 3) := by decide +kernel
theorem dX3_splitDoings_52 : decode cX3_splitDoings 52 = .ok (.iconst 1, 1) := by decide +kernel
theorem dX3_splitDoings_53 : decode cX3_splitDoings 53 = .ok (.goto 4, 3) := by decide +kernel
theorem dX3_splitDoings_56 : decode cX3_splitDoings 56 = .ok (.iconst 0, 1) := by decide +kernel
theorem dX3_splitDoings_57 : decode cX3_splitDoings 57 = .ok (.ireturn, 1) := by decide +kernel
theorem dX3_weightOf_0 : decode cX3_weightOf 0 = .ok (.iconst 1, 1) := by decide +kernel
theorem dX3_weightOf_1 : decode cX3_weightOf 1 = .ok (.istore_n 3, 1) := by decide +kernel
theorem dX3_weightOf_2 : decode cX3_weightOf 2 = .ok (.iconst 1, 1) := by decide +kernel
theorem dX3_weightOf_3 : decode cX3_weightOf 3 = .ok (.istore 4, 2) := by decide +kernel
theorem dX3_weightOf_5 : decode cX3_weightOf 5 = .ok (.iload 4, 2) := by decide +kernel
theorem dX3_weightOf_7 : decode cX3_weightOf 7 = .ok (.aload_n 0, 1) := by decide +kernel
theorem dX3_weightOf_8 : decode cX3_weightOf 8 = .ok (.getfield 14, 3) := by decide +kernel
theorem dX3_weightOf_11 : decode cX3_weightOf 11 = .ok (.getfield 83, 3) := by decide +kernel
theorem dX3_weightOf_14 : decode cX3_weightOf 14 = .ok (.if_icmp .ge 30, 3) := by decide +kernel
theorem dX3_weightOf_17 : decode cX3_weightOf 17 = .ok (.iload_n 3, 1) := by decide +kernel
theorem dX3_weightOf_18 : decode cX3_weightOf 18 = .ok (.iload_n 1, 1) := by decide +kernel
theorem dX3_weightOf_19 : decode cX3_weightOf 19 = .ok (.iload 4, 2) := by decide +kernel
theorem dX3_weightOf_21 : decode cX3_weightOf 21 = .ok (.invokestatic 121, 3) := by decide +kernel
theorem dX3_weightOf_24 : decode cX3_weightOf 24 = .ok (.iconst 1, 1) := by decide +kernel
theorem dX3_weightOf_25 : decode cX3_weightOf 25 = .ok (.if_icmp .ne 7, 3) := by decide +kernel
theorem dX3_weightOf_28 : decode cX3_weightOf 28 = .ok (.iload_n 2, 1) := by decide +kernel
theorem dX3_weightOf_29 : decode cX3_weightOf 29 = .ok (.goto 7, 3) := by decide +kernel
theorem dX3_weightOf_32 : decode cX3_weightOf 32 = .ok (.bipush 10, 2) := by decide +kernel
theorem dX3_weightOf_34 : decode cX3_weightOf 34 = .ok (.iload_n 2, 1) := by decide +kernel
theorem dX3_weightOf_35 : decode cX3_weightOf 35 = .ok (.isub, 1) := by decide +kernel
theorem dX3_weightOf_36 : decode cX3_weightOf 36 = .ok (.imul, 1) := by decide +kernel
theorem dX3_weightOf_37 : decode cX3_weightOf 37 = .ok (.istore_n 3, 1) := by decide +kernel
theorem dX3_weightOf_38 : decode cX3_weightOf 38 = .ok (.iinc 4 1, 3) := by decide +kernel
theorem dX3_weightOf_41 : decode cX3_weightOf 41 = .ok (.goto (-36), 3) := by decide +kernel
theorem dX3_weightOf_44 : decode cX3_weightOf 44 = .ok (.iload_n 3, 1) := by decide +kernel
theorem dX3_weightOf_45 : decode cX3_weightOf 45 = .ok (.ireturn, 1) := by decide +kernel
theorem dX3_fraction_0 : decode cX3_fraction 0 = .ok (.iload_n 1, 1) := by decide +kernel
theorem dX3_fraction_1 : decode cX3_fraction 1 = .ok (.istore_n 3, 1) := by decide +kernel
theorem dX3_fraction_2 : decode cX3_fraction 2 = .ok (.iload_n 0, 1) := by decide +kernel
theorem dX3_fraction_3 : decode cX3_fraction 3 = .ok (.istore 4, 2) := by decide +kernel
theorem dX3_fraction_5 : decode cX3_fraction 5 = .ok (.iconst 0, 1) := by decide +kernel
theorem dX3_fraction_6 : decode cX3_fraction 6 = .ok (.istore 5, 2) := by decide +kernel
theorem dX3_fraction_8 : decode cX3_fraction 8 = .ok (.iload 5, 2) := by decide +kernel
theorem dX3_fraction_10 : decode cX3_fraction 10 = .ok (.bipush 64, 2) := by decide +kernel
theorem dX3_fraction_12 : decode cX3_fraction 12 = .ok (.if_icmp .ge 27, 3) := by decide +kernel
theorem dX3_fraction_15 : decode cX3_fraction 15 = .ok (.iload 4, 2) := by decide +kernel
theorem dX3_fraction_17 : decode cX3_fraction 17 = .ok (.ifCond .eq 22, 3) := by decide +kernel
theorem dX3_fraction_20 : decode cX3_fraction 20 = .ok (.iload_n 3, 1) := by decide +kernel
theorem dX3_fraction_21 : decode cX3_fraction 21 = .ok (.iload 4, 2) := by decide +kernel
theorem dX3_fraction_23 : decode cX3_fraction 23 = .ok (.irem, 1) := by decide +kernel
theorem dX3_fraction_24 : decode cX3_fraction 24 = .ok (.istore 6, 2) := by decide +kernel
theorem dX3_fraction_26 : decode cX3_fraction 26 = .ok (.iload 4, 2) := by decide +kernel
theorem dX3_fraction_28 : decode cX3_fraction 28 = .ok (.istore_n 3, 1) := by decide +kernel
theorem dX3_fraction_29 : decode cX3_fraction 29 = .ok (.iload 6, 2) := by decide +kernel
theorem dX3_fraction_31 : decode cX3_fraction 31 = .ok (.istore 4, 2) := by decide +kernel
theorem dX3_fraction_33 : decode cX3_fraction 33 = .ok (.iinc 5 1, 3) := by decide +kernel
theorem dX3_fraction_36 : decode cX3_fraction 36 = .ok (.goto (-28), 3) := by decide +kernel
theorem dX3_fraction_39 : decode cX3_fraction 39 = .ok (.iload_n 2, 1) := by decide +kernel
theorem dX3_fraction_40 : decode cX3_fraction 40 = .ok (.ifCond .eq 7, 3) := by decide +kernel
theorem dX3_fraction_43 : decode cX3_fraction 43 = .ok (.iload_n 0, 1) := by decide +kernel
theorem dX3_fraction_44 : decode cX3_fraction 44 = .ok (.goto 4, 3) := by decide +kernel
theorem dX3_fraction_47 : decode cX3_fraction 47 = .ok (.iload_n 1, 1) := by decide +kernel
theorem dX3_fraction_48 : decode cX3_fraction 48 = .ok (.istore 5, 2) := by decide +kernel
theorem dX3_fraction_50 : decode cX3_fraction 50 = .ok (.iload_n 3, 1) := by decide +kernel
theorem dX3_fraction_51 : decode cX3_fraction 51 = .ok (.iconst 1, 1) := by decide +kernel
theorem dX3_fraction_52 : decode cX3_fraction 52 = .ok (.if_icmp .le 10, 3) := by decide +kernel
theorem dX3_fraction_55 : decode cX3_fraction 55 = .ok (.iload 5, 2) := by decide +kernel
theorem dX3_fraction_57 : decode cX3_fraction 57 = .ok (.iload_n 3, 1) := by decide +kernel
theorem dX3_fraction_58 : decode cX3_fraction 58 = .ok (.idiv, 1) := by decide +kernel
theorem dX3_fraction_59 : decode cX3_fraction 59 = .ok (.goto 5, 3) := by decide +kernel
theorem dX3_fraction_62 : decode cX3_fraction 62 = .ok (.iload 5, 2) := by decide +kernel
theorem dX3_fraction_64 : decode cX3_fraction 64 = .ok (.ireturn, 1) := by decide +kernel
theorem dX3_bit_0 : decode cX3_bit 0 = .ok (.iload_n 0, 1) := by decide +kernel
theorem dX3_bit_1 : decode cX3_bit 1 = .ok (.iload_n 1, 1) := by decide +kernel
theorem dX3_bit_2 : decode cX3_bit 2 = .ok (.ishr, 1) := by decide +kernel
theorem dX3_bit_3 : decode cX3_bit 3 = .ok (.iconst 1, 1) := by decide +kernel
theorem dX3_bit_4 : decode cX3_bit 4 = .ok (.iand, 1) := by decide +kernel
theorem dX3_bit_5 : decode cX3_bit 5 = .ok (.ireturn, 1) := by decide +kernel
theorem dX3_isPlace_0 : decode cX3_isPlace 0 = .ok (.iload_n 0, 1) := by decide +kernel
theorem dX3_isPlace_1 : decode cX3_isPlace 1 = .ok (.ifCond .lt 13, 3) := by decide +kernel
theorem dX3_isPlace_4 : decode cX3_isPlace 4 = .ok (.iload_n 0, 1) := by decide +kernel
theorem dX3_isPlace_5 : decode cX3_isPlace 5 = .ok (.bipush 32, 2) := by decide +kernel
theorem dX3_isPlace_7 : decode cX3_isPlace 7 = .ok (.if_icmp .ge 7, 3) := by decide +kernel
theorem dX3_isPlace_10 : decode cX3_isPlace 10 = .ok (.iconst 1, 1) := by decide +kernel
theorem dX3_isPlace_11 : decode cX3_isPlace 11 = .ok (.goto 4, 3) := by decide +kernel
theorem dX3_isPlace_14 : decode cX3_isPlace 14 = .ok (.iconst 0, 1) := by decide +kernel
theorem dX3_isPlace_15 : decode cX3_isPlace 15 = .ok (.ireturn, 1) := by decide +kernel
theorem dX3_isOrigin_0 : decode cX3_isOrigin 0 = .ok (.iload_n 0, 1) := by decide +kernel
theorem dX3_isOrigin_1 : decode cX3_isOrigin 1 = .ok (.ifCond .lt 13, 3) := by decide +kernel
theorem dX3_isOrigin_4 : decode cX3_isOrigin 4 = .ok (.iload_n 0, 1) := by decide +kernel
theorem dX3_isOrigin_5 : decode cX3_isOrigin 5 = .ok (.bipush 6, 2) := by decide +kernel
theorem dX3_isOrigin_7 : decode cX3_isOrigin 7 = .ok (.if_icmp .ge 7, 3) := by decide +kernel
theorem dX3_isOrigin_10 : decode cX3_isOrigin 10 = .ok (.iconst 1, 1) := by decide +kernel
theorem dX3_isOrigin_11 : decode cX3_isOrigin 11 = .ok (.goto 4, 3) := by decide +kernel
theorem dX3_isOrigin_14 : decode cX3_isOrigin 14 = .ok (.iconst 0, 1) := by decide +kernel
theorem dX3_isOrigin_15 : decode cX3_isOrigin 15 = .ok (.ireturn, 1) := by decide +kernel
theorem dX3_isLaw_0 : decode cX3_isLaw 0 = .ok (.iload_n 0, 1) := by decide +kernel
theorem dX3_isLaw_1 : decode cX3_isLaw 1 = .ok (.ifCond .lt 12, 3) := by decide +kernel
theorem dX3_isLaw_4 : decode cX3_isLaw 4 = .ok (.iload_n 0, 1) := by decide +kernel
theorem dX3_isLaw_5 : decode cX3_isLaw 5 = .ok (.iconst 4, 1) := by decide +kernel
theorem dX3_isLaw_6 : decode cX3_isLaw 6 = .ok (.if_icmp .ge 7, 3) := by decide +kernel
theorem dX3_isLaw_9 : decode cX3_isLaw 9 = .ok (.iconst 1, 1) := by decide +kernel
theorem dX3_isLaw_10 : decode cX3_isLaw 10 = .ok (.goto 4, 3) := by decide +kernel
theorem dX3_isLaw_13 : decode cX3_isLaw 13 = .ok (.iconst 0, 1) := by decide +kernel
theorem dX3_isLaw_14 : decode cX3_isLaw 14 = .ok (.ireturn, 1) := by decide +kernel
theorem dX3_isRange_0 : decode cX3_isRange 0 = .ok (.iload_n 0, 1) := by decide +kernel
theorem dX3_isRange_1 : decode cX3_isRange 1 = .ok (.invokestatic 154, 3) := by decide +kernel
theorem dX3_isRange_4 : decode cX3_isRange 4 = .ok (.ifCond .eq 24, 3) := by decide +kernel
theorem dX3_isRange_7 : decode cX3_isRange 7 = .ok (.iload_n 1, 1) := by decide +kernel
theorem dX3_isRange_8 : decode cX3_isRange 8 = .ok (.ifCond .lt 20, 3) := by decide +kernel
theorem dX3_isRange_11 : decode cX3_isRange 11 = .ok (.iload_n 1, 1) := by decide +kernel
theorem dX3_isRange_12 : decode cX3_isRange 12 = .ok (.iconst 5, 1) := by decide +kernel
theorem dX3_isRange_13 : decode cX3_isRange 13 = .ok (.if_icmp .gt 15, 3) := by decide +kernel
theorem dX3_isRange_16 : decode cX3_isRange 16 = .ok (.iload_n 0, 1) := by decide +kernel
theorem dX3_isRange_17 : decode cX3_isRange 17 = .ok (.iload_n 1, 1) := by decide +kernel
theorem dX3_isRange_18 : decode cX3_isRange 18 = .ok (.invokestatic 166, 3) := by decide +kernel
theorem dX3_isRange_21 : decode cX3_isRange 21 = .ok (.ifCond .ne 7, 3) := by decide +kernel
theorem dX3_isRange_24 : decode cX3_isRange 24 = .ok (.iconst 1, 1) := by decide +kernel
theorem dX3_isRange_25 : decode cX3_isRange 25 = .ok (.goto 4, 3) := by decide +kernel
theorem dX3_isRange_28 : decode cX3_isRange 28 = .ok (.iconst 0, 1) := by decide +kernel
theorem dX3_isRange_29 : decode cX3_isRange 29 = .ok (.ireturn, 1) := by decide +kernel
theorem dX3_leftBySize_0 : decode cX3_leftBySize 0 = .ok (.iload_n 0, 1) := by decide +kernel
theorem dX3_leftBySize_1 : decode cX3_leftBySize 1 = .ok (.bipush 32, 2) := by decide +kernel
theorem dX3_leftBySize_3 : decode cX3_leftBySize 3 = .ok (.iload_n 1, 1) := by decide +kernel
theorem dX3_leftBySize_4 : decode cX3_leftBySize 4 = .ok (.ishr, 1) := by decide +kernel
theorem dX3_leftBySize_5 : decode cX3_leftBySize 5 = .ok (.iconst 1, 1) := by decide +kernel
theorem dX3_leftBySize_6 : decode cX3_leftBySize 6 = .ok (.isub, 1) := by decide +kernel
theorem dX3_leftBySize_7 : decode cX3_leftBySize 7 = .ok (.iand, 1) := by decide +kernel
theorem dX3_leftBySize_8 : decode cX3_leftBySize 8 = .ok (.ireturn, 1) := by decide +kernel
theorem dX3_coverOf_0 : decode cX3_coverOf 0 = .ok (.iload_n 1, 1) := by decide +kernel
theorem dX3_coverOf_1 : decode cX3_coverOf 1 = .ok (.ifCond .ne 7, 3) := by decide +kernel
theorem dX3_coverOf_4 : decode cX3_coverOf 4 = .ok (.iconst (-1), 1) := by decide +kernel
theorem dX3_coverOf_5 : decode cX3_coverOf 5 = .ok (.goto 13, 3) := by decide +kernel
theorem dX3_coverOf_8 : decode cX3_coverOf 8 = .ok (.iconst 1, 1) := by decide +kernel
theorem dX3_coverOf_9 : decode cX3_coverOf 9 = .ok (.bipush 32, 2) := by decide +kernel
theorem dX3_coverOf_11 : decode cX3_coverOf 11 = .ok (.iload_n 1, 1) := by decide +kernel
theorem dX3_coverOf_12 : decode cX3_coverOf 12 = .ok (.ishr, 1) := by decide +kernel
theorem dX3_coverOf_13 : decode cX3_coverOf 13 = .ok (.ishl, 1) := by decide +kernel
theorem dX3_coverOf_14 : decode cX3_coverOf 14 = .ok (.iconst 1, 1) := by decide +kernel
theorem dX3_coverOf_15 : decode cX3_coverOf 15 = .ok (.isub, 1) := by decide +kernel
theorem dX3_coverOf_16 : decode cX3_coverOf 16 = .ok (.iload_n 0, 1) := by decide +kernel
theorem dX3_coverOf_17 : decode cX3_coverOf 17 = .ok (.ishl, 1) := by decide +kernel
theorem dX3_coverOf_18 : decode cX3_coverOf 18 = .ok (.ireturn, 1) := by decide +kernel
theorem dX3_isWithin_0 : decode cX3_isWithin 0 = .ok (.iload_n 0, 1) := by decide +kernel
theorem dX3_isWithin_1 : decode cX3_isWithin 1 = .ok (.iload_n 1, 1) := by decide +kernel
theorem dX3_isWithin_2 : decode cX3_isWithin 2 = .ok (.iconst (-1), 1) := by decide +kernel
theorem dX3_isWithin_3 : decode cX3_isWithin 3 = .ok (.ixor, 1) := by decide +kernel
theorem dX3_isWithin_4 : decode cX3_isWithin 4 = .ok (.iand, 1) := by decide +kernel
theorem dX3_isWithin_5 : decode cX3_isWithin 5 = .ok (.ifCond .ne 7, 3) := by decide +kernel
theorem dX3_isWithin_8 : decode cX3_isWithin 8 = .ok (.iconst 1, 1) := by decide +kernel
theorem dX3_isWithin_9 : decode cX3_isWithin 9 = .ok (.goto 4, 3) := by decide +kernel
theorem dX3_isWithin_12 : decode cX3_isWithin 12 = .ok (.iconst 0, 1) := by decide +kernel
theorem dX3_isWithin_13 : decode cX3_isWithin 13 = .ok (.ireturn, 1) := by decide +kernel
theorem dX4_init_0 : decode cX4_init 0 = .ok (.aload_n 0, 1) := by decide +kernel
theorem dX4_init_1 : decode cX4_init 1 = .ok (.invokespecial 1, 3) := by decide +kernel
theorem dX4_init_4 : decode cX4_init 4 = .ok (.aload_n 0, 1) := by decide +kernel
theorem dX4_init_5 : decode cX4_init 5 = .ok (.bipush 99, 2) := by decide +kernel
theorem dX4_init_7 : decode cX4_init 7 = .ok (.newarray .int, 2) := by decide +kernel
theorem dX4_init_9 : decode cX4_init 9 = .ok (.putfield 7, 3) := by decide +kernel
theorem dX4_init_12 : decode cX4_init 12 = .ok (.aload_n 0, 1) := by decide +kernel
theorem dX4_init_13 : decode cX4_init 13 = .ok (.bipush 24, 2) := by decide +kernel
theorem dX4_init_15 : decode cX4_init 15 = .ok (.newarray .int, 2) := by decide +kernel
theorem dX4_init_17 : decode cX4_init 17 = .ok (.putfield 13, 3) := by decide +kernel
theorem dX4_init_20 : decode cX4_init 20 = .ok (.aload_n 0, 1) := by decide +kernel
theorem dX4_init_21 : decode cX4_init 21 = .ok (.bipush 66, 2) := by decide +kernel
theorem dX4_init_23 : decode cX4_init 23 = .ok (.newarray .int, 2) := by decide +kernel
theorem dX4_init_25 : decode cX4_init 25 = .ok (.putfield 16, 3) := by decide +kernel
theorem dX4_init_28 : decode cX4_init 28 = .ok (.aload_n 0, 1) := by decide +kernel
theorem dX4_init_29 : decode cX4_init 29 = .ok (.bipush 66, 2) := by decide +kernel
theorem dX4_init_31 : decode cX4_init 31 = .ok (.newarray .int, 2) := by decide +kernel
theorem dX4_init_33 : decode cX4_init 33 = .ok (.putfield 19, 3) := by decide +kernel
theorem dX4_init_36 : decode cX4_init 36 = .ok (.aload_n 0, 1) := by decide +kernel
theorem dX4_init_37 : decode cX4_init 37 = .ok (.sipush 924, 3) := by decide +kernel
theorem dX4_init_40 : decode cX4_init 40 = .ok (.newarray .int, 2) := by decide +kernel
theorem dX4_init_42 : decode cX4_init 42 = .ok (.putfield 22, 3) := by decide +kernel
theorem dX4_init_45 : decode cX4_init 45 = .ok (.aload_n 0, 1) := by decide +kernel
theorem dX4_init_46 : decode cX4_init 46 = .ok (.sipush 132, 3) := by decide +kernel
theorem dX4_init_49 : decode cX4_init 49 = .ok (.newarray .int, 2) := by decide +kernel
theorem dX4_init_51 : decode cX4_init 51 = .ok (.putfield 25, 3) := by decide +kernel
theorem dX4_init_54 : decode cX4_init 54 = .ok (.aload_n 0, 1) := by decide +kernel
theorem dX4_init_55 : decode cX4_init 55 = .ok (.iconst 2, 1) := by decide +kernel
theorem dX4_init_56 : decode cX4_init 56 = .ok (.newarray .boolean, 2) := by decide +kernel
theorem dX4_init_58 : decode cX4_init 58 = .ok (.putfield 28, 3) := by decide +kernel
theorem dX4_init_61 : decode cX4_init 61 = .ok (.aload_n 0, 1) := by decide +kernel
theorem dX4_init_62 : decode cX4_init 62 = .ok (.bipush 24, 2) := by decide +kernel
theorem dX4_init_64 : decode cX4_init 64 = .ok (.newarray .int, 2) := by decide +kernel
theorem dX4_init_66 : decode cX4_init 66 = .ok (.putfield 32, 3) := by decide +kernel
theorem dX4_init_69 : decode cX4_init 69 = .ok (.aload_n 0, 1) := by decide +kernel
theorem dX4_init_70 : decode cX4_init 70 = .ok (.sipush 256, 3) := by decide +kernel
theorem dX4_init_73 : decode cX4_init 73 = .ok (.newarray .int, 2) := by decide +kernel
theorem dX4_init_75 : decode cX4_init 75 = .ok (.putfield 35, 3) := by decide +kernel
theorem dX4_init_78 : decode cX4_init 78 = .ok (.aload_n 0, 1) := by decide +kernel
theorem dX4_init_79 : decode cX4_init 79 = .ok (.bipush 24, 2) := by decide +kernel
theorem dX4_init_81 : decode cX4_init 81 = .ok (.newarray .int, 2) := by decide +kernel
theorem dX4_init_83 : decode cX4_init 83 = .ok (.putfield 38, 3) := by decide +kernel
theorem dX4_init_86 : decode cX4_init 86 = .ok (.aload_n 0, 1) := by decide +kernel
theorem dX4_init_87 : decode cX4_init 87 = .ok (.bipush 66, 2) := by decide +kernel
theorem dX4_init_89 : decode cX4_init 89 = .ok (.newarray .int, 2) := by decide +kernel
theorem dX4_init_91 : decode cX4_init 91 = .ok (.putfield 41, 3) := by decide +kernel
theorem dX4_init_94 : decode cX4_init 94 = .ok (.aload_n 0, 1) := by decide +kernel
theorem dX4_init_95 : decode cX4_init 95 = .ok (.iconst 1, 1) := by decide +kernel
theorem dX4_init_96 : decode cX4_init 96 = .ok (.putfield 44, 3) := by decide +kernel
theorem dX4_init_99 : decode cX4_init 99 = .ok (.return_, 1) := by decide +kernel
theorem dX4_copy_0 : decode cX4_copy 0 = .ok (.iconst 0, 1) := by decide +kernel
theorem dX4_copy_1 : decode cX4_copy 1 = .ok (.istore_n 2, 1) := by decide +kernel
theorem dX4_copy_2 : decode cX4_copy 2 = .ok (.iload_n 2, 1) := by decide +kernel
theorem dX4_copy_3 : decode cX4_copy 3 = .ok (.bipush 66, 2) := by decide +kernel
theorem dX4_copy_5 : decode cX4_copy 5 = .ok (.if_icmp .ge 15, 3) := by decide +kernel
theorem dX4_copy_8 : decode cX4_copy 8 = .ok (.aload_n 1, 1) := by decide +kernel
theorem dX4_copy_9 : decode cX4_copy 9 = .ok (.iload_n 2, 1) := by decide +kernel
theorem dX4_copy_10 : decode cX4_copy 10 = .ok (.aload_n 0, 1) := by decide +kernel
theorem dX4_copy_11 : decode cX4_copy 11 = .ok (.iload_n 2, 1) := by decide +kernel
theorem dX4_copy_12 : decode cX4_copy 12 = .ok (.iaload, 1) := by decide +kernel
theorem dX4_copy_13 : decode cX4_copy 13 = .ok (.iastore, 1) := by decide +kernel
theorem dX4_copy_14 : decode cX4_copy 14 = .ok (.iinc 2 1, 3) := by decide +kernel
theorem dX4_copy_17 : decode cX4_copy 17 = .ok (.goto (-15), 3) := by decide +kernel
theorem dX4_copy_20 : decode cX4_copy 20 = .ok (.return_, 1) := by decide +kernel
theorem dX4_in_0 : decode cX4_in 0 = .ok (.lload_n 0, 1) := by decide +kernel
theorem dX4_in_1 : decode cX4_in 1 = .ok (.lload_n 2, 1) := by decide +kernel
theorem dX4_in_2 : decode cX4_in 2 = .ok (.lcmp, 1) := by decide +kernel
theorem dX4_in_3 : decode cX4_in 3 = .ok (.ifCond .lt 14, 3) := by decide +kernel
theorem dX4_in_6 : decode cX4_in 6 = .ok (.lload_n 0, 1) := by decide +kernel
theorem dX4_in_7 : decode cX4_in 7 = .ok (.lload 4, 2) := by decide +kernel
theorem dX4_in_9 : decode cX4_in 9 = .ok (.lcmp, 1) := by decide +kernel
theorem dX4_in_10 : decode cX4_in 10 = .ok (.ifCond .gt 7, 3) := by decide +kernel
theorem dX4_in_13 : decode cX4_in 13 = .ok (.iconst 1, 1) := by decide +kernel
theorem dX4_in_14 : decode cX4_in 14 = .ok (.goto 4, 3) := by decide +kernel
theorem dX4_in_17 : decode cX4_in 17 = .ok (.iconst 0, 1) := by decide +kernel
theorem dX4_in_18 : decode cX4_in 18 = .ok (.ireturn, 1) := by decide +kernel
theorem dX4_has_0 : decode cX4_has 0 = .ok (.iload_n 0, 1) := by decide +kernel
theorem dX4_has_1 : decode cX4_has 1 = .ok (.iload_n 1, 1) := by decide +kernel
theorem dX4_has_2 : decode cX4_has 2 = .ok (.ishr, 1) := by decide +kernel
theorem dX4_has_3 : decode cX4_has 3 = .ok (.iconst 1, 1) := by decide +kernel
theorem dX4_has_4 : decode cX4_has 4 = .ok (.iand, 1) := by decide +kernel
theorem dX4_has_5 : decode cX4_has 5 = .ok (.iconst 1, 1) := by decide +kernel
theorem dX4_has_6 : decode cX4_has 6 = .ok (.if_icmp .ne 7, 3) := by decide +kernel
theorem dX4_has_9 : decode cX4_has 9 = .ok (.iconst 1, 1) := by decide +kernel
theorem dX4_has_10 : decode cX4_has 10 = .ok (.goto 4, 3) := by decide +kernel
theorem dX4_has_13 : decode cX4_has 13 = .ok (.iconst 0, 1) := by decide +kernel
theorem dX4_has_14 : decode cX4_has 14 = .ok (.ireturn, 1) := by decide +kernel
theorem dX4_ones_0 : decode cX4_ones 0 = .ok (.iconst 0, 1) := by decide +kernel
theorem dX4_ones_1 : decode cX4_ones 1 = .ok (.istore_n 1, 1) := by decide +kernel
theorem dX4_ones_2 : decode cX4_ones 2 = .ok (.iconst 0, 1) := by decide +kernel
theorem dX4_ones_3 : decode cX4_ones 3 = .ok (.istore_n 2, 1) := by decide +kernel
theorem dX4_ones_4 : decode cX4_ones 4 = .ok (.iload_n 2, 1) := by decide +kernel
theorem dX4_ones_5 : decode cX4_ones 5 = .ok (.bipush 8, 2) := by decide +kernel
theorem dX4_ones_7 : decode cX4_ones 7 = .ok (.if_icmp .ge 17, 3) := by decide +kernel
theorem dX4_ones_10 : decode cX4_ones 10 = .ok (.iload_n 1, 1) := by decide +kernel
theorem dX4_ones_11 : decode cX4_ones 11 = .ok (.iload_n 0, 1) := by decide +kernel
theorem dX4_ones_12 : decode cX4_ones 12 = .ok (.iload_n 2, 1) := by decide +kernel
theorem dX4_ones_13 : decode cX4_ones 13 = .ok (.ishr, 1) := by decide +kernel
theorem dX4_ones_14 : decode cX4_ones 14 = .ok (.iconst 1, 1) := by decide +kernel
theorem dX4_ones_15 : decode cX4_ones 15 = .ok (.iand, 1) := by decide +kernel
theorem dX4_ones_16 : decode cX4_ones 16 = .ok (.iadd, 1) := by decide +kernel
theorem dX4_ones_17 : decode cX4_ones 17 = .ok (.istore_n 1, 1) := by decide +kernel
theorem dX4_ones_18 : decode cX4_ones 18 = .ok (.iinc 2 1, 3) := by decide +kernel
theorem dX4_ones_21 : decode cX4_ones 21 = .ok (.goto (-17), 3) := by decide +kernel
theorem dX4_ones_24 : decode cX4_ones 24 = .ok (.iload_n 1, 1) := by decide +kernel
theorem dX4_ones_25 : decode cX4_ones 25 = .ok (.ireturn, 1) := by decide +kernel
theorem dX4_power_0 : decode cX4_power 0 = .ok (.iconst 1, 1) := by decide +kernel
theorem dX4_power_1 : decode cX4_power 1 = .ok (.istore_n 2, 1) := by decide +kernel
theorem dX4_power_2 : decode cX4_power 2 = .ok (.iconst 0, 1) := by decide +kernel
theorem dX4_power_3 : decode cX4_power 3 = .ok (.istore_n 3, 1) := by decide +kernel
theorem dX4_power_4 : decode cX4_power 4 = .ok (.iload_n 3, 1) := by decide +kernel
theorem dX4_power_5 : decode cX4_power 5 = .ok (.iload_n 1, 1) := by decide +kernel
theorem dX4_power_6 : decode cX4_power 6 = .ok (.if_icmp .ge 13, 3) := by decide +kernel
theorem dX4_power_9 : decode cX4_power 9 = .ok (.iload_n 2, 1) := by decide +kernel
theorem dX4_power_10 : decode cX4_power 10 = .ok (.iload_n 0, 1) := by decide +kernel
theorem dX4_power_11 : decode cX4_power 11 = .ok (.imul, 1) := by decide +kernel
theorem dX4_power_12 : decode cX4_power 12 = .ok (.istore_n 2, 1) := by decide +kernel
theorem dX4_power_13 : decode cX4_power 13 = .ok (.iinc 3 1, 3) := by decide +kernel
theorem dX4_power_16 : decode cX4_power 16 = .ok (.goto (-12), 3) := by decide +kernel
theorem dX4_power_19 : decode cX4_power 19 = .ok (.iload_n 2, 1) := by decide +kernel
theorem dX4_power_20 : decode cX4_power 20 = .ok (.ireturn, 1) := by decide +kernel
theorem dX4_factorial_0 : decode cX4_factorial 0 = .ok (.iconst 1, 1) := by decide +kernel
theorem dX4_factorial_1 : decode cX4_factorial 1 = .ok (.istore_n 1, 1) := by decide +kernel
theorem dX4_factorial_2 : decode cX4_factorial 2 = .ok (.iconst 2, 1) := by decide +kernel
theorem dX4_factorial_3 : decode cX4_factorial 3 = .ok (.istore_n 2, 1) := by decide +kernel
theorem dX4_factorial_4 : decode cX4_factorial 4 = .ok (.iload_n 2, 1) := by decide +kernel
theorem dX4_factorial_5 : decode cX4_factorial 5 = .ok (.iload_n 0, 1) := by decide +kernel
theorem dX4_factorial_6 : decode cX4_factorial 6 = .ok (.if_icmp .gt 13, 3) := by decide +kernel
theorem dX4_factorial_9 : decode cX4_factorial 9 = .ok (.iload_n 1, 1) := by decide +kernel
theorem dX4_factorial_10 : decode cX4_factorial 10 = .ok (.iload_n 2, 1) := by decide +kernel
theorem dX4_factorial_11 : decode cX4_factorial 11 = .ok (.imul, 1) := by decide +kernel
theorem dX4_factorial_12 : decode cX4_factorial 12 = .ok (.istore_n 1, 1) := by decide +kernel
theorem dX4_factorial_13 : decode cX4_factorial 13 = .ok (.iinc 2 1, 3) := by decide +kernel
theorem dX4_factorial_16 : decode cX4_factorial 16 = .ok (.goto (-12), 3) := by decide +kernel
theorem dX4_factorial_19 : decode cX4_factorial 19 = .ok (.iload_n 1, 1) := by decide +kernel
theorem dX4_factorial_20 : decode cX4_factorial 20 = .ok (.ireturn, 1) := by decide +kernel
theorem dX4_fraction_0 : decode cX4_fraction 0 = .ok (.iload_n 0, 1) := by decide +kernel
theorem dX4_fraction_1 : decode cX4_fraction 1 = .ok (.ifCond .ge 8, 3) := by decide +kernel
theorem dX4_fraction_4 : decode cX4_fraction 4 = .ok (.iload_n 0, 1) := by decide +kernel
theorem dX4_fraction_5 : decode cX4_fraction 5 = .ok (.ineg, 1) := by decide +kernel
theorem dX4_fraction_6 : decode cX4_fraction 6 = .ok (.goto 4, 3) := by decide +kernel
theorem dX4_fraction_9 : decode cX4_fraction 9 = .ok (.iload_n 0, 1) := by decide +kernel
theorem dX4_fraction_10 : decode cX4_fraction 10 = .ok (.istore_n 3, 1) := by decide +kernel
theorem dX4_fraction_11 : decode cX4_fraction 11 = .ok (.iload_n 1, 1) := by decide +kernel
theorem dX4_fraction_12 : decode cX4_fraction 12 = .ok (.istore 4, 2) := by decide +kernel
theorem dX4_fraction_14 : decode cX4_fraction 14 = .ok (.iload 4, 2) := by decide +kernel
theorem dX4_fraction_16 : decode cX4_fraction 16 = .ok (.ifCond .eq 19, 3) := by decide +kernel
theorem dX4_fraction_19 : decode cX4_fraction 19 = .ok (.iload_n 3, 1) := by decide +kernel
theorem dX4_fraction_20 : decode cX4_fraction 20 = .ok (.iload 4, 2) := by decide +kernel
theorem dX4_fraction_22 : decode cX4_fraction 22 = .ok (.irem, 1) := by decide +kernel
theorem dX4_fraction_23 : decode cX4_fraction 23 = .ok (.istore 5, 2) := by decide +kernel
theorem dX4_fraction_25 : decode cX4_fraction 25 = .ok (.iload 4, 2) := by decide +kernel
theorem dX4_fraction_27 : decode cX4_fraction 27 = .ok (.istore_n 3, 1) := by decide +kernel
theorem dX4_fraction_28 : decode cX4_fraction 28 = .ok (.iload 5, 2) := by decide +kernel
theorem dX4_fraction_30 : decode cX4_fraction 30 = .ok (.istore 4, 2) := by decide +kernel
theorem dX4_fraction_32 : decode cX4_fraction 32 = .ok (.goto (-18), 3) := by decide +kernel
theorem dX4_fraction_35 : decode cX4_fraction 35 = .ok (.iload_n 2, 1) := by decide +kernel
theorem dX4_fraction_36 : decode cX4_fraction 36 = .ok (.ifCond .eq 9, 3) := by decide +kernel
theorem dX4_fraction_39 : decode cX4_fraction 39 = .ok (.iload_n 0, 1) := by decide +kernel
theorem dX4_fraction_40 : decode cX4_fraction 40 = .ok (.iload_n 3, 1) := by decide +kernel
theorem dX4_fraction_41 : decode cX4_fraction 41 = .ok (.idiv, 1) := by decide +kernel
theorem dX4_fraction_42 : decode cX4_fraction 42 = .ok (.goto 6, 3) := by decide +kernel
theorem dX4_fraction_45 : decode cX4_fraction 45 = .ok (.iload_n 1, 1) := by decide +kernel
theorem dX4_fraction_46 : decode cX4_fraction 46 = .ok (.iload_n 3, 1) := by decide +kernel
theorem dX4_fraction_47 : decode cX4_fraction 47 = .ok (.idiv, 1) := by decide +kernel
theorem dX4_fraction_48 : decode cX4_fraction 48 = .ok (.ireturn, 1) := by decide +kernel
theorem dX4_sizeOf_0 : decode cX4_sizeOf 0 = .ok (.bipush 32, 2) := by decide +kernel
theorem dX4_sizeOf_2 : decode cX4_sizeOf 2 = .ok (.iload_n 0, 1) := by decide +kernel
theorem dX4_sizeOf_3 : decode cX4_sizeOf 3 = .ok (.ishr, 1) := by decide +kernel
theorem dX4_sizeOf_4 : decode cX4_sizeOf 4 = .ok (.ireturn, 1) := by decide +kernel
theorem dX4_isRange_0 : decode cX4_isRange 0 = .ok (.iload_n 1, 1) := by decide +kernel
theorem dX4_isRange_1 : decode cX4_isRange 1 = .ok (.i2l, 1) := by decide +kernel
theorem dX4_isRange_2 : decode cX4_isRange 2 = .ok (.lconst 0, 1) := by decide +kernel
theorem dX4_isRange_3 : decode cX4_isRange 3 = .ok (.ldc2_w 48, 3) := by decide +kernel
theorem dX4_isRange_6 : decode cX4_isRange 6 = .ok (.invokestatic 50, 3) := by decide +kernel
theorem dX4_isRange_9 : decode cX4_isRange 9 = .ok (.ifCond .eq 28, 3) := by decide +kernel
theorem dX4_isRange_12 : decode cX4_isRange 12 = .ok (.iload_n 0, 1) := by decide +kernel
theorem dX4_isRange_13 : decode cX4_isRange 13 = .ok (.i2l, 1) := by decide +kernel
theorem dX4_isRange_14 : decode cX4_isRange 14 = .ok (.lconst 0, 1) := by decide +kernel
theorem dX4_isRange_15 : decode cX4_isRange 15 = .ok (.ldc2_w 54, 3) := by decide +kernel
theorem dX4_isRange_18 : decode cX4_isRange 18 = .ok (.invokestatic 50, 3) := by decide +kernel
theorem dX4_isRange_21 : decode cX4_isRange 21 = .ok (.ifCond .eq 16, 3) := by decide +kernel
theorem dX4_isRange_24 : decode cX4_isRange 24 = .ok (.iload_n 0, 1) := by decide +kernel
theorem dX4_isRange_25 : decode cX4_isRange 25 = .ok (.iload_n 1, 1) := by decide +kernel
theorem dX4_isRange_26 : decode cX4_isRange 26 = .ok (.invokestatic 56, 3) := by decide +kernel
theorem dX4_isRange_29 : decode cX4_isRange 29 = .ok (.irem, 1) := by decide +kernel
theorem dX4_isRange_30 : decode cX4_isRange 30 = .ok (.ifCond .ne 7, 3) := by decide +kernel
theorem dX4_isRange_33 : decode cX4_isRange 33 = .ok (.iconst 1, 1) := by decide +kernel
theorem dX4_isRange_34 : decode cX4_isRange 34 = .ok (.goto 4, 3) := by decide +kernel
theorem dX4_isRange_37 : decode cX4_isRange 37 = .ok (.iconst 0, 1) := by decide +kernel
theorem dX4_isRange_38 : decode cX4_isRange 38 = .ok (.ireturn, 1) := by decide +kernel
theorem dX4_isWithin_0 : decode cX4_isWithin 0 = .ok (.iload_n 1, 1) := by decide +kernel
theorem dX4_isWithin_1 : decode cX4_isWithin 1 = .ok (.iload_n 3, 1) := by decide +kernel
theorem dX4_isWithin_2 : decode cX4_isWithin 2 = .ok (.if_icmp .lt 22, 3) := by decide +kernel
theorem dX4_isWithin_5 : decode cX4_isWithin 5 = .ok (.iload_n 0, 1) := by decide +kernel
theorem dX4_isWithin_6 : decode cX4_isWithin 6 = .ok (.iload_n 3, 1) := by decide +kernel
theorem dX4_isWithin_7 : decode cX4_isWithin 7 = .ok (.invokestatic 56, 3) := by decide +kernel
theorem dX4_isWithin_10 : decode cX4_isWithin 10 = .ok (.idiv, 1) := by decide +kernel
theorem dX4_isWithin_11 : decode cX4_isWithin 11 = .ok (.iload_n 2, 1) := by decide +kernel
theorem dX4_isWithin_12 : decode cX4_isWithin 12 = .ok (.iload_n 3, 1) := by decide +kernel
theorem dX4_isWithin_13 : decode cX4_isWithin 13 = .ok (.invokestatic 56, 3) := by decide +kernel
theorem dX4_isWithin_16 : decode cX4_isWithin 16 = .ok (.idiv, 1) := by decide +kernel
theorem dX4_isWithin_17 : decode cX4_isWithin 17 = .ok (.if_icmp .ne 7, 3) := by decide +kernel
theorem dX4_isWithin_20 : decode cX4_isWithin 20 = .ok (.iconst 1, 1) := by decide +kernel
theorem dX4_isWithin_21 : decode cX4_isWithin 21 = .ok (.goto 4, 3) := by decide +kernel
theorem dX4_isWithin_24 : decode cX4_isWithin 24 = .ok (.iconst 0, 1) := by decide +kernel
theorem dX4_isWithin_25 : decode cX4_isWithin 25 = .ok (.ireturn, 1) := by decide +kernel
theorem dX4_isOrigin_0 : decode cX4_isOrigin 0 = .ok (.iload_n 0, 1) := by decide +kernel
theorem dX4_isOrigin_1 : decode cX4_isOrigin 1 = .ok (.i2l, 1) := by decide +kernel
theorem dX4_isOrigin_2 : decode cX4_isOrigin 2 = .ok (.lconst 0, 1) := by decide +kernel
theorem dX4_isOrigin_3 : decode cX4_isOrigin 3 = .ok (.ldc2_w 48, 3) := by decide +kernel
theorem dX4_isOrigin_6 : decode cX4_isOrigin 6 = .ok (.invokestatic 50, 3) := by decide +kernel
theorem dX4_isOrigin_9 : decode cX4_isOrigin 9 = .ok (.ireturn, 1) := by decide +kernel
theorem dX4_write_0 : decode cX4_write 0 = .ok (.iload_n 1, 1) := by decide +kernel
theorem dX4_write_1 : decode cX4_write 1 = .ok (.i2l, 1) := by decide +kernel
theorem dX4_write_2 : decode cX4_write 2 = .ok (.lconst 0, 1) := by decide +kernel
theorem dX4_write_3 : decode cX4_write 3 = .ok (.ldc2_w 60, 3) := by decide +kernel
theorem dX4_write_6 : decode cX4_write 6 = .ok (.invokestatic 50, 3) := by decide +kernel
theorem dX4_write_9 : decode cX4_write 9 = .ok (.ifCond .ne 6, 3) := by decide +kernel
theorem dX4_write_12 : decode cX4_write 12 = .ok (.bipush (-2), 2) := by decide +kernel
theorem dX4_write_14 : decode cX4_write 14 = .ok (.ireturn, 1) := by decide +kernel
theorem dX4_write_15 : decode cX4_write 15 = .ok (.aload_n 0, 1) := by decide +kernel
theorem dX4_write_16 : decode cX4_write 16 = .ok (.getfield 62, 3) := by decide +kernel
theorem dX4_write_19 : decode cX4_write 19 = .ok (.bipush 99, 2) := by decide +kernel
theorem dX4_write_21 : decode cX4_write 21 = .ok (.if_icmp .ne 6, 3) := by decide +kernel
theorem dX4_write_24 : decode cX4_write 24 = .ok (.bipush (-4), 2) := by decide +kernel
theorem dX4_write_26 : decode cX4_write 26 = .ok (.ireturn, 1) := by decide +kernel
theorem dX4_write_27 : decode cX4_write 27 = .ok (.aload_n 0, 1) := by decide +kernel
theorem dX4_write_28 : decode cX4_write 28 = .ok (.getfield 7, 3) := by decide +kernel
theorem dX4_write_31 : decode cX4_write 31 = .ok (.aload_n 0, 1) := by decide +kernel
theorem dX4_write_32 : decode cX4_write 32 = .ok (.getfield 62, 3) := by decide +kernel
theorem dX4_write_35 : decode cX4_write 35 = .ok (.iload_n 1, 1) := by decide +kernel
theorem dX4_write_36 : decode cX4_write 36 = .ok (.iastore, 1) := by decide +kernel
theorem dX4_write_37 : decode cX4_write 37 = .ok (.aload_n 0, 1) := by decide +kernel
theorem dX4_write_38 : decode cX4_write 38 = .ok (.dup, 1) := by decide +kernel
theorem dX4_write_39 : decode cX4_write 39 = .ok (.getfield 62, 3) := by decide +kernel
theorem dX4_write_42 : decode cX4_write 42 = .ok (.iconst 1, 1) := by decide +kernel
theorem dX4_write_43 : decode cX4_write 43 = .ok (.iadd, 1) := by decide +kernel
theorem dX4_write_44 : decode cX4_write 44 = .ok (.putfield 62, 3) := by decide +kernel
theorem dX4_write_47 : decode cX4_write 47 = .ok (.aload_n 0, 1) := by decide +kernel
theorem dX4_write_48 : decode cX4_write 48 = .ok (.getfield 62, 3) := by decide +kernel
theorem dX4_write_51 : decode cX4_write 51 = .ok (.ireturn, 1) := by decide +kernel
theorem dX4_wipe_0 : decode cX4_wipe 0 = .ok (.aload_n 0, 1) := by decide +kernel
theorem dX4_wipe_1 : decode cX4_wipe 1 = .ok (.getfield 62, 3) := by decide +kernel
theorem dX4_wipe_4 : decode cX4_wipe 4 = .ok (.istore_n 1, 1) := by decide +kernel
theorem dX4_wipe_5 : decode cX4_wipe 5 = .ok (.aload_n 0, 1) := by decide +kernel
theorem dX4_wipe_6 : decode cX4_wipe 6 = .ok (.iconst 0, 1) := by decide +kernel
theorem dX4_wipe_7 : decode cX4_wipe 7 = .ok (.putfield 62, 3) := by decide +kernel
theorem dX4_wipe_10 : decode cX4_wipe 10 = .ok (.iload_n 1, 1) := by decide +kernel
theorem dX4_wipe_11 : decode cX4_wipe 11 = .ok (.ireturn, 1) := by decide +kernel
theorem dX4_figure_0 : decode cX4_figure 0 = .ok (.aload_n 0, 1) := by decide +kernel
theorem dX4_figure_1 : decode cX4_figure 1 = .ok (.getfield 65, 3) := by decide +kernel
theorem dX4_figure_4 : decode cX4_figure 4 = .ok (.aload_n 0, 1) := by decide +kernel
theorem dX4_figure_5 : decode cX4_figure 5 = .ok (.getfield 62, 3) := by decide +kernel
theorem dX4_figure_8 : decode cX4_figure 8 = .ok (.if_icmp .ge 18, 3) := by decide +kernel
theorem dX4_figure_11 : decode cX4_figure 11 = .ok (.aload_n 0, 1) := by decide +kernel
theorem dX4_figure_12 : decode cX4_figure 12 = .ok (.getfield 7, 3) := by decide +kernel
theorem dX4_figure_15 : decode cX4_figure 15 = .ok (.aload_n 0, 1) := by decide +kernel
theorem dX4_figure_16 : decode cX4_figure 16 = .ok (.getfield 65, 3) := by decide +kernel
theorem dX4_figure_19 : decode cX4_figure 19 = .ok (.iaload, 1) := by decide +kernel
theorem dX4_figure_20 : decode cX4_figure 20 = .ok (.bipush 48, 2) := by decide +kernel
theorem dX4_figure_22 : decode cX4_figure 22 = .ok (.isub, 1) := by decide +kernel
theorem dX4_figure_23 : decode cX4_figure 23 = .ok (.goto 5, 3) := by decide +kernel
theorem dX4_figure_26 : decode cX4_figure 26 = .ok (.bipush (-9), 2) := by decide +kernel
theorem dX4_figure_28 : decode cX4_figure 28 = .ok (.istore_n 3, 1) := by decide +kernel
theorem dX4_figure_29 : decode cX4_figure 29 = .ok (.iload_n 3, 1) := by decide +kernel
theorem dX4_figure_30 : decode cX4_figure 30 = .ok (.i2l, 1) := by decide +kernel
theorem dX4_figure_31 : decode cX4_figure 31 = .ok (.iload_n 1, 1) := by decide +kernel
theorem dX4_figure_32 : decode cX4_figure 32 = .ok (.i2l, 1) := by decide +kernel
theorem dX4_figure_33 : decode cX4_figure 33 = .ok (.iload_n 2, 1) := by decide +kernel
theorem dX4_figure_34 : decode cX4_figure 34 = .ok (.i2l, 1) := by decide +kernel
theorem dX4_figure_35 : decode cX4_figure 35 = .ok (.invokestatic 50, 3) := by decide +kernel
theorem dX4_figure_38 : decode cX4_figure 38 = .ok (.ifCond .ne 6, 3) := by decide +kernel
theorem dX4_figure_41 : decode cX4_figure 41 = .ok (.bipush (-9), 2) := by decide +kernel
theorem dX4_figure_43 : decode cX4_figure 43 = .ok (.ireturn, 1) := by decide +kernel
theorem dX4_figure_44 : decode cX4_figure 44 = .ok (.aload_n 0, 1) := by decide +kernel
theorem dX4_figure_45 : decode cX4_figure 45 = .ok (.dup, 1) := by decide +kernel
theorem dX4_figure_46 : decode cX4_figure 46 = .ok (.getfield 65, 3) := by decide +kernel
theorem dX4_figure_49 : decode cX4_figure 49 = .ok (.iconst 1, 1) := by decide +kernel
theorem dX4_figure_50 : decode cX4_figure 50 = .ok (.iadd, 1) := by decide +kernel
theorem dX4_figure_51 : decode cX4_figure 51 = .ok (.putfield 65, 3) := by decide +kernel
theorem dX4_figure_54 : decode cX4_figure 54 = .ok (.iload_n 3, 1) := by decide +kernel
theorem dX4_figure_55 : decode cX4_figure 55 = .ok (.ireturn, 1) := by decide +kernel
theorem dX4_readRange_0 : decode cX4_readRange 0 = .ok (.aload_n 0, 1) := by decide +kernel
theorem dX4_readRange_1 : decode cX4_readRange 1 = .ok (.iconst 0, 1) := by decide +kernel
theorem dX4_readRange_2 : decode cX4_readRange 2 = .ok (.iconst 3, 1) := by decide +kernel
theorem dX4_readRange_3 : decode cX4_readRange 3 = .ok (.invokevirtual 68, 3) := by decide +kernel
theorem dX4_readRange_6 : decode cX4_readRange 6 = .ok (.istore_n 1, 1) := by decide +kernel
theorem dX4_readRange_7 : decode cX4_readRange 7 = .ok (.iload_n 1, 1) := by decide +kernel
theorem dX4_readRange_8 : decode cX4_readRange 8 = .ok (.bipush (-9), 2) := by decide +kernel
theorem dX4_readRange_10 : decode cX4_readRange 10 = .ok (.if_icmp .ne 8, 3) := by decide +kernel
theorem dX4_readRange_13 : decode cX4_readRange 13 = .ok (.bipush (-9), 2) := by decide +kernel
theorem dX4_readRange_15 : decode cX4_readRange 15 = .ok (.goto 19, 3) := by decide +kernel
theorem dX4_readRange_18 : decode cX4_readRange 18 = .ok (.aload_n 0, 1) := by decide +kernel
theorem dX4_readRange_19 : decode cX4_readRange 19 = .ok (.iconst 0, 1) := by decide +kernel
theorem dX4_readRange_20 : decode cX4_readRange 20 = .ok (.iload_n 1, 1) := by decide +kernel
theorem dX4_readRange_21 : decode cX4_readRange 21 = .ok (.iconst 3, 1) := by decide +kernel
theorem dX4_readRange_22 : decode cX4_readRange 22 = .ok (.if_icmp .ne 7, 3) := by decide +kernel
theorem dX4_readRange_25 : decode cX4_readRange 25 = .ok (.iconst 1, 1) := by decide +kernel
theorem dX4_readRange_26 : decode cX4_readRange 26 = .ok (.goto 5, 3) := by decide +kernel
theorem dX4_readRange_29 : decode cX4_readRange 29 = .ok (.bipush 9, 2) := by decide +kernel
theorem dX4_readRange_31 : decode cX4_readRange 31 = .ok (.invokevirtual 68, 3) := by decide +kernel
theorem dX4_readRange_34 : decode cX4_readRange 34 = .ok (.istore_n 2, 1) := by decide +kernel
theorem dX4_readRange_35 : decode cX4_readRange 35 = .ok (.iload_n 2, 1) := by decide +kernel
theorem dX4_readRange_36 : decode cX4_readRange 36 = .ok (.bipush (-9), 2) := by decide +kernel
theorem dX4_readRange_38 : decode cX4_readRange 38 = .ok (.if_icmp .ne 5, 3) := by decide +kernel
theorem dX4_readRange_41 : decode cX4_readRange 41 = .ok (.iconst 0, 1) := by decide +kernel
theorem dX4_readRange_42 : decode cX4_readRange 42 = .ok (.ireturn, 1) := by decide +kernel
theorem dX4_readRange_43 : decode cX4_readRange 43 = .ok (.aload_n 0, 1) := by decide +kernel
theorem dX4_readRange_44 : decode cX4_readRange 44 = .ok (.bipush 10, 2) := by decide +kernel
theorem dX4_readRange_46 : decode cX4_readRange 46 = .ok (.iload_n 1, 1) := by decide +kernel
theorem dX4_readRange_47 : decode cX4_readRange 47 = .ok (.imul, 1) := by decide +kernel
theorem dX4_readRange_48 : decode cX4_readRange 48 = .ok (.iload_n 2, 1) := by decide +kernel
theorem dX4_readRange_49 : decode cX4_readRange 49 = .ok (.iadd, 1) := by decide +kernel
theorem dX4_readRange_50 : decode cX4_readRange 50 = .ok (.putfield 72, 3) := by decide +kernel
theorem dX4_readRange_53 : decode cX4_readRange 53 = .ok (.aload_n 0, 1) := by decide +kernel
theorem dX4_readRange_54 : decode cX4_readRange 54 = .ok (.getfield 65, 3) := by decide +kernel
theorem dX4_readRange_57 : decode cX4_readRange 57 = .ok (.aload_n 0, 1) := by decide +kernel
theorem dX4_readRange_58 : decode cX4_readRange 58 = .ok (.getfield 62, 3) := by decide +kernel
theorem dX4_readRange_61 : decode cX4_readRange 61 = .ok (.if_icmp .ge 18, 3) := by decide +kernel
theorem dX4_readRange_64 : decode cX4_readRange 64 = .ok (.aload_n 0, 1) := by decide +kernel
theorem dX4_readRange_65 : decode cX4_readRange 65 = .ok (.getfield 7, 3) := by decide +kernel
theorem dX4_readRange_68 : decode cX4_readRange 68 = .ok (.aload_n 0, 1) := by decide +kernel
theorem dX4_readRange_69 : decode cX4_readRange 69 = .ok (.getfield 65, 3) := by decide +kernel
theorem dX4_readRange_72 : decode cX4_readRange 72 = .ok (.iaload, 1) := by decide +kernel
theorem dX4_readRange_73 : decode cX4_readRange 73 = .ok (.bipush 48, 2) := by decide +kernel
theorem dX4_readRange_75 : decode cX4_readRange 75 = .ok (.isub, 1) := by decide +kernel
theorem dX4_readRange_76 : decode cX4_readRange 76 = .ok (.goto 5, 3) := by decide +kernel
theorem dX4_readRange_79 : decode cX4_readRange 79 = .ok (.bipush (-9), 2) := by decide +kernel
theorem dX4_readRange_81 : decode cX4_readRange 81 = .ok (.istore_n 3, 1) := by decide +kernel
theorem dX4_readRange_82 : decode cX4_readRange 82 = .ok (.aload_n 0, 1) := by decide +kernel
theorem dX4_readRange_83 : decode cX4_readRange 83 = .ok (.getfield 72, 3) := by decide +kernel
theorem dX4_readRange_86 : decode cX4_readRange 86 = .ok (.iload_n 3, 1) := by decide +kernel
theorem dX4_readRange_87 : decode cX4_readRange 87 = .ok (.invokestatic 75, 3) := by decide +kernel
theorem dX4_readRange_90 : decode cX4_readRange 90 = .ok (.ifCond .ne 5, 3) := by decide +kernel
theorem dX4_readRange_93 : decode cX4_readRange 93 = .ok (.iconst 0, 1) := by decide +kernel
theorem dX4_readRange_94 : decode cX4_readRange 94 = .ok (.ireturn, 1) := by decide +kernel
theorem dX4_readRange_95 : decode cX4_readRange 95 = .ok (.aload_n 0, 1) := by decide +kernel
theorem dX4_readRange_96 : decode cX4_readRange 96 = .ok (.iload_n 3, 1) := by decide +kernel
theorem dX4_readRange_97 : decode cX4_readRange 97 = .ok (.putfield 79, 3) := by decide +kernel
theorem dX4_readRange_100 : decode cX4_readRange 100 = .ok (.aload_n 0, 1) := by decide +kernel
theorem dX4_readRange_101 : decode cX4_readRange 101 = .ok (.dup, 1) := by decide +kernel
theorem dX4_readRange_102 : decode cX4_readRange 102 = .ok (.getfield 65, 3) := by decide +kernel
theorem dX4_readRange_105 : decode cX4_readRange 105 = .ok (.iconst 1, 1) := by decide +kernel
theorem dX4_readRange_106 : decode cX4_readRange 106 = .ok (.iadd, 1) := by decide +kernel
theorem dX4_readRange_107 : decode cX4_readRange 107 = .ok (.putfield 65, 3) := by decide +kernel
theorem dX4_readRange_110 : decode cX4_readRange 110 = .ok (.iconst 1, 1) := by decide +kernel
theorem dX4_readRange_111 : decode cX4_readRange 111 = .ok (.ireturn, 1) := by decide +kernel
theorem dX4_readOnePaper_0 : decode cX4_readOnePaper 0 = .ok (.aload_n 0, 1) := by decide +kernel
theorem dX4_readOnePaper_1 : decode cX4_readOnePaper 1 = .ok (.iconst 0, 1) := by decide +kernel
theorem dX4_readOnePaper_2 : decode cX4_readOnePaper 2 = .ok (.aload_n 0, 1) := by decide +kernel
theorem dX4_readOnePaper_3 : decode cX4_readOnePaper 3 = .ok (.getfield 82, 3) := by decide +kernel
theorem dX4_readOnePaper_6 : decode cX4_readOnePaper 6 = .ok (.iconst 1, 1) := by decide +kernel
theorem dX4_readOnePaper_7 : decode cX4_readOnePaper 7 = .ok (.isub, 1) := by decide +kernel
theorem dX4_readOnePaper_8 : decode cX4_readOnePaper 8 = .ok (.invokevirtual 68, 3) := by decide +kernel
theorem dX4_readOnePaper_11 : decode cX4_readOnePaper 11 = .ok (.istore_n 1, 1) := by decide +kernel
theorem dX4_readOnePaper_12 : decode cX4_readOnePaper 12 = .ok (.iload_n 1, 1) := by decide +kernel
theorem dX4_readOnePaper_13 : decode cX4_readOnePaper 13 = .ok (.bipush (-9), 2) := by decide +kernel
theorem dX4_readOnePaper_15 : decode cX4_readOnePaper 15 = .ok (.if_icmp .eq 10, 3) := by decide +kernel
theorem dX4_readOnePaper_18 : decode cX4_readOnePaper 18 = .ok (.aload_n 0, 1) := by decide +kernel
theorem dX4_readOnePaper_19 : decode cX4_readOnePaper 19 = .ok (.invokevirtual 85, 3) := by decide +kernel
theorem dX4_readOnePaper_22 : decode cX4_readOnePaper 22 = .ok (.ifCond .ne 5, 3) := by decide +kernel
theorem dX4_readOnePaper_25 : decode cX4_readOnePaper 25 = .ok (.iconst 0, 1) := by decide +kernel
theorem dX4_readOnePaper_26 : decode cX4_readOnePaper 26 = .ok (.ireturn, 1) := by decide +kernel
theorem dX4_readOnePaper_27 : decode cX4_readOnePaper 27 = .ok (.aload_n 0, 1) := by decide +kernel
theorem dX4_readOnePaper_28 : decode cX4_readOnePaper 28 = .ok (.iconst 0, 1) := by decide +kernel
theorem dX4_readOnePaper_29 : decode cX4_readOnePaper 29 = .ok (.bipush 9, 2) := by decide +kernel
theorem dX4_readOnePaper_31 : decode cX4_readOnePaper 31 = .ok (.invokevirtual 68, 3) := by decide +kernel
theorem dX4_readOnePaper_34 : decode cX4_readOnePaper 34 = .ok (.istore_n 2, 1) := by decide +kernel
theorem dX4_readOnePaper_35 : decode cX4_readOnePaper 35 = .ok (.iload_n 2, 1) := by decide +kernel
theorem dX4_readOnePaper_36 : decode cX4_readOnePaper 36 = .ok (.bipush (-9), 2) := by decide +kernel
theorem dX4_readOnePaper_38 : decode cX4_readOnePaper 38 = .ok (.if_icmp .ne 5, 3) := by decide +kernel
theorem dX4_readOnePaper_41 : decode cX4_readOnePaper 41 = .ok (.iconst 0, 1) := by decide +kernel
theorem dX4_readOnePaper_42 : decode cX4_readOnePaper 42 = .ok (.ireturn, 1) := by decide +kernel
theorem dX4_readOnePaper_43 : decode cX4_readOnePaper 43 = .ok (.iconst 4, 1) := by decide +kernel
theorem dX4_readOnePaper_44 : decode cX4_readOnePaper 44 = .ok (.aload_n 0, 1) := by decide +kernel
theorem dX4_readOnePaper_45 : decode cX4_readOnePaper 45 = .ok (.getfield 82, 3) := by decide +kernel
theorem dX4_readOnePaper_48 : decode cX4_readOnePaper 48 = .ok (.imul, 1) := by decide +kernel
theorem dX4_readOnePaper_49 : decode cX4_readOnePaper 49 = .ok (.istore_n 3, 1) := by decide +kernel
theorem dX4_readOnePaper_50 : decode cX4_readOnePaper 50 = .ok (.aload_n 0, 1) := by decide +kernel
theorem dX4_readOnePaper_51 : decode cX4_readOnePaper 51 = .ok (.getfield 38, 3) := by decide +kernel
theorem dX4_readOnePaper_54 : decode cX4_readOnePaper 54 = .ok (.iload_n 3, 1) := by decide +kernel
theorem dX4_readOnePaper_55 : decode cX4_readOnePaper 55 = .ok (.iload_n 1, 1) := by decide +kernel
theorem dX4_readOnePaper_56 : decode cX4_readOnePaper 56 = .ok (.iastore, 1) := by decide +kernel
theorem dX4_readOnePaper_57 : decode cX4_readOnePaper 57 = .ok (.aload_n 0, 1) := by decide +kernel
theorem dX4_readOnePaper_58 : decode cX4_readOnePaper 58 = .ok (.getfield 38, 3) := by decide +kernel
theorem dX4_readOnePaper_61 : decode cX4_readOnePaper 61 = .ok (.iload_n 3, 1) := by decide +kernel
theorem dX4_readOnePaper_62 : decode cX4_readOnePaper 62 = .ok (.iconst 1, 1) := by decide +kernel
theorem dX4_readOnePaper_63 : decode cX4_readOnePaper 63 = .ok (.iadd, 1) := by decide +kernel
theorem dX4_readOnePaper_64 : decode cX4_readOnePaper 64 = .ok (.aload_n 0, 1) := by decide +kernel
theorem dX4_readOnePaper_65 : decode cX4_readOnePaper 65 = .ok (.getfield 72, 3) := by decide +kernel
theorem dX4_readOnePaper_68 : decode cX4_readOnePaper 68 = .ok (.iastore, 1) := by decide +kernel
theorem dX4_readOnePaper_69 : decode cX4_readOnePaper 69 = .ok (.aload_n 0, 1) := by decide +kernel
theorem dX4_readOnePaper_70 : decode cX4_readOnePaper 70 = .ok (.getfield 38, 3) := by decide +kernel
theorem dX4_readOnePaper_73 : decode cX4_readOnePaper 73 = .ok (.iload_n 3, 1) := by decide +kernel
theorem dX4_readOnePaper_74 : decode cX4_readOnePaper 74 = .ok (.iconst 2, 1) := by decide +kernel
theorem dX4_readOnePaper_75 : decode cX4_readOnePaper 75 = .ok (.iadd, 1) := by decide +kernel
theorem dX4_readOnePaper_76 : decode cX4_readOnePaper 76 = .ok (.aload_n 0, 1) := by decide +kernel
theorem dX4_readOnePaper_77 : decode cX4_readOnePaper 77 = .ok (.getfield 79, 3) := by decide +kernel
theorem dX4_readOnePaper_80 : decode cX4_readOnePaper 80 = .ok (.iastore, 1) := by decide +kernel
theorem dX4_readOnePaper_81 : decode cX4_readOnePaper 81 = .ok (.aload_n 0, 1) := by decide +kernel
theorem dX4_readOnePaper_82 : decode cX4_readOnePaper 82 = .ok (.getfield 38, 3) := by decide +kernel
theorem dX4_readOnePaper_85 : decode cX4_readOnePaper 85 = .ok (.iload_n 3, 1) := by decide +kernel
theorem dX4_readOnePaper_86 : decode cX4_readOnePaper 86 = .ok (.iconst 3, 1) := by decide +kernel
theorem dX4_readOnePaper_87 : decode cX4_readOnePaper 87 = .ok (.iadd, 1) := by decide +kernel
theorem dX4_readOnePaper_88 : decode cX4_readOnePaper 88 = .ok (.iload_n 2, 1) := by decide +kernel
theorem dX4_readOnePaper_89 : decode cX4_readOnePaper 89 = .ok (.iastore, 1) := by decide +kernel
theorem dX4_readOnePaper_90 : decode cX4_readOnePaper 90 = .ok (.aload_n 0, 1) := by decide +kernel
theorem dX4_readOnePaper_91 : decode cX4_readOnePaper 91 = .ok (.dup, 1) := by decide +kernel
theorem dX4_readOnePaper_92 : decode cX4_readOnePaper 92 = .ok (.getfield 82, 3) := by decide +kernel
theorem dX4_readOnePaper_95 : decode cX4_readOnePaper 95 = .ok (.iconst 1, 1) := by decide +kernel
theorem dX4_readOnePaper_96 : decode cX4_readOnePaper 96 = .ok (.iadd, 1) := by decide +kernel
theorem dX4_readOnePaper_97 : decode cX4_readOnePaper 97 = .ok (.putfield 82, 3) := by decide +kernel
theorem dX4_readOnePaper_100 : decode cX4_readOnePaper 100 = .ok (.iconst 1, 1) := by decide +kernel
theorem dX4_readOnePaper_101 : decode cX4_readOnePaper 101 = .ok (.ireturn, 1) := by decide +kernel
theorem dX4_readOneGrant_0 : decode cX4_readOneGrant 0 = .ok (.aload_n 0, 1) := by decide +kernel
theorem dX4_readOneGrant_1 : decode cX4_readOneGrant 1 = .ok (.getfield 65, 3) := by decide +kernel
theorem dX4_readOneGrant_4 : decode cX4_readOneGrant 4 = .ok (.aload_n 0, 1) := by decide +kernel
