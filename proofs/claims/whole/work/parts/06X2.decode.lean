theorem d_X_of_0 : decode b_X_of 0 = .ok (.aload_n 0, 1) := by decide +kernel
theorem d_X_of_1 : decode b_X_of 1 = .ok (.iload_n 1, 1) := by decide +kernel
theorem d_X_of_2 : decode b_X_of 2 = .ok (.invokevirtual 72, 3) := by decide +kernel
theorem d_X_of_5 : decode b_X_of 5 = .ok (.ifCond .eq 11, 3) := by decide +kernel
theorem d_X_of_8 : decode b_X_of 8 = .ok (.aload_n 0, 1) := by decide +kernel
theorem d_X_of_9 : decode b_X_of 9 = .ok (.iload_n 2, 1) := by decide +kernel
theorem d_X_of_10 : decode b_X_of 10 = .ok (.invokevirtual 72, 3) := by decide +kernel
theorem d_X_of_13 : decode b_X_of 13 = .ok (.ifCond .ne 5, 3) := by decide +kernel
theorem d_X_of_16 : decode b_X_of 16 = .ok (.iconst (-1), 1) := by decide +kernel
theorem d_X_of_17 : decode b_X_of 17 = .ok (.ireturn, 1) := by decide +kernel
theorem d_X_of_18 : decode b_X_of 18 = .ok (.aload_n 0, 1) := by decide +kernel
theorem d_X_of_19 : decode b_X_of 19 = .ok (.getfield 10, 3) := by decide +kernel
theorem d_X_of_22 : decode b_X_of 22 = .ok (.getfield 61, 3) := by decide +kernel
theorem d_X_of_25 : decode b_X_of 25 = .ok (.aload_n 0, 1) := by decide +kernel
theorem d_X_of_26 : decode b_X_of 26 = .ok (.getfield 10, 3) := by decide +kernel
theorem d_X_of_29 : decode b_X_of 29 = .ok (.getfield 65, 3) := by decide +kernel
theorem d_X_of_32 : decode b_X_of 32 = .ok (.iload_n 1, 1) := by decide +kernel
theorem d_X_of_33 : decode b_X_of 33 = .ok (.iload_n 2, 1) := by decide +kernel
theorem d_X_of_34 : decode b_X_of 34 = .ok (.invokestatic 76, 3) := by decide +kernel
theorem d_X_of_37 : decode b_X_of 37 = .ok (.ireturn, 1) := by decide +kernel
theorem d_X_brokenNow_0 : decode b_X_brokenNow 0 = .ok (.aload_n 0, 1) := by decide +kernel
theorem d_X_brokenNow_1 : decode b_X_brokenNow 1 = .ok (.getfield 33, 3) := by decide +kernel
theorem d_X_brokenNow_4 : decode b_X_brokenNow 4 = .ok (.aload_n 0, 1) := by decide +kernel
theorem d_X_brokenNow_5 : decode b_X_brokenNow 5 = .ok (.getfield 10, 3) := by decide +kernel
theorem d_X_brokenNow_8 : decode b_X_brokenNow 8 = .ok (.getfield 61, 3) := by decide +kernel
theorem d_X_brokenNow_11 : decode b_X_brokenNow 11 = .ok (.aload_n 0, 1) := by decide +kernel
theorem d_X_brokenNow_12 : decode b_X_brokenNow 12 = .ok (.getfield 10, 3) := by decide +kernel
theorem d_X_brokenNow_15 : decode b_X_brokenNow 15 = .ok (.getfield 65, 3) := by decide +kernel
theorem d_X_brokenNow_18 : decode b_X_brokenNow 18 = .ok (.invokevirtual 199, 3) := by decide +kernel
theorem d_X_brokenNow_21 : decode b_X_brokenNow 21 = .ok (.aload_n 0, 1) := by decide +kernel
theorem d_X_brokenNow_22 : decode b_X_brokenNow 22 = .ok (.getfield 33, 3) := by decide +kernel
theorem d_X_brokenNow_25 : decode b_X_brokenNow 25 = .ok (.aload_n 1, 1) := by decide +kernel
theorem d_X_brokenNow_26 : decode b_X_brokenNow 26 = .ok (.invokevirtual 203, 3) := by decide +kernel
theorem d_X_brokenNow_29 : decode b_X_brokenNow 29 = .ok (.aload_n 0, 1) := by decide +kernel
theorem d_X_brokenNow_30 : decode b_X_brokenNow 30 = .ok (.getfield 33, 3) := by decide +kernel
theorem d_X_brokenNow_33 : decode b_X_brokenNow 33 = .ok (.invokevirtual 228, 3) := by decide +kernel
theorem d_X_brokenNow_36 : decode b_X_brokenNow 36 = .ok (.ireturn, 1) := by decide +kernel
theorem d_X_countHolding_0 : decode b_X_countHolding 0 = .ok (.iconst 0, 1) := by decide +kernel
theorem d_X_countHolding_1 : decode b_X_countHolding 1 = .ok (.istore_n 2, 1) := by decide +kernel
theorem d_X_countHolding_2 : decode b_X_countHolding 2 = .ok (.iconst 0, 1) := by decide +kernel
theorem d_X_countHolding_3 : decode b_X_countHolding 3 = .ok (.istore_n 3, 1) := by decide +kernel
theorem d_X_countHolding_4 : decode b_X_countHolding 4 = .ok (.iload_n 3, 1) := by decide +kernel
theorem d_X_countHolding_5 : decode b_X_countHolding 5 = .ok (.aload_n 0, 1) := by decide +kernel
theorem d_X_countHolding_6 : decode b_X_countHolding 6 = .ok (.getfield 10, 3) := by decide +kernel
theorem d_X_countHolding_9 : decode b_X_countHolding 9 = .ok (.getfield 105, 3) := by decide +kernel
theorem d_X_countHolding_12 : decode b_X_countHolding 12 = .ok (.if_icmp .ge 52, 3) := by decide +kernel
theorem d_X_countHolding_15 : decode b_X_countHolding 15 = .ok (.aload_n 0, 1) := by decide +kernel
theorem d_X_countHolding_16 : decode b_X_countHolding 16 = .ok (.getfield 10, 3) := by decide +kernel
theorem d_X_countHolding_19 : decode b_X_countHolding 19 = .ok (.iload_n 3, 1) := by decide +kernel
theorem d_X_countHolding_20 : decode b_X_countHolding 20 = .ok (.invokevirtual 175, 3) := by decide +kernel
theorem d_X_countHolding_23 : decode b_X_countHolding 23 = .ok (.astore 4, 2) := by decide +kernel
theorem d_X_countHolding_25 : decode b_X_countHolding 25 = .ok (.aload 4, 2) := by decide +kernel
theorem d_X_countHolding_27 : decode b_X_countHolding 27 = .ok (.ifnull 31, 3) := by decide +kernel
theorem d_X_countHolding_30 : decode b_X_countHolding 30 = .ok (.aload_n 0, 1) := by decide +kernel
theorem d_X_countHolding_31 : decode b_X_countHolding 31 = .ok (.getfield 10, 3) := by decide +kernel
theorem d_X_countHolding_34 : decode b_X_countHolding 34 = .ok (.getfield 124, 3) := by decide +kernel
theorem d_X_countHolding_37 : decode b_X_countHolding 37 = .ok (.iload_n 3, 1) := by decide +kernel
theorem d_X_countHolding_38 : decode b_X_countHolding 38 = .ok (.baload, 1) := by decide +kernel
theorem d_X_countHolding_39 : decode b_X_countHolding 39 = .ok (.ifCond .ne 7, 3) := by decide +kernel
theorem d_X_countHolding_42 : decode b_X_countHolding 42 = .ok (.iload_n 1, 1) := by decide +kernel
theorem d_X_countHolding_43 : decode b_X_countHolding 43 = .ok (.ifCond .ne 15, 3) := by decide +kernel
theorem d_X_countHolding_46 : decode b_X_countHolding 46 = .ok (.aload_n 0, 1) := by decide +kernel
theorem d_X_countHolding_47 : decode b_X_countHolding 47 = .ok (.aload 4, 2) := by decide +kernel
theorem d_X_countHolding_49 : decode b_X_countHolding 49 = .ok (.invokevirtual 179, 3) := by decide +kernel
theorem d_X_countHolding_52 : decode b_X_countHolding 52 = .ok (.ifCond .ne 6, 3) := by decide +kernel
theorem d_X_countHolding_55 : decode b_X_countHolding 55 = .ok (.iinc 2 1, 3) := by decide +kernel
theorem d_X_countHolding_58 : decode b_X_countHolding 58 = .ok (.iinc 3 1, 3) := by decide +kernel
theorem d_X_countHolding_61 : decode b_X_countHolding 61 = .ok (.goto (-57), 3) := by decide +kernel
theorem d_X_countHolding_64 : decode b_X_countHolding 64 = .ok (.iload_n 2, 1) := by decide +kernel
theorem d_X_countHolding_65 : decode b_X_countHolding 65 = .ok (.ireturn, 1) := by decide +kernel
theorem d_X_world_0 : decode b_X_world 0 = .ok (.iload_n 1, 1) := by decide +kernel
theorem d_X_world_1 : decode b_X_world 1 = .ok (.tableswitch 184 0 7 #[47, 55, 63, 81, 99, 117, 135, 163], 47) := by decide +kernel
theorem d_X_world_48 : decode b_X_world 48 = .ok (.aload_n 0, 1) := by decide +kernel
theorem d_X_world_49 : decode b_X_world 49 = .ok (.getfield 10, 3) := by decide +kernel
theorem d_X_world_52 : decode b_X_world 52 = .ok (.getfield 61, 3) := by decide +kernel
theorem d_X_world_55 : decode b_X_world 55 = .ok (.ireturn, 1) := by decide +kernel
theorem d_X_world_56 : decode b_X_world 56 = .ok (.aload_n 0, 1) := by decide +kernel
theorem d_X_world_57 : decode b_X_world 57 = .ok (.getfield 10, 3) := by decide +kernel
theorem d_X_world_60 : decode b_X_world 60 = .ok (.getfield 65, 3) := by decide +kernel
theorem d_X_world_63 : decode b_X_world 63 = .ok (.ireturn, 1) := by decide +kernel
theorem d_X_world_64 : decode b_X_world 64 = .ok (.aload_n 0, 1) := by decide +kernel
theorem d_X_world_65 : decode b_X_world 65 = .ok (.getfield 10, 3) := by decide +kernel
theorem d_X_world_68 : decode b_X_world 68 = .ok (.getfield 61, 3) := by decide +kernel
theorem d_X_world_71 : decode b_X_world 71 = .ok (.aload_n 0, 1) := by decide +kernel
theorem d_X_world_72 : decode b_X_world 72 = .ok (.getfield 10, 3) := by decide +kernel
theorem d_X_world_75 : decode b_X_world 75 = .ok (.getfield 65, 3) := by decide +kernel
theorem d_X_world_78 : decode b_X_world 78 = .ok (.invokestatic 156, 3) := by decide +kernel
theorem d_X_world_81 : decode b_X_world 81 = .ok (.ireturn, 1) := by decide +kernel
theorem d_X_world_82 : decode b_X_world 82 = .ok (.aload_n 0, 1) := by decide +kernel
theorem d_X_world_83 : decode b_X_world 83 = .ok (.getfield 10, 3) := by decide +kernel
theorem d_X_world_86 : decode b_X_world 86 = .ok (.getfield 61, 3) := by decide +kernel
theorem d_X_world_89 : decode b_X_world 89 = .ok (.aload_n 0, 1) := by decide +kernel
theorem d_X_world_90 : decode b_X_world 90 = .ok (.getfield 10, 3) := by decide +kernel
theorem d_X_world_93 : decode b_X_world 93 = .ok (.getfield 65, 3) := by decide +kernel
theorem d_X_world_96 : decode b_X_world 96 = .ok (.invokestatic 159, 3) := by decide +kernel
theorem d_X_world_99 : decode b_X_world 99 = .ok (.ireturn, 1) := by decide +kernel
theorem d_X_world_100 : decode b_X_world 100 = .ok (.aload_n 0, 1) := by decide +kernel
theorem d_X_world_101 : decode b_X_world 101 = .ok (.getfield 10, 3) := by decide +kernel
theorem d_X_world_104 : decode b_X_world 104 = .ok (.getfield 61, 3) := by decide +kernel
theorem d_X_world_107 : decode b_X_world 107 = .ok (.aload_n 0, 1) := by decide +kernel
theorem d_X_world_108 : decode b_X_world 108 = .ok (.getfield 10, 3) := by decide +kernel
theorem d_X_world_111 : decode b_X_world 111 = .ok (.getfield 65, 3) := by decide +kernel
theorem d_X_world_114 : decode b_X_world 114 = .ok (.invokestatic 162, 3) := by decide +kernel
theorem d_X_world_117 : decode b_X_world 117 = .ok (.ireturn, 1) := by decide +kernel
theorem d_X_world_118 : decode b_X_world 118 = .ok (.aload_n 0, 1) := by decide +kernel
theorem d_X_world_119 : decode b_X_world 119 = .ok (.getfield 10, 3) := by decide +kernel
theorem d_X_world_122 : decode b_X_world 122 = .ok (.getfield 61, 3) := by decide +kernel
theorem d_X_world_125 : decode b_X_world 125 = .ok (.aload_n 0, 1) := by decide +kernel
theorem d_X_world_126 : decode b_X_world 126 = .ok (.getfield 10, 3) := by decide +kernel
theorem d_X_world_129 : decode b_X_world 129 = .ok (.getfield 65, 3) := by decide +kernel
theorem d_X_world_132 : decode b_X_world 132 = .ok (.invokestatic 165, 3) := by decide +kernel
theorem d_X_world_135 : decode b_X_world 135 = .ok (.ireturn, 1) := by decide +kernel
theorem d_X_world_136 : decode b_X_world 136 = .ok (.aload_n 0, 1) := by decide +kernel
theorem d_X_world_137 : decode b_X_world 137 = .ok (.getfield 10, 3) := by decide +kernel
theorem d_X_world_140 : decode b_X_world 140 = .ok (.getfield 61, 3) := by decide +kernel
theorem d_X_world_143 : decode b_X_world 143 = .ok (.aload_n 0, 1) := by decide +kernel
theorem d_X_world_144 : decode b_X_world 144 = .ok (.getfield 10, 3) := by decide +kernel
theorem d_X_world_147 : decode b_X_world 147 = .ok (.getfield 61, 3) := by decide +kernel
theorem d_X_world_150 : decode b_X_world 150 = .ok (.aload_n 0, 1) := by decide +kernel
theorem d_X_world_151 : decode b_X_world 151 = .ok (.getfield 10, 3) := by decide +kernel
theorem d_X_world_154 : decode b_X_world 154 = .ok (.getfield 65, 3) := by decide +kernel
theorem d_X_world_157 : decode b_X_world 157 = .ok (.invokestatic 95, 3) := by decide +kernel
theorem d_X_world_160 : decode b_X_world 160 = .ok (.invokestatic 165, 3) := by decide +kernel
theorem d_X_world_163 : decode b_X_world 163 = .ok (.ireturn, 1) := by decide +kernel
theorem d_X_world_164 : decode b_X_world 164 = .ok (.aload_n 0, 1) := by decide +kernel
theorem d_X_world_165 : decode b_X_world 165 = .ok (.iconst 1, 1) := by decide +kernel
theorem d_X_world_166 : decode b_X_world 166 = .ok (.invokevirtual 168, 3) := by decide +kernel
theorem d_X_world_169 : decode b_X_world 169 = .ok (.aload_n 0, 1) := by decide +kernel
theorem d_X_world_170 : decode b_X_world 170 = .ok (.getfield 10, 3) := by decide +kernel
theorem d_X_world_173 : decode b_X_world 173 = .ok (.invokevirtual 128, 3) := by decide +kernel
theorem d_X_world_176 : decode b_X_world 176 = .ok (.if_icmp .ne 7, 3) := by decide +kernel
theorem d_X_world_179 : decode b_X_world 179 = .ok (.iconst 1, 1) := by decide +kernel
theorem d_X_world_180 : decode b_X_world 180 = .ok (.goto 4, 3) := by decide +kernel
theorem d_X_world_183 : decode b_X_world 183 = .ok (.iconst 0, 1) := by decide +kernel
theorem d_X_world_184 : decode b_X_world 184 = .ok (.ireturn, 1) := by decide +kernel
theorem d_X_world_185 : decode b_X_world 185 = .ok (.bipush (-2), 2) := by decide +kernel
theorem d_X_world_187 : decode b_X_world 187 = .ok (.ireturn, 1) := by decide +kernel
theorem d_X_closed_0 : decode b_X_closed 0 = .ok (.iload_n 1, 1) := by decide +kernel
theorem d_X_closed_1 : decode b_X_closed 1 = .ok (.ifCond .lt 16, 3) := by decide +kernel
theorem d_X_closed_4 : decode b_X_closed 4 = .ok (.iload_n 1, 1) := by decide +kernel
theorem d_X_closed_5 : decode b_X_closed 5 = .ok (.iconst 1, 1) := by decide +kernel
theorem d_X_closed_6 : decode b_X_closed 6 = .ok (.aload_n 0, 1) := by decide +kernel
theorem d_X_closed_7 : decode b_X_closed 7 = .ok (.getfield 10, 3) := by decide +kernel
theorem d_X_closed_10 : decode b_X_closed 10 = .ok (.getfield 61, 3) := by decide +kernel
theorem d_X_closed_13 : decode b_X_closed 13 = .ok (.ishl, 1) := by decide +kernel
theorem d_X_closed_14 : decode b_X_closed 14 = .ok (.if_icmp .lt 6, 3) := by decide +kernel
theorem d_X_closed_17 : decode b_X_closed 17 = .ok (.bipush (-2), 2) := by decide +kernel
theorem d_X_closed_19 : decode b_X_closed 19 = .ok (.ireturn, 1) := by decide +kernel
theorem d_X_closed_20 : decode b_X_closed 20 = .ok (.iload_n 1, 1) := by decide +kernel
theorem d_X_closed_21 : decode b_X_closed 21 = .ok (.istore_n 2, 1) := by decide +kernel
theorem d_X_closed_22 : decode b_X_closed 22 = .ok (.iconst 0, 1) := by decide +kernel
theorem d_X_closed_23 : decode b_X_closed 23 = .ok (.istore_n 3, 1) := by decide +kernel
theorem d_X_closed_24 : decode b_X_closed 24 = .ok (.iload_n 3, 1) := by decide +kernel
theorem d_X_closed_25 : decode b_X_closed 25 = .ok (.aload_n 0, 1) := by decide +kernel
theorem d_X_closed_26 : decode b_X_closed 26 = .ok (.getfield 10, 3) := by decide +kernel
theorem d_X_closed_29 : decode b_X_closed 29 = .ok (.getfield 61, 3) := by decide +kernel
theorem d_X_closed_32 : decode b_X_closed 32 = .ok (.if_icmp .ge 28, 3) := by decide +kernel
theorem d_X_closed_35 : decode b_X_closed 35 = .ok (.aload_n 0, 1) := by decide +kernel
theorem d_X_closed_36 : decode b_X_closed 36 = .ok (.getfield 10, 3) := by decide +kernel
theorem d_X_closed_39 : decode b_X_closed 39 = .ok (.getfield 61, 3) := by decide +kernel
theorem d_X_closed_42 : decode b_X_closed 42 = .ok (.aload_n 0, 1) := by decide +kernel
theorem d_X_closed_43 : decode b_X_closed 43 = .ok (.getfield 10, 3) := by decide +kernel
theorem d_X_closed_46 : decode b_X_closed 46 = .ok (.getfield 65, 3) := by decide +kernel
theorem d_X_closed_49 : decode b_X_closed 49 = .ok (.iload_n 2, 1) := by decide +kernel
theorem d_X_closed_50 : decode b_X_closed 50 = .ok (.invokestatic 172, 3) := by decide +kernel
theorem d_X_closed_53 : decode b_X_closed 53 = .ok (.istore_n 2, 1) := by decide +kernel
theorem d_X_closed_54 : decode b_X_closed 54 = .ok (.iinc 3 1, 3) := by decide +kernel
theorem d_X_closed_57 : decode b_X_closed 57 = .ok (.goto (-33), 3) := by decide +kernel
theorem d_X_closed_60 : decode b_X_closed 60 = .ok (.iload_n 2, 1) := by decide +kernel
theorem d_X_closed_61 : decode b_X_closed 61 = .ok (.ireturn, 1) := by decide +kernel
theorem d_X_firstCase_0 : decode b_X_firstCase 0 = .ok (.iload_n 0, 1) := by decide +kernel
theorem d_X_firstCase_1 : decode b_X_firstCase 1 = .ok (.ifCond .ne 8, 3) := by decide +kernel
theorem d_X_firstCase_4 : decode b_X_firstCase 4 = .ok (.bipush (-5), 2) := by decide +kernel
theorem d_X_firstCase_6 : decode b_X_firstCase 6 = .ok (.goto 12, 3) := by decide +kernel
theorem d_X_firstCase_9 : decode b_X_firstCase 9 = .ok (.iload_n 0, 1) := by decide +kernel
theorem d_X_firstCase_10 : decode b_X_firstCase 10 = .ok (.iload_n 0, 1) := by decide +kernel
theorem d_X_firstCase_11 : decode b_X_firstCase 11 = .ok (.ineg, 1) := by decide +kernel
theorem d_X_firstCase_12 : decode b_X_firstCase 12 = .ok (.iand, 1) := by decide +kernel
theorem d_X_firstCase_13 : decode b_X_firstCase 13 = .ok (.iconst 1, 1) := by decide +kernel
theorem d_X_firstCase_14 : decode b_X_firstCase 14 = .ok (.isub, 1) := by decide +kernel
theorem d_X_firstCase_15 : decode b_X_firstCase 15 = .ok (.invokestatic 183, 3) := by decide +kernel
theorem d_X_firstCase_18 : decode b_X_firstCase 18 = .ok (.ireturn, 1) := by decide +kernel
theorem d_X_law_0 : decode b_X_law 0 = .ok (.aload_n 0, 1) := by decide +kernel
theorem d_X_law_1 : decode b_X_law 1 = .ok (.getfield 10, 3) := by decide +kernel
theorem d_X_law_4 : decode b_X_law 4 = .ok (.iload_n 1, 1) := by decide +kernel
theorem d_X_law_5 : decode b_X_law 5 = .ok (.invokevirtual 175, 3) := by decide +kernel
theorem d_X_law_8 : decode b_X_law 8 = .ok (.astore_n 3, 1) := by decide +kernel
theorem d_X_law_9 : decode b_X_law 9 = .ok (.aload_n 3, 1) := by decide +kernel
theorem d_X_law_10 : decode b_X_law 10 = .ok (.ifnonnull 5, 3) := by decide +kernel
theorem d_X_law_13 : decode b_X_law 13 = .ok (.iconst (-1), 1) := by decide +kernel
theorem d_X_law_14 : decode b_X_law 14 = .ok (.ireturn, 1) := by decide +kernel
theorem d_X_law_15 : decode b_X_law 15 = .ok (.iload_n 2, 1) := by decide +kernel
theorem d_X_law_16 : decode b_X_law 16 = .ok (.tableswitch 124 0 6 #[44, 62, 71, 76, 81, 102, 115], 44) := by decide +kernel
theorem d_X_law_60 : decode b_X_law 60 = .ok (.aload_n 0, 1) := by decide +kernel
theorem d_X_law_61 : decode b_X_law 61 = .ok (.getfield 10, 3) := by decide +kernel
theorem d_X_law_64 : decode b_X_law 64 = .ok (.getfield 124, 3) := by decide +kernel
theorem d_X_law_67 : decode b_X_law 67 = .ok (.iload_n 1, 1) := by decide +kernel
theorem d_X_law_68 : decode b_X_law 68 = .ok (.baload, 1) := by decide +kernel
theorem d_X_law_69 : decode b_X_law 69 = .ok (.ifCond .eq 7, 3) := by decide +kernel
theorem d_X_law_72 : decode b_X_law 72 = .ok (.iconst 1, 1) := by decide +kernel
theorem d_X_law_73 : decode b_X_law 73 = .ok (.goto 4, 3) := by decide +kernel
theorem d_X_law_76 : decode b_X_law 76 = .ok (.iconst 0, 1) := by decide +kernel
theorem d_X_law_77 : decode b_X_law 77 = .ok (.ireturn, 1) := by decide +kernel
theorem d_X_law_78 : decode b_X_law 78 = .ok (.aload_n 0, 1) := by decide +kernel
theorem d_X_law_79 : decode b_X_law 79 = .ok (.aload_n 3, 1) := by decide +kernel
theorem d_X_law_80 : decode b_X_law 80 = .ok (.invokevirtual 179, 3) := by decide +kernel
theorem d_X_law_83 : decode b_X_law 83 = .ok (.invokestatic 183, 3) := by decide +kernel
theorem d_X_law_86 : decode b_X_law 86 = .ok (.ireturn, 1) := by decide +kernel
theorem d_X_law_87 : decode b_X_law 87 = .ok (.aload_n 3, 1) := by decide +kernel
theorem d_X_law_88 : decode b_X_law 88 = .ok (.getfield 188, 3) := by decide +kernel
theorem d_X_law_91 : decode b_X_law 91 = .ok (.ireturn, 1) := by decide +kernel
theorem d_X_law_92 : decode b_X_law 92 = .ok (.aload_n 3, 1) := by decide +kernel
theorem d_X_law_93 : decode b_X_law 93 = .ok (.getfield 193, 3) := by decide +kernel
theorem d_X_law_96 : decode b_X_law 96 = .ok (.ireturn, 1) := by decide +kernel
theorem d_X_law_97 : decode b_X_law 97 = .ok (.aload_n 0, 1) := by decide +kernel
theorem d_X_law_98 : decode b_X_law 98 = .ok (.getfield 40, 3) := by decide +kernel
theorem d_X_law_101 : decode b_X_law 101 = .ok (.aload_n 0, 1) := by decide +kernel
theorem d_X_law_102 : decode b_X_law 102 = .ok (.getfield 10, 3) := by decide +kernel
theorem d_X_law_105 : decode b_X_law 105 = .ok (.iload_n 1, 1) := by decide +kernel
theorem d_X_law_106 : decode b_X_law 106 = .ok (.invokevirtual 132, 3) := by decide +kernel
theorem d_X_law_109 : decode b_X_law 109 = .ok (.ifCond .ne 7, 3) := by decide +kernel
theorem d_X_law_112 : decode b_X_law 112 = .ok (.iconst 1, 1) := by decide +kernel
theorem d_X_law_113 : decode b_X_law 113 = .ok (.goto 4, 3) := by decide +kernel
theorem d_X_law_116 : decode b_X_law 116 = .ok (.iconst 0, 1) := by decide +kernel
theorem d_X_law_117 : decode b_X_law 117 = .ok (.ireturn, 1) := by decide +kernel
theorem d_X_law_118 : decode b_X_law 118 = .ok (.aload_n 0, 1) := by decide +kernel
theorem d_X_law_119 : decode b_X_law 119 = .ok (.getfield 40, 3) := by decide +kernel
theorem d_X_law_122 : decode b_X_law 122 = .ok (.aload_n 0, 1) := by decide +kernel
theorem d_X_law_123 : decode b_X_law 123 = .ok (.getfield 10, 3) := by decide +kernel
theorem d_X_law_126 : decode b_X_law 126 = .ok (.iload_n 1, 1) := by decide +kernel
theorem d_X_law_127 : decode b_X_law 127 = .ok (.invokevirtual 132, 3) := by decide +kernel
theorem d_X_law_130 : decode b_X_law 130 = .ok (.ireturn, 1) := by decide +kernel
theorem d_X_law_131 : decode b_X_law 131 = .ok (.aload_n 0, 1) := by decide +kernel
theorem d_X_law_132 : decode b_X_law 132 = .ok (.aload_n 3, 1) := by decide +kernel
theorem d_X_law_133 : decode b_X_law 133 = .ok (.invokevirtual 179, 3) := by decide +kernel
theorem d_X_law_136 : decode b_X_law 136 = .ok (.invokestatic 196, 3) := by decide +kernel
theorem d_X_law_139 : decode b_X_law 139 = .ok (.ireturn, 1) := by decide +kernel
theorem d_X_law_140 : decode b_X_law 140 = .ok (.bipush (-2), 2) := by decide +kernel
theorem d_X_law_142 : decode b_X_law 142 = .ok (.ireturn, 1) := by decide +kernel
theorem d_X_side_0 : decode b_X_side 0 = .ok (.aload_n 0, 1) := by decide +kernel
theorem d_X_side_1 : decode b_X_side 1 = .ok (.getfield 10, 3) := by decide +kernel
theorem d_X_side_4 : decode b_X_side 4 = .ok (.iload_n 1, 1) := by decide +kernel
theorem d_X_side_5 : decode b_X_side 5 = .ok (.invokevirtual 175, 3) := by decide +kernel
theorem d_X_side_8 : decode b_X_side 8 = .ok (.astore 4, 2) := by decide +kernel
theorem d_X_side_10 : decode b_X_side 10 = .ok (.aload 4, 2) := by decide +kernel
theorem d_X_side_12 : decode b_X_side 12 = .ok (.ifnonnull 5, 3) := by decide +kernel
theorem d_X_side_15 : decode b_X_side 15 = .ok (.iconst (-1), 1) := by decide +kernel
theorem d_X_side_16 : decode b_X_side 16 = .ok (.ireturn, 1) := by decide +kernel
theorem d_X_side_17 : decode b_X_side 17 = .ok (.iload_n 3, 1) := by decide +kernel
theorem d_X_side_18 : decode b_X_side 18 = .ok (.ifCond .lt 30, 3) := by decide +kernel
theorem d_X_side_21 : decode b_X_side 21 = .ok (.iload_n 3, 1) := by decide +kernel
theorem d_X_side_22 : decode b_X_side 22 = .ok (.aload_n 0, 1) := by decide +kernel
theorem d_X_side_23 : decode b_X_side 23 = .ok (.getfield 10, 3) := by decide +kernel
theorem d_X_side_26 : decode b_X_side 26 = .ok (.getfield 61, 3) := by decide +kernel
theorem d_X_side_29 : decode b_X_side 29 = .ok (.aload_n 0, 1) := by decide +kernel
theorem d_X_side_30 : decode b_X_side 30 = .ok (.getfield 10, 3) := by decide +kernel
theorem d_X_side_33 : decode b_X_side 33 = .ok (.getfield 61, 3) := by decide +kernel
theorem d_X_side_36 : decode b_X_side 36 = .ok (.imul, 1) := by decide +kernel
theorem d_X_side_37 : decode b_X_side 37 = .ok (.aload_n 0, 1) := by decide +kernel
theorem d_X_side_38 : decode b_X_side 38 = .ok (.getfield 10, 3) := by decide +kernel
theorem d_X_side_41 : decode b_X_side 41 = .ok (.getfield 61, 3) := by decide +kernel
theorem d_X_side_44 : decode b_X_side 44 = .ok (.imul, 1) := by decide +kernel
theorem d_X_side_45 : decode b_X_side 45 = .ok (.if_icmp .lt 6, 3) := by decide +kernel
theorem d_X_side_48 : decode b_X_side 48 = .ok (.bipush (-2), 2) := by decide +kernel
theorem d_X_side_50 : decode b_X_side 50 = .ok (.ireturn, 1) := by decide +kernel
theorem d_X_side_51 : decode b_X_side 51 = .ok (.aload_n 0, 1) := by decide +kernel
theorem d_X_side_52 : decode b_X_side 52 = .ok (.getfield 33, 3) := by decide +kernel
theorem d_X_side_55 : decode b_X_side 55 = .ok (.aload_n 0, 1) := by decide +kernel
theorem d_X_side_56 : decode b_X_side 56 = .ok (.getfield 10, 3) := by decide +kernel
theorem d_X_side_59 : decode b_X_side 59 = .ok (.getfield 61, 3) := by decide +kernel
theorem d_X_side_62 : decode b_X_side 62 = .ok (.aload_n 0, 1) := by decide +kernel
theorem d_X_side_63 : decode b_X_side 63 = .ok (.getfield 10, 3) := by decide +kernel
theorem d_X_side_66 : decode b_X_side 66 = .ok (.getfield 65, 3) := by decide +kernel
theorem d_X_side_69 : decode b_X_side 69 = .ok (.invokevirtual 199, 3) := by decide +kernel
theorem d_X_side_72 : decode b_X_side 72 = .ok (.aload_n 0, 1) := by decide +kernel
theorem d_X_side_73 : decode b_X_side 73 = .ok (.getfield 33, 3) := by decide +kernel
theorem d_X_side_76 : decode b_X_side 76 = .ok (.aload 4, 2) := by decide +kernel
theorem d_X_side_78 : decode b_X_side 78 = .ok (.invokevirtual 203, 3) := by decide +kernel
theorem d_X_side_81 : decode b_X_side 81 = .ok (.aload_n 0, 1) := by decide +kernel
theorem d_X_side_82 : decode b_X_side 82 = .ok (.getfield 33, 3) := by decide +kernel
theorem d_X_side_85 : decode b_X_side 85 = .ok (.iload_n 2, 1) := by decide +kernel
theorem d_X_side_86 : decode b_X_side 86 = .ok (.iload_n 3, 1) := by decide +kernel
theorem d_X_side_87 : decode b_X_side 87 = .ok (.invokevirtual 206, 3) := by decide +kernel
theorem d_X_side_90 : decode b_X_side 90 = .ok (.ireturn, 1) := by decide +kernel
theorem d_X_witness_0 : decode b_X_witness 0 = .ok (.aload_n 0, 1) := by decide +kernel
theorem d_X_witness_1 : decode b_X_witness 1 = .ok (.getfield 10, 3) := by decide +kernel
theorem d_X_witness_4 : decode b_X_witness 4 = .ok (.iload_n 1, 1) := by decide +kernel
theorem d_X_witness_5 : decode b_X_witness 5 = .ok (.invokevirtual 117, 3) := by decide +kernel
theorem d_X_witness_8 : decode b_X_witness 8 = .ok (.ifCond .ne 5, 3) := by decide +kernel
theorem d_X_witness_11 : decode b_X_witness 11 = .ok (.iconst (-1), 1) := by decide +kernel
theorem d_X_witness_12 : decode b_X_witness 12 = .ok (.ireturn, 1) := by decide +kernel
theorem d_X_witness_13 : decode b_X_witness 13 = .ok (.iload_n 2, 1) := by decide +kernel
theorem d_X_witness_14 : decode b_X_witness 14 = .ok (.ifCond .lt 12, 3) := by decide +kernel
theorem d_X_witness_17 : decode b_X_witness 17 = .ok (.iload_n 3, 1) := by decide +kernel
theorem d_X_witness_18 : decode b_X_witness 18 = .ok (.ifCond .lt 8, 3) := by decide +kernel
theorem d_X_witness_21 : decode b_X_witness 21 = .ok (.iload_n 3, 1) := by decide +kernel
theorem d_X_witness_22 : decode b_X_witness 22 = .ok (.iconst 2, 1) := by decide +kernel
theorem d_X_witness_23 : decode b_X_witness 23 = .ok (.if_icmp .le 6, 3) := by decide +kernel
theorem d_X_witness_26 : decode b_X_witness 26 = .ok (.bipush (-2), 2) := by decide +kernel
theorem d_X_witness_28 : decode b_X_witness 28 = .ok (.ireturn, 1) := by decide +kernel
theorem d_X_witness_29 : decode b_X_witness 29 = .ok (.aload_n 0, 1) := by decide +kernel
theorem d_X_witness_30 : decode b_X_witness 30 = .ok (.getfield 40, 3) := by decide +kernel
theorem d_X_witness_33 : decode b_X_witness 33 = .ok (.aload_n 0, 1) := by decide +kernel
theorem d_X_witness_34 : decode b_X_witness 34 = .ok (.getfield 10, 3) := by decide +kernel
theorem d_X_witness_37 : decode b_X_witness 37 = .ok (.iload_n 1, 1) := by decide +kernel
theorem d_X_witness_38 : decode b_X_witness 38 = .ok (.invokevirtual 132, 3) := by decide +kernel
theorem d_X_witness_41 : decode b_X_witness 41 = .ok (.pop, 1) := by decide +kernel
theorem d_X_witness_42 : decode b_X_witness 42 = .ok (.aload_n 0, 1) := by decide +kernel
theorem d_X_witness_43 : decode b_X_witness 43 = .ok (.getfield 40, 3) := by decide +kernel
theorem d_X_witness_46 : decode b_X_witness 46 = .ok (.iload_n 2, 1) := by decide +kernel
theorem d_X_witness_47 : decode b_X_witness 47 = .ok (.iload_n 3, 1) := by decide +kernel
theorem d_X_witness_48 : decode b_X_witness 48 = .ok (.invokevirtual 136, 3) := by decide +kernel
theorem d_X_witness_51 : decode b_X_witness 51 = .ok (.ireturn, 1) := by decide +kernel
theorem d_X_model_0 : decode b_X_model 0 = .ok (.iload_n 1, 1) := by decide +kernel
theorem d_X_model_1 : decode b_X_model 1 = .ok (.invokestatic 210, 3) := by decide +kernel
theorem d_X_model_4 : decode b_X_model 4 = .ok (.ifCond .eq 7, 3) := by decide +kernel
theorem d_X_model_7 : decode b_X_model 7 = .ok (.iload_n 2, 1) := by decide +kernel
theorem d_X_model_8 : decode b_X_model 8 = .ok (.ifCond .ge 6, 3) := by decide +kernel
theorem d_X_model_11 : decode b_X_model 11 = .ok (.bipush (-2), 2) := by decide +kernel
theorem d_X_model_13 : decode b_X_model 13 = .ok (.ireturn, 1) := by decide +kernel
theorem d_X_model_14 : decode b_X_model 14 = .ok (.aload_n 0, 1) := by decide +kernel
theorem d_X_model_15 : decode b_X_model 15 = .ok (.getfield 40, 3) := by decide +kernel
theorem d_X_model_18 : decode b_X_model 18 = .ok (.aload_n 0, 1) := by decide +kernel
theorem d_X_model_19 : decode b_X_model 19 = .ok (.getfield 10, 3) := by decide +kernel
theorem d_X_model_22 : decode b_X_model 22 = .ok (.iload_n 1, 1) := by decide +kernel
theorem d_X_model_23 : decode b_X_model 23 = .ok (.iload_n 2, 1) := by decide +kernel
theorem d_X_model_24 : decode b_X_model 24 = .ok (.invokevirtual 213, 3) := by decide +kernel
theorem d_X_model_27 : decode b_X_model 27 = .ok (.ireturn, 1) := by decide +kernel
theorem d_X_models_0 : decode b_X_models 0 = .ok (.iload_n 1, 1) := by decide +kernel
theorem d_X_models_1 : decode b_X_models 1 = .ok (.invokestatic 210, 3) := by decide +kernel
theorem d_X_models_4 : decode b_X_models 4 = .ok (.ifCond .ne 6, 3) := by decide +kernel
theorem d_X_models_7 : decode b_X_models 7 = .ok (.bipush (-2), 2) := by decide +kernel
theorem d_X_models_9 : decode b_X_models 9 = .ok (.ireturn, 1) := by decide +kernel
theorem d_X_models_10 : decode b_X_models 10 = .ok (.aload_n 0, 1) := by decide +kernel
theorem d_X_models_11 : decode b_X_models 11 = .ok (.getfield 40, 3) := by decide +kernel
theorem d_X_models_14 : decode b_X_models 14 = .ok (.aload_n 0, 1) := by decide +kernel
theorem d_X_models_15 : decode b_X_models 15 = .ok (.getfield 10, 3) := by decide +kernel
theorem d_X_models_18 : decode b_X_models 18 = .ok (.iload_n 1, 1) := by decide +kernel
theorem d_X_models_19 : decode b_X_models 19 = .ok (.iload_n 2, 1) := by decide +kernel
theorem d_X_models_20 : decode b_X_models 20 = .ok (.invokevirtual 217, 3) := by decide +kernel
theorem d_X_models_23 : decode b_X_models 23 = .ok (.ireturn, 1) := by decide +kernel
theorem d_X_sameCases_0 : decode b_X_sameCases 0 = .ok (.aload_n 0, 1) := by decide +kernel
theorem d_X_sameCases_1 : decode b_X_sameCases 1 = .ok (.getfield 33, 3) := by decide +kernel
theorem d_X_sameCases_4 : decode b_X_sameCases 4 = .ok (.iload_n 1, 1) := by decide +kernel
theorem d_X_sameCases_5 : decode b_X_sameCases 5 = .ok (.iload_n 2, 1) := by decide +kernel
theorem d_X_sameCases_6 : decode b_X_sameCases 6 = .ok (.invokevirtual 199, 3) := by decide +kernel
theorem d_X_sameCases_9 : decode b_X_sameCases 9 = .ok (.aload_n 0, 1) := by decide +kernel
theorem d_X_sameCases_10 : decode b_X_sameCases 10 = .ok (.getfield 33, 3) := by decide +kernel
theorem d_X_sameCases_13 : decode b_X_sameCases 13 = .ok (.aload_n 3, 1) := by decide +kernel
theorem d_X_sameCases_14 : decode b_X_sameCases 14 = .ok (.invokevirtual 203, 3) := by decide +kernel
theorem d_X_sameCases_17 : decode b_X_sameCases 17 = .ok (.iload_n 1, 1) := by decide +kernel
theorem d_X_sameCases_18 : decode b_X_sameCases 18 = .ok (.iload_n 1, 1) := by decide +kernel
theorem d_X_sameCases_19 : decode b_X_sameCases 19 = .ok (.imul, 1) := by decide +kernel
theorem d_X_sameCases_20 : decode b_X_sameCases 20 = .ok (.iload_n 1, 1) := by decide +kernel
theorem d_X_sameCases_21 : decode b_X_sameCases 21 = .ok (.imul, 1) := by decide +kernel
theorem d_X_sameCases_22 : decode b_X_sameCases 22 = .ok (.aload_n 0, 1) := by decide +kernel
theorem d_X_sameCases_23 : decode b_X_sameCases 23 = .ok (.getfield 33, 3) := by decide +kernel
theorem d_X_sameCases_26 : decode b_X_sameCases 26 = .ok (.invokevirtual 228, 3) := by decide +kernel
theorem d_X_sameCases_29 : decode b_X_sameCases 29 = .ok (.invokestatic 183, 3) := by decide +kernel
theorem d_X_sameCases_32 : decode b_X_sameCases 32 = .ok (.isub, 1) := by decide +kernel
theorem d_X_sameCases_33 : decode b_X_sameCases 33 = .ok (.ireturn, 1) := by decide +kernel
theorem d_X_paired_0 : decode b_X_paired 0 = .ok (.iload_n 1, 1) := by decide +kernel
theorem d_X_paired_1 : decode b_X_paired 1 = .ok (.iload_n 2, 1) := by decide +kernel
theorem d_X_paired_2 : decode b_X_paired 2 = .ok (.invokestatic 55, 3) := by decide +kernel
theorem d_X_paired_5 : decode b_X_paired 5 = .ok (.ifCond .ne 6, 3) := by decide +kernel
theorem d_X_paired_8 : decode b_X_paired 8 = .ok (.bipush (-2), 2) := by decide +kernel
theorem d_X_paired_10 : decode b_X_paired 10 = .ok (.ireturn, 1) := by decide +kernel
theorem d_X_paired_11 : decode b_X_paired 11 = .ok (.aload_n 0, 1) := by decide +kernel
theorem d_X_paired_12 : decode b_X_paired 12 = .ok (.getfield 10, 3) := by decide +kernel
theorem d_X_paired_15 : decode b_X_paired 15 = .ok (.iload_n 3, 1) := by decide +kernel
theorem d_X_paired_16 : decode b_X_paired 16 = .ok (.invokevirtual 175, 3) := by decide +kernel
theorem d_X_paired_19 : decode b_X_paired 19 = .ok (.astore 4, 2) := by decide +kernel
theorem d_X_paired_21 : decode b_X_paired 21 = .ok (.aload 4, 2) := by decide +kernel
theorem d_X_paired_23 : decode b_X_paired 23 = .ok (.ifnonnull 5, 3) := by decide +kernel
theorem d_X_paired_26 : decode b_X_paired 26 = .ok (.iconst (-1), 1) := by decide +kernel
theorem d_X_paired_27 : decode b_X_paired 27 = .ok (.ireturn, 1) := by decide +kernel
theorem d_X_paired_28 : decode b_X_paired 28 = .ok (.aload_n 0, 1) := by decide +kernel
theorem d_X_paired_29 : decode b_X_paired 29 = .ok (.getfield 10, 3) := by decide +kernel
theorem d_X_paired_32 : decode b_X_paired 32 = .ok (.getfield 61, 3) := by decide +kernel
theorem d_X_paired_35 : decode b_X_paired 35 = .ok (.iload_n 1, 1) := by decide +kernel
theorem d_X_paired_36 : decode b_X_paired 36 = .ok (.imul, 1) := by decide +kernel
theorem d_X_paired_37 : decode b_X_paired 37 = .ok (.istore 5, 2) := by decide +kernel
theorem d_X_paired_39 : decode b_X_paired 39 = .ok (.aload_n 0, 1) := by decide +kernel
theorem d_X_paired_40 : decode b_X_paired 40 = .ok (.aload_n 0, 1) := by decide +kernel
theorem d_X_paired_41 : decode b_X_paired 41 = .ok (.getfield 10, 3) := by decide +kernel
theorem d_X_paired_44 : decode b_X_paired 44 = .ok (.getfield 61, 3) := by decide +kernel
theorem d_X_paired_47 : decode b_X_paired 47 = .ok (.aload_n 0, 1) := by decide +kernel
theorem d_X_paired_48 : decode b_X_paired 48 = .ok (.getfield 10, 3) := by decide +kernel
theorem d_X_paired_51 : decode b_X_paired 51 = .ok (.getfield 65, 3) := by decide +kernel
theorem d_X_paired_54 : decode b_X_paired 54 = .ok (.aload 4, 2) := by decide +kernel
theorem d_X_paired_56 : decode b_X_paired 56 = .ok (.invokevirtual 221, 3) := by decide +kernel
theorem d_X_paired_59 : decode b_X_paired 59 = .ok (.aload_n 0, 1) := by decide +kernel
theorem d_X_paired_60 : decode b_X_paired 60 = .ok (.iload_n 1, 1) := by decide +kernel
theorem d_X_paired_61 : decode b_X_paired 61 = .ok (.iload_n 2, 1) := by decide +kernel
theorem d_X_paired_62 : decode b_X_paired 62 = .ok (.aload 4, 2) := by decide +kernel
theorem d_X_paired_64 : decode b_X_paired 64 = .ok (.invokevirtual 221, 3) := by decide +kernel
theorem d_X_paired_67 : decode b_X_paired 67 = .ok (.imul, 1) := by decide +kernel
theorem d_X_paired_68 : decode b_X_paired 68 = .ok (.istore 6, 2) := by decide +kernel
theorem d_X_paired_70 : decode b_X_paired 70 = .ok (.iload 5, 2) := by decide +kernel
theorem d_X_paired_72 : decode b_X_paired 72 = .ok (.iload 5, 2) := by decide +kernel
theorem d_X_paired_74 : decode b_X_paired 74 = .ok (.imul, 1) := by decide +kernel
theorem d_X_paired_75 : decode b_X_paired 75 = .ok (.iload 5, 2) := by decide +kernel
theorem d_X_paired_77 : decode b_X_paired 77 = .ok (.imul, 1) := by decide +kernel
theorem d_X_paired_78 : decode b_X_paired 78 = .ok (.iload 6, 2) := by decide +kernel
theorem d_X_paired_80 : decode b_X_paired 80 = .ok (.isub, 1) := by decide +kernel
theorem d_X_paired_81 : decode b_X_paired 81 = .ok (.ireturn, 1) := by decide +kernel
theorem d_X_alike_0 : decode b_X_alike 0 = .ok (.iload_n 1, 1) := by decide +kernel
theorem d_X_alike_1 : decode b_X_alike 1 = .ok (.iload_n 2, 1) := by decide +kernel
theorem d_X_alike_2 : decode b_X_alike 2 = .ok (.invokestatic 55, 3) := by decide +kernel
theorem d_X_alike_5 : decode b_X_alike 5 = .ok (.ifCond .eq 11, 3) := by decide +kernel
theorem d_X_alike_8 : decode b_X_alike 8 = .ok (.iload_n 1, 1) := by decide +kernel
theorem d_X_alike_9 : decode b_X_alike 9 = .ok (.iload_n 3, 1) := by decide +kernel
theorem d_X_alike_10 : decode b_X_alike 10 = .ok (.invokestatic 55, 3) := by decide +kernel
theorem d_X_alike_13 : decode b_X_alike 13 = .ok (.ifCond .ne 6, 3) := by decide +kernel
theorem d_X_alike_16 : decode b_X_alike 16 = .ok (.bipush (-2), 2) := by decide +kernel
theorem d_X_alike_18 : decode b_X_alike 18 = .ok (.ireturn, 1) := by decide +kernel
theorem d_X_alike_19 : decode b_X_alike 19 = .ok (.iload_n 1, 1) := by decide +kernel
theorem d_X_alike_20 : decode b_X_alike 20 = .ok (.iload_n 2, 1) := by decide +kernel
theorem d_X_alike_21 : decode b_X_alike 21 = .ok (.invokestatic 156, 3) := by decide +kernel
theorem d_X_alike_24 : decode b_X_alike 24 = .ok (.iload_n 1, 1) := by decide +kernel
theorem d_X_alike_25 : decode b_X_alike 25 = .ok (.iload_n 3, 1) := by decide +kernel
theorem d_X_alike_26 : decode b_X_alike 26 = .ok (.invokestatic 156, 3) := by decide +kernel
theorem d_X_alike_29 : decode b_X_alike 29 = .ok (.if_icmp .ne 7, 3) := by decide +kernel
theorem d_X_alike_32 : decode b_X_alike 32 = .ok (.iconst 1, 1) := by decide +kernel
theorem d_X_alike_33 : decode b_X_alike 33 = .ok (.goto 4, 3) := by decide +kernel
theorem d_X_alike_36 : decode b_X_alike 36 = .ok (.iconst 0, 1) := by decide +kernel
theorem d_X_alike_37 : decode b_X_alike 37 = .ok (.ireturn, 1) := by decide +kernel
theorem d_X_countFollowing_0 : decode b_X_countFollowing 0 = .ok (.iconst 0, 1) := by decide +kernel
theorem d_X_countFollowing_1 : decode b_X_countFollowing 1 = .ok (.istore_n 1, 1) := by decide +kernel
theorem d_X_countFollowing_2 : decode b_X_countFollowing 2 = .ok (.iconst 0, 1) := by decide +kernel
theorem d_X_countFollowing_3 : decode b_X_countFollowing 3 = .ok (.istore_n 2, 1) := by decide +kernel
theorem d_X_countFollowing_4 : decode b_X_countFollowing 4 = .ok (.iload_n 2, 1) := by decide +kernel
theorem d_X_countFollowing_5 : decode b_X_countFollowing 5 = .ok (.aload_n 0, 1) := by decide +kernel
theorem d_X_countFollowing_6 : decode b_X_countFollowing 6 = .ok (.getfield 10, 3) := by decide +kernel
theorem d_X_countFollowing_9 : decode b_X_countFollowing 9 = .ok (.getfield 105, 3) := by decide +kernel
theorem d_X_countFollowing_12 : decode b_X_countFollowing 12 = .ok (.if_icmp .ge 27, 3) := by decide +kernel
theorem d_X_countFollowing_15 : decode b_X_countFollowing 15 = .ok (.aload_n 0, 1) := by decide +kernel
theorem d_X_countFollowing_16 : decode b_X_countFollowing 16 = .ok (.getfield 40, 3) := by decide +kernel
theorem d_X_countFollowing_19 : decode b_X_countFollowing 19 = .ok (.aload_n 0, 1) := by decide +kernel
theorem d_X_countFollowing_20 : decode b_X_countFollowing 20 = .ok (.getfield 10, 3) := by decide +kernel
theorem d_X_countFollowing_23 : decode b_X_countFollowing 23 = .ok (.iload_n 2, 1) := by decide +kernel
theorem d_X_countFollowing_24 : decode b_X_countFollowing 24 = .ok (.invokevirtual 132, 3) := by decide +kernel
theorem d_X_countFollowing_27 : decode b_X_countFollowing 27 = .ok (.ifCond .ne 6, 3) := by decide +kernel
theorem d_X_countFollowing_30 : decode b_X_countFollowing 30 = .ok (.iinc 1 1, 3) := by decide +kernel
theorem d_X_countFollowing_33 : decode b_X_countFollowing 33 = .ok (.iinc 2 1, 3) := by decide +kernel
theorem d_X_countFollowing_36 : decode b_X_countFollowing 36 = .ok (.goto (-32), 3) := by decide +kernel
theorem d_X_countFollowing_39 : decode b_X_countFollowing 39 = .ok (.iload_n 1, 1) := by decide +kernel
theorem d_X_countFollowing_40 : decode b_X_countFollowing 40 = .ok (.ireturn, 1) := by decide +kernel
theorem d_X_count_0 : decode b_X_count 0 = .ok (.iload_n 1, 1) := by decide +kernel
theorem d_X_count_1 : decode b_X_count 1 = .ok (.tableswitch 79 0 5 #[39, 47, 55, 61, 66, 74], 39) := by decide +kernel
theorem d_X_count_40 : decode b_X_count 40 = .ok (.aload_n 0, 1) := by decide +kernel
theorem d_X_count_41 : decode b_X_count 41 = .ok (.getfield 10, 3) := by decide +kernel
theorem d_X_count_44 : decode b_X_count 44 = .ok (.getfield 105, 3) := by decide +kernel
theorem d_X_count_47 : decode b_X_count 47 = .ok (.ireturn, 1) := by decide +kernel
theorem d_X_count_48 : decode b_X_count 48 = .ok (.aload_n 0, 1) := by decide +kernel
theorem d_X_count_49 : decode b_X_count 49 = .ok (.getfield 10, 3) := by decide +kernel
theorem d_X_count_52 : decode b_X_count 52 = .ok (.invokevirtual 128, 3) := by decide +kernel
theorem d_X_count_55 : decode b_X_count 55 = .ok (.ireturn, 1) := by decide +kernel
theorem d_X_count_56 : decode b_X_count 56 = .ok (.aload_n 0, 1) := by decide +kernel
theorem d_X_count_57 : decode b_X_count 57 = .ok (.iconst 0, 1) := by decide +kernel
theorem d_X_count_58 : decode b_X_count 58 = .ok (.invokevirtual 168, 3) := by decide +kernel
theorem d_X_count_61 : decode b_X_count 61 = .ok (.ireturn, 1) := by decide +kernel
theorem d_X_count_62 : decode b_X_count 62 = .ok (.aload_n 0, 1) := by decide +kernel
theorem d_X_count_63 : decode b_X_count 63 = .ok (.invokevirtual 225, 3) := by decide +kernel
theorem d_X_count_66 : decode b_X_count 66 = .ok (.ireturn, 1) := by decide +kernel
theorem d_X_count_67 : decode b_X_count 67 = .ok (.aload_n 0, 1) := by decide +kernel
theorem d_X_count_68 : decode b_X_count 68 = .ok (.getfield 19, 3) := by decide +kernel
theorem d_X_count_71 : decode b_X_count 71 = .ok (.getfield 143, 3) := by decide +kernel
theorem d_X_count_74 : decode b_X_count 74 = .ok (.ireturn, 1) := by decide +kernel
theorem d_X_count_75 : decode b_X_count 75 = .ok (.aload_n 0, 1) := by decide +kernel
theorem d_X_count_76 : decode b_X_count 76 = .ok (.getfield 98, 3) := by decide +kernel
theorem d_X_count_79 : decode b_X_count 79 = .ok (.ireturn, 1) := by decide +kernel
theorem d_X_count_80 : decode b_X_count 80 = .ok (.bipush (-2), 2) := by decide +kernel
theorem d_X_count_82 : decode b_X_count 82 = .ok (.ireturn, 1) := by decide +kernel
