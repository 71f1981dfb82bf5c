theorem d_M_lawsOn_0 : decode b_M_lawsOn 0 = .ok (.iconst 0, 1) := by decide +kernel
theorem d_M_lawsOn_1 : decode b_M_lawsOn 1 = .ok (.istore_n 1, 1) := by decide +kernel
theorem d_M_lawsOn_2 : decode b_M_lawsOn 2 = .ok (.iconst 0, 1) := by decide +kernel
theorem d_M_lawsOn_3 : decode b_M_lawsOn 3 = .ok (.istore_n 2, 1) := by decide +kernel
theorem d_M_lawsOn_4 : decode b_M_lawsOn 4 = .ok (.iload_n 2, 1) := by decide +kernel
theorem d_M_lawsOn_5 : decode b_M_lawsOn 5 = .ok (.aload_n 0, 1) := by decide +kernel
theorem d_M_lawsOn_6 : decode b_M_lawsOn 6 = .ok (.getfield 7, 3) := by decide +kernel
theorem d_M_lawsOn_9 : decode b_M_lawsOn 9 = .ok (.iconst 2, 1) := by decide +kernel
theorem d_M_lawsOn_10 : decode b_M_lawsOn 10 = .ok (.iaload, 1) := by decide +kernel
theorem d_M_lawsOn_11 : decode b_M_lawsOn 11 = .ok (.if_icmp .ge 21, 3) := by decide +kernel
theorem d_M_lawsOn_14 : decode b_M_lawsOn 14 = .ok (.iload_n 1, 1) := by decide +kernel
theorem d_M_lawsOn_15 : decode b_M_lawsOn 15 = .ok (.aload_n 0, 1) := by decide +kernel
theorem d_M_lawsOn_16 : decode b_M_lawsOn 16 = .ok (.getfield 7, 3) := by decide +kernel
theorem d_M_lawsOn_19 : decode b_M_lawsOn 19 = .ok (.iload_n 2, 1) := by decide +kernel
theorem d_M_lawsOn_20 : decode b_M_lawsOn 20 = .ok (.invokestatic 86, 3) := by decide +kernel
theorem d_M_lawsOn_23 : decode b_M_lawsOn 23 = .ok (.iaload, 1) := by decide +kernel
theorem d_M_lawsOn_24 : decode b_M_lawsOn 24 = .ok (.iadd, 1) := by decide +kernel
theorem d_M_lawsOn_25 : decode b_M_lawsOn 25 = .ok (.istore_n 1, 1) := by decide +kernel
theorem d_M_lawsOn_26 : decode b_M_lawsOn 26 = .ok (.iinc 2 1, 3) := by decide +kernel
theorem d_M_lawsOn_29 : decode b_M_lawsOn 29 = .ok (.goto (-25), 3) := by decide +kernel
theorem d_M_lawsOn_32 : decode b_M_lawsOn 32 = .ok (.iload_n 1, 1) := by decide +kernel
theorem d_M_lawsOn_33 : decode b_M_lawsOn 33 = .ok (.ireturn, 1) := by decide +kernel
theorem d_M_turnLaw_0 : decode b_M_turnLaw 0 = .ok (.aload_n 0, 1) := by decide +kernel
theorem d_M_turnLaw_1 : decode b_M_turnLaw 1 = .ok (.iload_n 1, 1) := by decide +kernel
theorem d_M_turnLaw_2 : decode b_M_turnLaw 2 = .ok (.invokevirtual 189, 3) := by decide +kernel
theorem d_M_turnLaw_5 : decode b_M_turnLaw 5 = .ok (.ifCond .ne 5, 3) := by decide +kernel
theorem d_M_turnLaw_8 : decode b_M_turnLaw 8 = .ok (.iconst (-1), 1) := by decide +kernel
theorem d_M_turnLaw_9 : decode b_M_turnLaw 9 = .ok (.ireturn, 1) := by decide +kernel
theorem d_M_turnLaw_10 : decode b_M_turnLaw 10 = .ok (.aload_n 0, 1) := by decide +kernel
theorem d_M_turnLaw_11 : decode b_M_turnLaw 11 = .ok (.iload_n 1, 1) := by decide +kernel
theorem d_M_turnLaw_12 : decode b_M_turnLaw 12 = .ok (.invokevirtual 111, 3) := by decide +kernel
theorem d_M_turnLaw_15 : decode b_M_turnLaw 15 = .ok (.iload_n 2, 1) := by decide +kernel
theorem d_M_turnLaw_16 : decode b_M_turnLaw 16 = .ok (.if_icmp .ne 6, 3) := by decide +kernel
theorem d_M_turnLaw_19 : decode b_M_turnLaw 19 = .ok (.bipush (-5), 2) := by decide +kernel
theorem d_M_turnLaw_21 : decode b_M_turnLaw 21 = .ok (.ireturn, 1) := by decide +kernel
theorem d_M_turnLaw_22 : decode b_M_turnLaw 22 = .ok (.aload_n 0, 1) := by decide +kernel
theorem d_M_turnLaw_23 : decode b_M_turnLaw 23 = .ok (.invokevirtual 128, 3) := by decide +kernel
theorem d_M_turnLaw_26 : decode b_M_turnLaw 26 = .ok (.aload_n 0, 1) := by decide +kernel
theorem d_M_turnLaw_27 : decode b_M_turnLaw 27 = .ok (.getfield 7, 3) := by decide +kernel
theorem d_M_turnLaw_30 : decode b_M_turnLaw 30 = .ok (.iload_n 1, 1) := by decide +kernel
theorem d_M_turnLaw_31 : decode b_M_turnLaw 31 = .ok (.invokestatic 86, 3) := by decide +kernel
theorem d_M_turnLaw_34 : decode b_M_turnLaw 34 = .ok (.iload_n 2, 1) := by decide +kernel
theorem d_M_turnLaw_35 : decode b_M_turnLaw 35 = .ok (.ifCond .eq 7, 3) := by decide +kernel
theorem d_M_turnLaw_38 : decode b_M_turnLaw 38 = .ok (.iconst 1, 1) := by decide +kernel
theorem d_M_turnLaw_39 : decode b_M_turnLaw 39 = .ok (.goto 4, 3) := by decide +kernel
theorem d_M_turnLaw_42 : decode b_M_turnLaw 42 = .ok (.iconst 0, 1) := by decide +kernel
theorem d_M_turnLaw_43 : decode b_M_turnLaw 43 = .ok (.iastore, 1) := by decide +kernel
theorem d_M_turnLaw_44 : decode b_M_turnLaw 44 = .ok (.aload_n 0, 1) := by decide +kernel
theorem d_M_turnLaw_45 : decode b_M_turnLaw 45 = .ok (.aload_n 0, 1) := by decide +kernel
theorem d_M_turnLaw_46 : decode b_M_turnLaw 46 = .ok (.invokevirtual 192, 3) := by decide +kernel
theorem d_M_turnLaw_49 : decode b_M_turnLaw 49 = .ok (.invokevirtual 131, 3) := by decide +kernel
theorem d_M_turnLaw_52 : decode b_M_turnLaw 52 = .ok (.ireturn, 1) := by decide +kernel
theorem d_M_isKnown_0 : decode b_M_isKnown 0 = .ok (.iload_n 1, 1) := by decide +kernel
theorem d_M_isKnown_1 : decode b_M_isKnown 1 = .ok (.aload_n 0, 1) := by decide +kernel
theorem d_M_isKnown_2 : decode b_M_isKnown 2 = .ok (.getfield 100, 3) := by decide +kernel
theorem d_M_isKnown_5 : decode b_M_isKnown 5 = .ok (.if_icmp .ge 7, 3) := by decide +kernel
theorem d_M_isKnown_8 : decode b_M_isKnown 8 = .ok (.iconst 1, 1) := by decide +kernel
theorem d_M_isKnown_9 : decode b_M_isKnown 9 = .ok (.goto 4, 3) := by decide +kernel
theorem d_M_isKnown_12 : decode b_M_isKnown 12 = .ok (.iconst 0, 1) := by decide +kernel
theorem d_M_isKnown_13 : decode b_M_isKnown 13 = .ok (.istore_n 2, 1) := by decide +kernel
theorem d_M_isKnown_14 : decode b_M_isKnown 14 = .ok (.iconst 1, 1) := by decide +kernel
theorem d_M_isKnown_15 : decode b_M_isKnown 15 = .ok (.istore_n 3, 1) := by decide +kernel
theorem d_M_isKnown_16 : decode b_M_isKnown 16 = .ok (.iload_n 3, 1) := by decide +kernel
theorem d_M_isKnown_17 : decode b_M_isKnown 17 = .ok (.bipush 33, 2) := by decide +kernel
theorem d_M_isKnown_19 : decode b_M_isKnown 19 = .ok (.if_icmp .ge 44, 3) := by decide +kernel
theorem d_M_isKnown_22 : decode b_M_isKnown 22 = .ok (.iload_n 2, 1) := by decide +kernel
theorem d_M_isKnown_23 : decode b_M_isKnown 23 = .ok (.ifCond .eq 40, 3) := by decide +kernel
theorem d_M_isKnown_26 : decode b_M_isKnown 26 = .ok (.aload_n 0, 1) := by decide +kernel
theorem d_M_isKnown_27 : decode b_M_isKnown 27 = .ok (.getfield 37, 3) := by decide +kernel
theorem d_M_isKnown_30 : decode b_M_isKnown 30 = .ok (.bipush 33, 2) := by decide +kernel
theorem d_M_isKnown_32 : decode b_M_isKnown 32 = .ok (.iload_n 1, 1) := by decide +kernel
theorem d_M_isKnown_33 : decode b_M_isKnown 33 = .ok (.imul, 1) := by decide +kernel
theorem d_M_isKnown_34 : decode b_M_isKnown 34 = .ok (.iload_n 3, 1) := by decide +kernel
theorem d_M_isKnown_35 : decode b_M_isKnown 35 = .ok (.iadd, 1) := by decide +kernel
theorem d_M_isKnown_36 : decode b_M_isKnown 36 = .ok (.iaload, 1) := by decide +kernel
theorem d_M_isKnown_37 : decode b_M_isKnown 37 = .ok (.aload_n 0, 1) := by decide +kernel
theorem d_M_isKnown_38 : decode b_M_isKnown 38 = .ok (.getfield 7, 3) := by decide +kernel
theorem d_M_isKnown_41 : decode b_M_isKnown 41 = .ok (.iload_n 1, 1) := by decide +kernel
theorem d_M_isKnown_42 : decode b_M_isKnown 42 = .ok (.invokestatic 86, 3) := by decide +kernel
theorem d_M_isKnown_45 : decode b_M_isKnown 45 = .ok (.iload_n 3, 1) := by decide +kernel
theorem d_M_isKnown_46 : decode b_M_isKnown 46 = .ok (.iadd, 1) := by decide +kernel
theorem d_M_isKnown_47 : decode b_M_isKnown 47 = .ok (.iaload, 1) := by decide +kernel
theorem d_M_isKnown_48 : decode b_M_isKnown 48 = .ok (.if_icmp .ne 7, 3) := by decide +kernel
theorem d_M_isKnown_51 : decode b_M_isKnown 51 = .ok (.iconst 1, 1) := by decide +kernel
theorem d_M_isKnown_52 : decode b_M_isKnown 52 = .ok (.goto 4, 3) := by decide +kernel
theorem d_M_isKnown_55 : decode b_M_isKnown 55 = .ok (.iconst 0, 1) := by decide +kernel
theorem d_M_isKnown_56 : decode b_M_isKnown 56 = .ok (.istore_n 2, 1) := by decide +kernel
theorem d_M_isKnown_57 : decode b_M_isKnown 57 = .ok (.iinc 3 1, 3) := by decide +kernel
theorem d_M_isKnown_60 : decode b_M_isKnown 60 = .ok (.goto (-44), 3) := by decide +kernel
theorem d_M_isKnown_63 : decode b_M_isKnown 63 = .ok (.iload_n 2, 1) := by decide +kernel
theorem d_M_isKnown_64 : decode b_M_isKnown 64 = .ok (.ireturn, 1) := by decide +kernel
theorem d_M_sizeAt_0 : decode b_M_sizeAt 0 = .ok (.iload_n 1, 1) := by decide +kernel
theorem d_M_sizeAt_1 : decode b_M_sizeAt 1 = .ok (.aload_n 0, 1) := by decide +kernel
theorem d_M_sizeAt_2 : decode b_M_sizeAt 2 = .ok (.iconst 2, 1) := by decide +kernel
theorem d_M_sizeAt_3 : decode b_M_sizeAt 3 = .ok (.iaload, 1) := by decide +kernel
theorem d_M_sizeAt_4 : decode b_M_sizeAt 4 = .ok (.if_icmp .ge 7, 3) := by decide +kernel
theorem d_M_sizeAt_7 : decode b_M_sizeAt 7 = .ok (.iconst 1, 1) := by decide +kernel
theorem d_M_sizeAt_8 : decode b_M_sizeAt 8 = .ok (.goto 15, 3) := by decide +kernel
theorem d_M_sizeAt_11 : decode b_M_sizeAt 11 = .ok (.iload_n 1, 1) := by decide +kernel
theorem d_M_sizeAt_12 : decode b_M_sizeAt 12 = .ok (.aload_n 0, 1) := by decide +kernel
theorem d_M_sizeAt_13 : decode b_M_sizeAt 13 = .ok (.iconst 3, 1) := by decide +kernel
theorem d_M_sizeAt_14 : decode b_M_sizeAt 14 = .ok (.iaload, 1) := by decide +kernel
theorem d_M_sizeAt_15 : decode b_M_sizeAt 15 = .ok (.if_icmp .ge 7, 3) := by decide +kernel
theorem d_M_sizeAt_18 : decode b_M_sizeAt 18 = .ok (.iconst 2, 1) := by decide +kernel
theorem d_M_sizeAt_19 : decode b_M_sizeAt 19 = .ok (.goto 4, 3) := by decide +kernel
theorem d_M_sizeAt_22 : decode b_M_sizeAt 22 = .ok (.iconst 3, 1) := by decide +kernel
theorem d_M_sizeAt_23 : decode b_M_sizeAt 23 = .ok (.ireturn, 1) := by decide +kernel
theorem d_M_comesOf_0 : decode b_M_comesOf 0 = .ok (.iconst 0, 1) := by decide +kernel
theorem d_M_comesOf_1 : decode b_M_comesOf 1 = .ok (.istore 4, 2) := by decide +kernel
theorem d_M_comesOf_3 : decode b_M_comesOf 3 = .ok (.iconst 1, 1) := by decide +kernel
theorem d_M_comesOf_4 : decode b_M_comesOf 4 = .ok (.istore 5, 2) := by decide +kernel
theorem d_M_comesOf_6 : decode b_M_comesOf 6 = .ok (.iload 5, 2) := by decide +kernel
theorem d_M_comesOf_8 : decode b_M_comesOf 8 = .ok (.aload_n 0, 1) := by decide +kernel
theorem d_M_comesOf_9 : decode b_M_comesOf 9 = .ok (.getfield 7, 3) := by decide +kernel
theorem d_M_comesOf_12 : decode b_M_comesOf 12 = .ok (.iload_n 2, 1) := by decide +kernel
theorem d_M_comesOf_13 : decode b_M_comesOf 13 = .ok (.iaload, 1) := by decide +kernel
theorem d_M_comesOf_14 : decode b_M_comesOf 14 = .ok (.if_icmp .gt 105, 3) := by decide +kernel
theorem d_M_comesOf_17 : decode b_M_comesOf 17 = .ok (.aload_n 0, 1) := by decide +kernel
theorem d_M_comesOf_18 : decode b_M_comesOf 18 = .ok (.getfield 7, 3) := by decide +kernel
theorem d_M_comesOf_21 : decode b_M_comesOf 21 = .ok (.iload_n 2, 1) := by decide +kernel
theorem d_M_comesOf_22 : decode b_M_comesOf 22 = .ok (.iload 5, 2) := by decide +kernel
theorem d_M_comesOf_24 : decode b_M_comesOf 24 = .ok (.iadd, 1) := by decide +kernel
theorem d_M_comesOf_25 : decode b_M_comesOf 25 = .ok (.iaload, 1) := by decide +kernel
theorem d_M_comesOf_26 : decode b_M_comesOf 26 = .ok (.istore 6, 2) := by decide +kernel
theorem d_M_comesOf_28 : decode b_M_comesOf 28 = .ok (.iload 6, 2) := by decide +kernel
theorem d_M_comesOf_30 : decode b_M_comesOf 30 = .ok (.iconst 3, 1) := by decide +kernel
theorem d_M_comesOf_31 : decode b_M_comesOf 31 = .ok (.if_icmp .ne 42, 3) := by decide +kernel
theorem d_M_comesOf_34 : decode b_M_comesOf 34 = .ok (.iinc 4 (-1), 3) := by decide +kernel
theorem d_M_comesOf_37 : decode b_M_comesOf 37 = .ok (.aload_n 0, 1) := by decide +kernel
theorem d_M_comesOf_38 : decode b_M_comesOf 38 = .ok (.getfield 31, 3) := by decide +kernel
theorem d_M_comesOf_41 : decode b_M_comesOf 41 = .ok (.iload 4, 2) := by decide +kernel
theorem d_M_comesOf_43 : decode b_M_comesOf 43 = .ok (.iconst 1, 1) := by decide +kernel
theorem d_M_comesOf_44 : decode b_M_comesOf 44 = .ok (.isub, 1) := by decide +kernel
theorem d_M_comesOf_45 : decode b_M_comesOf 45 = .ok (.aload_n 0, 1) := by decide +kernel
theorem d_M_comesOf_46 : decode b_M_comesOf 46 = .ok (.getfield 28, 3) := by decide +kernel
theorem d_M_comesOf_49 : decode b_M_comesOf 49 = .ok (.iload_n 1, 1) := by decide +kernel
theorem d_M_comesOf_50 : decode b_M_comesOf 50 = .ok (.aload_n 0, 1) := by decide +kernel
theorem d_M_comesOf_51 : decode b_M_comesOf 51 = .ok (.getfield 31, 3) := by decide +kernel
theorem d_M_comesOf_54 : decode b_M_comesOf 54 = .ok (.iload 4, 2) := by decide +kernel
theorem d_M_comesOf_56 : decode b_M_comesOf 56 = .ok (.iconst 1, 1) := by decide +kernel
theorem d_M_comesOf_57 : decode b_M_comesOf 57 = .ok (.isub, 1) := by decide +kernel
theorem d_M_comesOf_58 : decode b_M_comesOf 58 = .ok (.iaload, 1) := by decide +kernel
theorem d_M_comesOf_59 : decode b_M_comesOf 59 = .ok (.imul, 1) := by decide +kernel
theorem d_M_comesOf_60 : decode b_M_comesOf 60 = .ok (.aload_n 0, 1) := by decide +kernel
theorem d_M_comesOf_61 : decode b_M_comesOf 61 = .ok (.getfield 31, 3) := by decide +kernel
theorem d_M_comesOf_64 : decode b_M_comesOf 64 = .ok (.iload 4, 2) := by decide +kernel
theorem d_M_comesOf_66 : decode b_M_comesOf 66 = .ok (.iaload, 1) := by decide +kernel
theorem d_M_comesOf_67 : decode b_M_comesOf 67 = .ok (.iadd, 1) := by decide +kernel
theorem d_M_comesOf_68 : decode b_M_comesOf 68 = .ok (.iaload, 1) := by decide +kernel
theorem d_M_comesOf_69 : decode b_M_comesOf 69 = .ok (.iastore, 1) := by decide +kernel
theorem d_M_comesOf_70 : decode b_M_comesOf 70 = .ok (.goto 43, 3) := by decide +kernel
theorem d_M_comesOf_73 : decode b_M_comesOf 73 = .ok (.aload_n 0, 1) := by decide +kernel
theorem d_M_comesOf_74 : decode b_M_comesOf 74 = .ok (.getfield 31, 3) := by decide +kernel
theorem d_M_comesOf_77 : decode b_M_comesOf 77 = .ok (.iload 4, 2) := by decide +kernel
theorem d_M_comesOf_79 : decode b_M_comesOf 79 = .ok (.iload 6, 2) := by decide +kernel
theorem d_M_comesOf_81 : decode b_M_comesOf 81 = .ok (.ifCond .ne 9, 3) := by decide +kernel
theorem d_M_comesOf_84 : decode b_M_comesOf 84 = .ok (.iload_n 3, 1) := by decide +kernel
theorem d_M_comesOf_85 : decode b_M_comesOf 85 = .ok (.iload_n 1, 1) := by decide +kernel
theorem d_M_comesOf_86 : decode b_M_comesOf 86 = .ok (.irem, 1) := by decide +kernel
theorem d_M_comesOf_87 : decode b_M_comesOf 87 = .ok (.goto 22, 3) := by decide +kernel
theorem d_M_comesOf_90 : decode b_M_comesOf 90 = .ok (.iload 6, 2) := by decide +kernel
theorem d_M_comesOf_92 : decode b_M_comesOf 92 = .ok (.iconst 1, 1) := by decide +kernel
theorem d_M_comesOf_93 : decode b_M_comesOf 93 = .ok (.if_icmp .ne 11, 3) := by decide +kernel
theorem d_M_comesOf_96 : decode b_M_comesOf 96 = .ok (.iload_n 3, 1) := by decide +kernel
theorem d_M_comesOf_97 : decode b_M_comesOf 97 = .ok (.iload_n 1, 1) := by decide +kernel
theorem d_M_comesOf_98 : decode b_M_comesOf 98 = .ok (.idiv, 1) := by decide +kernel
theorem d_M_comesOf_99 : decode b_M_comesOf 99 = .ok (.iload_n 1, 1) := by decide +kernel
theorem d_M_comesOf_100 : decode b_M_comesOf 100 = .ok (.irem, 1) := by decide +kernel
theorem d_M_comesOf_101 : decode b_M_comesOf 101 = .ok (.goto 8, 3) := by decide +kernel
theorem d_M_comesOf_104 : decode b_M_comesOf 104 = .ok (.iload_n 3, 1) := by decide +kernel
theorem d_M_comesOf_105 : decode b_M_comesOf 105 = .ok (.iload_n 1, 1) := by decide +kernel
theorem d_M_comesOf_106 : decode b_M_comesOf 106 = .ok (.iload_n 1, 1) := by decide +kernel
theorem d_M_comesOf_107 : decode b_M_comesOf 107 = .ok (.imul, 1) := by decide +kernel
theorem d_M_comesOf_108 : decode b_M_comesOf 108 = .ok (.idiv, 1) := by decide +kernel
theorem d_M_comesOf_109 : decode b_M_comesOf 109 = .ok (.iastore, 1) := by decide +kernel
theorem d_M_comesOf_110 : decode b_M_comesOf 110 = .ok (.iinc 4 1, 3) := by decide +kernel
theorem d_M_comesOf_113 : decode b_M_comesOf 113 = .ok (.iinc 5 1, 3) := by decide +kernel
theorem d_M_comesOf_116 : decode b_M_comesOf 116 = .ok (.goto (-110), 3) := by decide +kernel
theorem d_M_comesOf_119 : decode b_M_comesOf 119 = .ok (.aload_n 0, 1) := by decide +kernel
theorem d_M_comesOf_120 : decode b_M_comesOf 120 = .ok (.getfield 31, 3) := by decide +kernel
theorem d_M_comesOf_123 : decode b_M_comesOf 123 = .ok (.iconst 0, 1) := by decide +kernel
theorem d_M_comesOf_124 : decode b_M_comesOf 124 = .ok (.iaload, 1) := by decide +kernel
theorem d_M_comesOf_125 : decode b_M_comesOf 125 = .ok (.ireturn, 1) := by decide +kernel
theorem d_M_isBroken_0 : decode b_M_isBroken 0 = .ok (.aload_n 0, 1) := by decide +kernel
theorem d_M_isBroken_1 : decode b_M_isBroken 1 = .ok (.iload_n 1, 1) := by decide +kernel
theorem d_M_isBroken_2 : decode b_M_isBroken 2 = .ok (.iload_n 2, 1) := by decide +kernel
theorem d_M_isBroken_3 : decode b_M_isBroken 3 = .ok (.invokestatic 86, 3) := by decide +kernel
theorem d_M_isBroken_6 : decode b_M_isBroken 6 = .ok (.iconst 1, 1) := by decide +kernel
theorem d_M_isBroken_7 : decode b_M_isBroken 7 = .ok (.iadd, 1) := by decide +kernel
theorem d_M_isBroken_8 : decode b_M_isBroken 8 = .ok (.iload_n 3, 1) := by decide +kernel
theorem d_M_isBroken_9 : decode b_M_isBroken 9 = .ok (.invokevirtual 89, 3) := by decide +kernel
theorem d_M_isBroken_12 : decode b_M_isBroken 12 = .ok (.aload_n 0, 1) := by decide +kernel
theorem d_M_isBroken_13 : decode b_M_isBroken 13 = .ok (.iload_n 1, 1) := by decide +kernel
theorem d_M_isBroken_14 : decode b_M_isBroken 14 = .ok (.iload_n 2, 1) := by decide +kernel
theorem d_M_isBroken_15 : decode b_M_isBroken 15 = .ok (.invokestatic 86, 3) := by decide +kernel
theorem d_M_isBroken_18 : decode b_M_isBroken 18 = .ok (.bipush 17, 2) := by decide +kernel
theorem d_M_isBroken_20 : decode b_M_isBroken 20 = .ok (.iadd, 1) := by decide +kernel
theorem d_M_isBroken_21 : decode b_M_isBroken 21 = .ok (.iload_n 3, 1) := by decide +kernel
theorem d_M_isBroken_22 : decode b_M_isBroken 22 = .ok (.invokevirtual 89, 3) := by decide +kernel
theorem d_M_isBroken_25 : decode b_M_isBroken 25 = .ok (.if_icmp .eq 7, 3) := by decide +kernel
theorem d_M_isBroken_28 : decode b_M_isBroken 28 = .ok (.iconst 1, 1) := by decide +kernel
theorem d_M_isBroken_29 : decode b_M_isBroken 29 = .ok (.goto 4, 3) := by decide +kernel
theorem d_M_isBroken_32 : decode b_M_isBroken 32 = .ok (.iconst 0, 1) := by decide +kernel
theorem d_M_isBroken_33 : decode b_M_isBroken 33 = .ok (.ireturn, 1) := by decide +kernel
theorem d_M_brokenIn_0 : decode b_M_brokenIn 0 = .ok (.aload_n 0, 1) := by decide +kernel
theorem d_M_brokenIn_1 : decode b_M_brokenIn 1 = .ok (.iload_n 1, 1) := by decide +kernel
theorem d_M_brokenIn_2 : decode b_M_brokenIn 2 = .ok (.iload_n 2, 1) := by decide +kernel
theorem d_M_brokenIn_3 : decode b_M_brokenIn 3 = .ok (.invokevirtual 76, 3) := by decide +kernel
theorem d_M_brokenIn_6 : decode b_M_brokenIn 6 = .ok (.iconst 0, 1) := by decide +kernel
theorem d_M_brokenIn_7 : decode b_M_brokenIn 7 = .ok (.istore 4, 2) := by decide +kernel
theorem d_M_brokenIn_9 : decode b_M_brokenIn 9 = .ok (.iconst 0, 1) := by decide +kernel
theorem d_M_brokenIn_10 : decode b_M_brokenIn 10 = .ok (.istore 5, 2) := by decide +kernel
theorem d_M_brokenIn_12 : decode b_M_brokenIn 12 = .ok (.iload 5, 2) := by decide +kernel
theorem d_M_brokenIn_14 : decode b_M_brokenIn 14 = .ok (.iload_n 1, 1) := by decide +kernel
theorem d_M_brokenIn_15 : decode b_M_brokenIn 15 = .ok (.iload_n 1, 1) := by decide +kernel
theorem d_M_brokenIn_16 : decode b_M_brokenIn 16 = .ok (.imul, 1) := by decide +kernel
theorem d_M_brokenIn_17 : decode b_M_brokenIn 17 = .ok (.iload_n 1, 1) := by decide +kernel
theorem d_M_brokenIn_18 : decode b_M_brokenIn 18 = .ok (.imul, 1) := by decide +kernel
theorem d_M_brokenIn_19 : decode b_M_brokenIn 19 = .ok (.if_icmp .ge 30, 3) := by decide +kernel
theorem d_M_brokenIn_22 : decode b_M_brokenIn 22 = .ok (.iload 4, 2) := by decide +kernel
theorem d_M_brokenIn_24 : decode b_M_brokenIn 24 = .ok (.aload_n 0, 1) := by decide +kernel
theorem d_M_brokenIn_25 : decode b_M_brokenIn 25 = .ok (.iload_n 1, 1) := by decide +kernel
theorem d_M_brokenIn_26 : decode b_M_brokenIn 26 = .ok (.iload_n 3, 1) := by decide +kernel
theorem d_M_brokenIn_27 : decode b_M_brokenIn 27 = .ok (.iload 5, 2) := by decide +kernel
theorem d_M_brokenIn_29 : decode b_M_brokenIn 29 = .ok (.invokevirtual 93, 3) := by decide +kernel
theorem d_M_brokenIn_32 : decode b_M_brokenIn 32 = .ok (.ifCond .eq 7, 3) := by decide +kernel
theorem d_M_brokenIn_35 : decode b_M_brokenIn 35 = .ok (.iconst 1, 1) := by decide +kernel
theorem d_M_brokenIn_36 : decode b_M_brokenIn 36 = .ok (.goto 4, 3) := by decide +kernel
theorem d_M_brokenIn_39 : decode b_M_brokenIn 39 = .ok (.iconst 0, 1) := by decide +kernel
theorem d_M_brokenIn_40 : decode b_M_brokenIn 40 = .ok (.iadd, 1) := by decide +kernel
theorem d_M_brokenIn_41 : decode b_M_brokenIn 41 = .ok (.istore 4, 2) := by decide +kernel
theorem d_M_brokenIn_43 : decode b_M_brokenIn 43 = .ok (.iinc 5 1, 3) := by decide +kernel
theorem d_M_brokenIn_46 : decode b_M_brokenIn 46 = .ok (.goto (-34), 3) := by decide +kernel
theorem d_M_brokenIn_49 : decode b_M_brokenIn 49 = .ok (.iload 4, 2) := by decide +kernel
theorem d_M_brokenIn_51 : decode b_M_brokenIn 51 = .ok (.ireturn, 1) := by decide +kernel
theorem d_M_learns_0 : decode b_M_learns 0 = .ok (.iconst 0, 1) := by decide +kernel
theorem d_M_learns_1 : decode b_M_learns 1 = .ok (.istore_n 1, 1) := by decide +kernel
theorem d_M_learns_2 : decode b_M_learns 2 = .ok (.iload_n 1, 1) := by decide +kernel
theorem d_M_learns_3 : decode b_M_learns 3 = .ok (.aload_n 0, 1) := by decide +kernel
theorem d_M_learns_4 : decode b_M_learns 4 = .ok (.getfield 7, 3) := by decide +kernel
theorem d_M_learns_7 : decode b_M_learns 7 = .ok (.iconst 2, 1) := by decide +kernel
theorem d_M_learns_8 : decode b_M_learns 8 = .ok (.iaload, 1) := by decide +kernel
theorem d_M_learns_9 : decode b_M_learns 9 = .ok (.if_icmp .ge 121, 3) := by decide +kernel
theorem d_M_learns_12 : decode b_M_learns 12 = .ok (.aload_n 0, 1) := by decide +kernel
theorem d_M_learns_13 : decode b_M_learns 13 = .ok (.iload_n 1, 1) := by decide +kernel
theorem d_M_learns_14 : decode b_M_learns 14 = .ok (.invokevirtual 103, 3) := by decide +kernel
theorem d_M_learns_17 : decode b_M_learns 17 = .ok (.ifCond .ne 107, 3) := by decide +kernel
theorem d_M_learns_20 : decode b_M_learns 20 = .ok (.iconst 0, 1) := by decide +kernel
theorem d_M_learns_21 : decode b_M_learns 21 = .ok (.istore_n 2, 1) := by decide +kernel
theorem d_M_learns_22 : decode b_M_learns 22 = .ok (.iload_n 2, 1) := by decide +kernel
theorem d_M_learns_23 : decode b_M_learns 23 = .ok (.sipush 3341, 3) := by decide +kernel
theorem d_M_learns_26 : decode b_M_learns 26 = .ok (.if_icmp .ge 40, 3) := by decide +kernel
theorem d_M_learns_29 : decode b_M_learns 29 = .ok (.aload_n 0, 1) := by decide +kernel
theorem d_M_learns_30 : decode b_M_learns 30 = .ok (.getfield 34, 3) := by decide +kernel
theorem d_M_learns_33 : decode b_M_learns 33 = .ok (.sipush 3341, 3) := by decide +kernel
theorem d_M_learns_36 : decode b_M_learns 36 = .ok (.iload_n 1, 1) := by decide +kernel
theorem d_M_learns_37 : decode b_M_learns 37 = .ok (.imul, 1) := by decide +kernel
theorem d_M_learns_38 : decode b_M_learns 38 = .ok (.iload_n 2, 1) := by decide +kernel
theorem d_M_learns_39 : decode b_M_learns 39 = .ok (.iadd, 1) := by decide +kernel
theorem d_M_learns_40 : decode b_M_learns 40 = .ok (.aload_n 0, 1) := by decide +kernel
theorem d_M_learns_41 : decode b_M_learns 41 = .ok (.aload_n 0, 1) := by decide +kernel
theorem d_M_learns_42 : decode b_M_learns 42 = .ok (.getfield 25, 3) := by decide +kernel
theorem d_M_learns_45 : decode b_M_learns 45 = .ok (.iload_n 2, 1) := by decide +kernel
theorem d_M_learns_46 : decode b_M_learns 46 = .ok (.invokestatic 107, 3) := by decide +kernel
theorem d_M_learns_49 : decode b_M_learns 49 = .ok (.aload_n 0, 1) := by decide +kernel
theorem d_M_learns_50 : decode b_M_learns 50 = .ok (.getfield 22, 3) := by decide +kernel
theorem d_M_learns_53 : decode b_M_learns 53 = .ok (.iload_n 2, 1) := by decide +kernel
theorem d_M_learns_54 : decode b_M_learns 54 = .ok (.iaload, 1) := by decide +kernel
theorem d_M_learns_55 : decode b_M_learns 55 = .ok (.iload_n 1, 1) := by decide +kernel
theorem d_M_learns_56 : decode b_M_learns 56 = .ok (.invokevirtual 97, 3) := by decide +kernel
theorem d_M_learns_59 : decode b_M_learns 59 = .ok (.iastore, 1) := by decide +kernel
theorem d_M_learns_60 : decode b_M_learns 60 = .ok (.iinc 2 1, 3) := by decide +kernel
theorem d_M_learns_63 : decode b_M_learns 63 = .ok (.goto (-41), 3) := by decide +kernel
theorem d_M_learns_66 : decode b_M_learns 66 = .ok (.iconst 0, 1) := by decide +kernel
theorem d_M_learns_67 : decode b_M_learns 67 = .ok (.istore_n 2, 1) := by decide +kernel
theorem d_M_learns_68 : decode b_M_learns 68 = .ok (.iload_n 2, 1) := by decide +kernel
theorem d_M_learns_69 : decode b_M_learns 69 = .ok (.bipush 33, 2) := by decide +kernel
theorem d_M_learns_71 : decode b_M_learns 71 = .ok (.if_icmp .ge 31, 3) := by decide +kernel
theorem d_M_learns_74 : decode b_M_learns 74 = .ok (.aload_n 0, 1) := by decide +kernel
theorem d_M_learns_75 : decode b_M_learns 75 = .ok (.getfield 37, 3) := by decide +kernel
theorem d_M_learns_78 : decode b_M_learns 78 = .ok (.bipush 33, 2) := by decide +kernel
theorem d_M_learns_80 : decode b_M_learns 80 = .ok (.iload_n 1, 1) := by decide +kernel
theorem d_M_learns_81 : decode b_M_learns 81 = .ok (.imul, 1) := by decide +kernel
theorem d_M_learns_82 : decode b_M_learns 82 = .ok (.iload_n 2, 1) := by decide +kernel
theorem d_M_learns_83 : decode b_M_learns 83 = .ok (.iadd, 1) := by decide +kernel
theorem d_M_learns_84 : decode b_M_learns 84 = .ok (.aload_n 0, 1) := by decide +kernel
theorem d_M_learns_85 : decode b_M_learns 85 = .ok (.getfield 7, 3) := by decide +kernel
theorem d_M_learns_88 : decode b_M_learns 88 = .ok (.iload_n 1, 1) := by decide +kernel
theorem d_M_learns_89 : decode b_M_learns 89 = .ok (.invokestatic 86, 3) := by decide +kernel
theorem d_M_learns_92 : decode b_M_learns 92 = .ok (.iload_n 2, 1) := by decide +kernel
theorem d_M_learns_93 : decode b_M_learns 93 = .ok (.iadd, 1) := by decide +kernel
theorem d_M_learns_94 : decode b_M_learns 94 = .ok (.iaload, 1) := by decide +kernel
theorem d_M_learns_95 : decode b_M_learns 95 = .ok (.iastore, 1) := by decide +kernel
theorem d_M_learns_96 : decode b_M_learns 96 = .ok (.iinc 2 1, 3) := by decide +kernel
theorem d_M_learns_99 : decode b_M_learns 99 = .ok (.goto (-31), 3) := by decide +kernel
theorem d_M_learns_102 : decode b_M_learns 102 = .ok (.aload_n 0, 1) := by decide +kernel
theorem d_M_learns_103 : decode b_M_learns 103 = .ok (.iload_n 1, 1) := by decide +kernel
theorem d_M_learns_104 : decode b_M_learns 104 = .ok (.aload_n 0, 1) := by decide +kernel
theorem d_M_learns_105 : decode b_M_learns 105 = .ok (.getfield 100, 3) := by decide +kernel
theorem d_M_learns_108 : decode b_M_learns 108 = .ok (.if_icmp .ge 10, 3) := by decide +kernel
theorem d_M_learns_111 : decode b_M_learns 111 = .ok (.aload_n 0, 1) := by decide +kernel
theorem d_M_learns_112 : decode b_M_learns 112 = .ok (.getfield 100, 3) := by decide +kernel
theorem d_M_learns_115 : decode b_M_learns 115 = .ok (.goto 6, 3) := by decide +kernel
theorem d_M_learns_118 : decode b_M_learns 118 = .ok (.iload_n 1, 1) := by decide +kernel
theorem d_M_learns_119 : decode b_M_learns 119 = .ok (.iconst 1, 1) := by decide +kernel
theorem d_M_learns_120 : decode b_M_learns 120 = .ok (.iadd, 1) := by decide +kernel
theorem d_M_learns_121 : decode b_M_learns 121 = .ok (.putfield 100, 3) := by decide +kernel
theorem d_M_learns_124 : decode b_M_learns 124 = .ok (.iinc 1 1, 3) := by decide +kernel
theorem d_M_learns_127 : decode b_M_learns 127 = .ok (.goto (-125), 3) := by decide +kernel
theorem d_M_learns_130 : decode b_M_learns 130 = .ok (.return_, 1) := by decide +kernel
theorem d_M_hold_0 : decode b_M_hold 0 = .ok (.iconst 1, 1) := by decide +kernel
theorem d_M_hold_1 : decode b_M_hold 1 = .ok (.istore_n 3, 1) := by decide +kernel
theorem d_M_hold_2 : decode b_M_hold 2 = .ok (.iconst 0, 1) := by decide +kernel
theorem d_M_hold_3 : decode b_M_hold 3 = .ok (.istore 4, 2) := by decide +kernel
theorem d_M_hold_5 : decode b_M_hold 5 = .ok (.iload 4, 2) := by decide +kernel
theorem d_M_hold_7 : decode b_M_hold 7 = .ok (.aload_n 0, 1) := by decide +kernel
theorem d_M_hold_8 : decode b_M_hold 8 = .ok (.getfield 7, 3) := by decide +kernel
theorem d_M_hold_11 : decode b_M_hold 11 = .ok (.iconst 2, 1) := by decide +kernel
theorem d_M_hold_12 : decode b_M_hold 12 = .ok (.iaload, 1) := by decide +kernel
theorem d_M_hold_13 : decode b_M_hold 13 = .ok (.if_icmp .ge 50, 3) := by decide +kernel
theorem d_M_hold_16 : decode b_M_hold 16 = .ok (.iload_n 3, 1) := by decide +kernel
theorem d_M_hold_17 : decode b_M_hold 17 = .ok (.ifCond .eq 46, 3) := by decide +kernel
theorem d_M_hold_20 : decode b_M_hold 20 = .ok (.iload 4, 2) := by decide +kernel
theorem d_M_hold_22 : decode b_M_hold 22 = .ok (.iload_n 2, 1) := by decide +kernel
theorem d_M_hold_23 : decode b_M_hold 23 = .ok (.if_icmp .eq 28, 3) := by decide +kernel
theorem d_M_hold_26 : decode b_M_hold 26 = .ok (.aload_n 0, 1) := by decide +kernel
theorem d_M_hold_27 : decode b_M_hold 27 = .ok (.iload 4, 2) := by decide +kernel
theorem d_M_hold_29 : decode b_M_hold 29 = .ok (.invokevirtual 111, 3) := by decide +kernel
theorem d_M_hold_32 : decode b_M_hold 32 = .ok (.ifCond .eq 19, 3) := by decide +kernel
theorem d_M_hold_35 : decode b_M_hold 35 = .ok (.aload_n 0, 1) := by decide +kernel
theorem d_M_hold_36 : decode b_M_hold 36 = .ok (.getfield 34, 3) := by decide +kernel
theorem d_M_hold_39 : decode b_M_hold 39 = .ok (.sipush 3341, 3) := by decide +kernel
theorem d_M_hold_42 : decode b_M_hold 42 = .ok (.iload 4, 2) := by decide +kernel
theorem d_M_hold_44 : decode b_M_hold 44 = .ok (.imul, 1) := by decide +kernel
theorem d_M_hold_45 : decode b_M_hold 45 = .ok (.iload_n 1, 1) := by decide +kernel
theorem d_M_hold_46 : decode b_M_hold 46 = .ok (.iadd, 1) := by decide +kernel
theorem d_M_hold_47 : decode b_M_hold 47 = .ok (.iaload, 1) := by decide +kernel
theorem d_M_hold_48 : decode b_M_hold 48 = .ok (.ifCond .ne 7, 3) := by decide +kernel
theorem d_M_hold_51 : decode b_M_hold 51 = .ok (.iconst 1, 1) := by decide +kernel
theorem d_M_hold_52 : decode b_M_hold 52 = .ok (.goto 4, 3) := by decide +kernel
theorem d_M_hold_55 : decode b_M_hold 55 = .ok (.iconst 0, 1) := by decide +kernel
theorem d_M_hold_56 : decode b_M_hold 56 = .ok (.istore_n 3, 1) := by decide +kernel
theorem d_M_hold_57 : decode b_M_hold 57 = .ok (.iinc 4 1, 3) := by decide +kernel
theorem d_M_hold_60 : decode b_M_hold 60 = .ok (.goto (-55), 3) := by decide +kernel
theorem d_M_hold_63 : decode b_M_hold 63 = .ok (.iload_n 3, 1) := by decide +kernel
theorem d_M_hold_64 : decode b_M_hold 64 = .ok (.ireturn, 1) := by decide +kernel
theorem d_M_findsWitnesses_0 : decode b_M_findsWitnesses 0 = .ok (.aload_n 0, 1) := by decide +kernel
theorem d_M_findsWitnesses_1 : decode b_M_findsWitnesses 1 = .ok (.invokevirtual 114, 3) := by decide +kernel
theorem d_M_findsWitnesses_4 : decode b_M_findsWitnesses 4 = .ok (.aload_n 0, 1) := by decide +kernel
theorem d_M_findsWitnesses_5 : decode b_M_findsWitnesses 5 = .ok (.iconst 0, 1) := by decide +kernel
theorem d_M_findsWitnesses_6 : decode b_M_findsWitnesses 6 = .ok (.putfield 117, 3) := by decide +kernel
theorem d_M_findsWitnesses_9 : decode b_M_findsWitnesses 9 = .ok (.iconst 1, 1) := by decide +kernel
theorem d_M_findsWitnesses_10 : decode b_M_findsWitnesses 10 = .ok (.istore_n 2, 1) := by decide +kernel
theorem d_M_findsWitnesses_11 : decode b_M_findsWitnesses 11 = .ok (.iload_n 2, 1) := by decide +kernel
theorem d_M_findsWitnesses_12 : decode b_M_findsWitnesses 12 = .ok (.bipush 27, 2) := by decide +kernel
theorem d_M_findsWitnesses_14 : decode b_M_findsWitnesses 14 = .ok (.if_icmp .gt 87, 3) := by decide +kernel
theorem d_M_findsWitnesses_17 : decode b_M_findsWitnesses 17 = .ok (.aload_n 0, 1) := by decide +kernel
theorem d_M_findsWitnesses_18 : decode b_M_findsWitnesses 18 = .ok (.getfield 117, 3) := by decide +kernel
theorem d_M_findsWitnesses_21 : decode b_M_findsWitnesses 21 = .ok (.bipush 12, 2) := by decide +kernel
theorem d_M_findsWitnesses_23 : decode b_M_findsWitnesses 23 = .ok (.if_icmp .ge 78, 3) := by decide +kernel
theorem d_M_findsWitnesses_26 : decode b_M_findsWitnesses 26 = .ok (.iconst 0, 1) := by decide +kernel
theorem d_M_findsWitnesses_27 : decode b_M_findsWitnesses 27 = .ok (.istore_n 3, 1) := by decide +kernel
theorem d_M_findsWitnesses_28 : decode b_M_findsWitnesses 28 = .ok (.iload_n 3, 1) := by decide +kernel
theorem d_M_findsWitnesses_29 : decode b_M_findsWitnesses 29 = .ok (.sipush 3341, 3) := by decide +kernel
theorem d_M_findsWitnesses_32 : decode b_M_findsWitnesses 32 = .ok (.if_icmp .ge 63, 3) := by decide +kernel
theorem d_M_findsWitnesses_35 : decode b_M_findsWitnesses 35 = .ok (.aload_n 0, 1) := by decide +kernel
theorem d_M_findsWitnesses_36 : decode b_M_findsWitnesses 36 = .ok (.getfield 117, 3) := by decide +kernel
theorem d_M_findsWitnesses_39 : decode b_M_findsWitnesses 39 = .ok (.bipush 12, 2) := by decide +kernel
theorem d_M_findsWitnesses_41 : decode b_M_findsWitnesses 41 = .ok (.if_icmp .ge 54, 3) := by decide +kernel
theorem d_M_findsWitnesses_44 : decode b_M_findsWitnesses 44 = .ok (.aload_n 0, 1) := by decide +kernel
theorem d_M_findsWitnesses_45 : decode b_M_findsWitnesses 45 = .ok (.getfield 34, 3) := by decide +kernel
theorem d_M_findsWitnesses_48 : decode b_M_findsWitnesses 48 = .ok (.sipush 3341, 3) := by decide +kernel
theorem d_M_findsWitnesses_51 : decode b_M_findsWitnesses 51 = .ok (.iload_n 1, 1) := by decide +kernel
theorem d_M_findsWitnesses_52 : decode b_M_findsWitnesses 52 = .ok (.imul, 1) := by decide +kernel
theorem d_M_findsWitnesses_53 : decode b_M_findsWitnesses 53 = .ok (.iload_n 3, 1) := by decide +kernel
theorem d_M_findsWitnesses_54 : decode b_M_findsWitnesses 54 = .ok (.iadd, 1) := by decide +kernel
theorem d_M_findsWitnesses_55 : decode b_M_findsWitnesses 55 = .ok (.iaload, 1) := by decide +kernel
theorem d_M_findsWitnesses_56 : decode b_M_findsWitnesses 56 = .ok (.iload_n 2, 1) := by decide +kernel
theorem d_M_findsWitnesses_57 : decode b_M_findsWitnesses 57 = .ok (.if_icmp .ne 32, 3) := by decide +kernel
theorem d_M_findsWitnesses_60 : decode b_M_findsWitnesses 60 = .ok (.aload_n 0, 1) := by decide +kernel
theorem d_M_findsWitnesses_61 : decode b_M_findsWitnesses 61 = .ok (.iload_n 3, 1) := by decide +kernel
theorem d_M_findsWitnesses_62 : decode b_M_findsWitnesses 62 = .ok (.iload_n 1, 1) := by decide +kernel
theorem d_M_findsWitnesses_63 : decode b_M_findsWitnesses 63 = .ok (.invokevirtual 120, 3) := by decide +kernel
theorem d_M_findsWitnesses_66 : decode b_M_findsWitnesses 66 = .ok (.ifCond .eq 23, 3) := by decide +kernel
theorem d_M_findsWitnesses_69 : decode b_M_findsWitnesses 69 = .ok (.aload_n 0, 1) := by decide +kernel
theorem d_M_findsWitnesses_70 : decode b_M_findsWitnesses 70 = .ok (.getfield 40, 3) := by decide +kernel
theorem d_M_findsWitnesses_73 : decode b_M_findsWitnesses 73 = .ok (.aload_n 0, 1) := by decide +kernel
theorem d_M_findsWitnesses_74 : decode b_M_findsWitnesses 74 = .ok (.getfield 117, 3) := by decide +kernel
theorem d_M_findsWitnesses_77 : decode b_M_findsWitnesses 77 = .ok (.iload_n 3, 1) := by decide +kernel
theorem d_M_findsWitnesses_78 : decode b_M_findsWitnesses 78 = .ok (.iastore, 1) := by decide +kernel
theorem d_M_findsWitnesses_79 : decode b_M_findsWitnesses 79 = .ok (.aload_n 0, 1) := by decide +kernel
theorem d_M_findsWitnesses_80 : decode b_M_findsWitnesses 80 = .ok (.dup, 1) := by decide +kernel
theorem d_M_findsWitnesses_81 : decode b_M_findsWitnesses 81 = .ok (.getfield 117, 3) := by decide +kernel
theorem d_M_findsWitnesses_84 : decode b_M_findsWitnesses 84 = .ok (.iconst 1, 1) := by decide +kernel
theorem d_M_findsWitnesses_85 : decode b_M_findsWitnesses 85 = .ok (.iadd, 1) := by decide +kernel
theorem d_M_findsWitnesses_86 : decode b_M_findsWitnesses 86 = .ok (.putfield 117, 3) := by decide +kernel
theorem d_M_findsWitnesses_89 : decode b_M_findsWitnesses 89 = .ok (.iinc 3 1, 3) := by decide +kernel
theorem d_M_findsWitnesses_92 : decode b_M_findsWitnesses 92 = .ok (.goto (-64), 3) := by decide +kernel
theorem d_M_findsWitnesses_95 : decode b_M_findsWitnesses 95 = .ok (.iinc 2 1, 3) := by decide +kernel
theorem d_M_findsWitnesses_98 : decode b_M_findsWitnesses 98 = .ok (.goto (-87), 3) := by decide +kernel
theorem d_M_findsWitnesses_101 : decode b_M_findsWitnesses 101 = .ok (.return_, 1) := by decide +kernel
theorem d_M_refute_0 : decode b_M_refute 0 = .ok (.aload_n 0, 1) := by decide +kernel
theorem d_M_refute_1 : decode b_M_refute 1 = .ok (.iload_n 1, 1) := by decide +kernel
theorem d_M_refute_2 : decode b_M_refute 2 = .ok (.invokevirtual 189, 3) := by decide +kernel
theorem d_M_refute_5 : decode b_M_refute 5 = .ok (.ifCond .ne 5, 3) := by decide +kernel
theorem d_M_refute_8 : decode b_M_refute 8 = .ok (.iconst (-1), 1) := by decide +kernel
theorem d_M_refute_9 : decode b_M_refute 9 = .ok (.ireturn, 1) := by decide +kernel
theorem d_M_refute_10 : decode b_M_refute 10 = .ok (.aload_n 0, 1) := by decide +kernel
theorem d_M_refute_11 : decode b_M_refute 11 = .ok (.iload_n 1, 1) := by decide +kernel
theorem d_M_refute_12 : decode b_M_refute 12 = .ok (.invokevirtual 124, 3) := by decide +kernel
theorem d_M_refute_15 : decode b_M_refute 15 = .ok (.aload_n 0, 1) := by decide +kernel
theorem d_M_refute_16 : decode b_M_refute 16 = .ok (.getfield 117, 3) := by decide +kernel
theorem d_M_refute_19 : decode b_M_refute 19 = .ok (.ifCond .ne 6, 3) := by decide +kernel
theorem d_M_refute_22 : decode b_M_refute 22 = .ok (.bipush (-5), 2) := by decide +kernel
theorem d_M_refute_24 : decode b_M_refute 24 = .ok (.ireturn, 1) := by decide +kernel
theorem d_M_refute_25 : decode b_M_refute 25 = .ok (.aload_n 0, 1) := by decide +kernel
theorem d_M_refute_26 : decode b_M_refute 26 = .ok (.invokevirtual 128, 3) := by decide +kernel
theorem d_M_refute_29 : decode b_M_refute 29 = .ok (.aload_n 0, 1) := by decide +kernel
theorem d_M_refute_30 : decode b_M_refute 30 = .ok (.getfield 7, 3) := by decide +kernel
theorem d_M_refute_33 : decode b_M_refute 33 = .ok (.iconst 0, 1) := by decide +kernel
theorem d_M_refute_34 : decode b_M_refute 34 = .ok (.aload_n 0, 1) := by decide +kernel
theorem d_M_refute_35 : decode b_M_refute 35 = .ok (.getfield 25, 3) := by decide +kernel
theorem d_M_refute_38 : decode b_M_refute 38 = .ok (.aload_n 0, 1) := by decide +kernel
theorem d_M_refute_39 : decode b_M_refute 39 = .ok (.getfield 40, 3) := by decide +kernel
theorem d_M_refute_42 : decode b_M_refute 42 = .ok (.iconst 0, 1) := by decide +kernel
theorem d_M_refute_43 : decode b_M_refute 43 = .ok (.iaload, 1) := by decide +kernel
theorem d_M_refute_44 : decode b_M_refute 44 = .ok (.invokestatic 107, 3) := by decide +kernel
theorem d_M_refute_47 : decode b_M_refute 47 = .ok (.iastore, 1) := by decide +kernel
theorem d_M_refute_48 : decode b_M_refute 48 = .ok (.aload_n 0, 1) := by decide +kernel
theorem d_M_refute_49 : decode b_M_refute 49 = .ok (.getfield 7, 3) := by decide +kernel
theorem d_M_refute_52 : decode b_M_refute 52 = .ok (.iconst 1, 1) := by decide +kernel
theorem d_M_refute_53 : decode b_M_refute 53 = .ok (.aload_n 0, 1) := by decide +kernel
theorem d_M_refute_54 : decode b_M_refute 54 = .ok (.getfield 22, 3) := by decide +kernel
theorem d_M_refute_57 : decode b_M_refute 57 = .ok (.aload_n 0, 1) := by decide +kernel
theorem d_M_refute_58 : decode b_M_refute 58 = .ok (.getfield 40, 3) := by decide +kernel
theorem d_M_refute_61 : decode b_M_refute 61 = .ok (.iconst 0, 1) := by decide +kernel
theorem d_M_refute_62 : decode b_M_refute 62 = .ok (.iaload, 1) := by decide +kernel
theorem d_M_refute_63 : decode b_M_refute 63 = .ok (.iaload, 1) := by decide +kernel
theorem d_M_refute_64 : decode b_M_refute 64 = .ok (.iastore, 1) := by decide +kernel
theorem d_M_refute_65 : decode b_M_refute 65 = .ok (.aload_n 0, 1) := by decide +kernel
theorem d_M_refute_66 : decode b_M_refute 66 = .ok (.aload_n 0, 1) := by decide +kernel
theorem d_M_refute_67 : decode b_M_refute 67 = .ok (.getfield 7, 3) := by decide +kernel
theorem d_M_refute_70 : decode b_M_refute 70 = .ok (.iconst 1, 1) := by decide +kernel
theorem d_M_refute_71 : decode b_M_refute 71 = .ok (.iaload, 1) := by decide +kernel
theorem d_M_refute_72 : decode b_M_refute 72 = .ok (.invokevirtual 131, 3) := by decide +kernel
theorem d_M_refute_75 : decode b_M_refute 75 = .ok (.ireturn, 1) := by decide +kernel
theorem d_M_undo_0 : decode b_M_undo 0 = .ok (.aload_n 0, 1) := by decide +kernel
theorem d_M_undo_1 : decode b_M_undo 1 = .ok (.getfield 60, 3) := by decide +kernel
theorem d_M_undo_4 : decode b_M_undo 4 = .ok (.ifCond .ne 6, 3) := by decide +kernel
theorem d_M_undo_7 : decode b_M_undo 7 = .ok (.bipush (-5), 2) := by decide +kernel
theorem d_M_undo_9 : decode b_M_undo 9 = .ok (.ireturn, 1) := by decide +kernel
theorem d_M_undo_10 : decode b_M_undo 10 = .ok (.aload_n 0, 1) := by decide +kernel
theorem d_M_undo_11 : decode b_M_undo 11 = .ok (.dup, 1) := by decide +kernel
theorem d_M_undo_12 : decode b_M_undo 12 = .ok (.getfield 60, 3) := by decide +kernel
theorem d_M_undo_15 : decode b_M_undo 15 = .ok (.iconst 1, 1) := by decide +kernel
theorem d_M_undo_16 : decode b_M_undo 16 = .ok (.isub, 1) := by decide +kernel
theorem d_M_undo_17 : decode b_M_undo 17 = .ok (.putfield 60, 3) := by decide +kernel
theorem d_M_undo_20 : decode b_M_undo 20 = .ok (.iconst 0, 1) := by decide +kernel
theorem d_M_undo_21 : decode b_M_undo 21 = .ok (.istore_n 1, 1) := by decide +kernel
theorem d_M_undo_22 : decode b_M_undo 22 = .ok (.iload_n 1, 1) := by decide +kernel
theorem d_M_undo_23 : decode b_M_undo 23 = .ok (.sipush 176, 3) := by decide +kernel
theorem d_M_undo_26 : decode b_M_undo 26 = .ok (.if_icmp .ge 30, 3) := by decide +kernel
theorem d_M_undo_29 : decode b_M_undo 29 = .ok (.aload_n 0, 1) := by decide +kernel
theorem d_M_undo_30 : decode b_M_undo 30 = .ok (.getfield 7, 3) := by decide +kernel
theorem d_M_undo_33 : decode b_M_undo 33 = .ok (.iload_n 1, 1) := by decide +kernel
theorem d_M_undo_34 : decode b_M_undo 34 = .ok (.aload_n 0, 1) := by decide +kernel
theorem d_M_undo_35 : decode b_M_undo 35 = .ok (.getfield 16, 3) := by decide +kernel
theorem d_M_undo_38 : decode b_M_undo 38 = .ok (.sipush 176, 3) := by decide +kernel
theorem d_M_undo_41 : decode b_M_undo 41 = .ok (.aload_n 0, 1) := by decide +kernel
theorem d_M_undo_42 : decode b_M_undo 42 = .ok (.getfield 60, 3) := by decide +kernel
theorem d_M_undo_45 : decode b_M_undo 45 = .ok (.imul, 1) := by decide +kernel
theorem d_M_undo_46 : decode b_M_undo 46 = .ok (.iload_n 1, 1) := by decide +kernel
theorem d_M_undo_47 : decode b_M_undo 47 = .ok (.iadd, 1) := by decide +kernel
theorem d_M_undo_48 : decode b_M_undo 48 = .ok (.iaload, 1) := by decide +kernel
theorem d_M_undo_49 : decode b_M_undo 49 = .ok (.iastore, 1) := by decide +kernel
theorem d_M_undo_50 : decode b_M_undo 50 = .ok (.iinc 1 1, 3) := by decide +kernel
theorem d_M_undo_53 : decode b_M_undo 53 = .ok (.goto (-31), 3) := by decide +kernel
theorem d_M_undo_56 : decode b_M_undo 56 = .ok (.aload_n 0, 1) := by decide +kernel
theorem d_M_undo_57 : decode b_M_undo 57 = .ok (.getfield 60, 3) := by decide +kernel
theorem d_M_undo_60 : decode b_M_undo 60 = .ok (.ireturn, 1) := by decide +kernel
theorem d_M_keep_0 : decode b_M_keep 0 = .ok (.iconst 0, 1) := by decide +kernel
theorem d_M_keep_1 : decode b_M_keep 1 = .ok (.istore_n 1, 1) := by decide +kernel
theorem d_M_keep_2 : decode b_M_keep 2 = .ok (.iload_n 1, 1) := by decide +kernel
theorem d_M_keep_3 : decode b_M_keep 3 = .ok (.sipush 176, 3) := by decide +kernel
theorem d_M_keep_6 : decode b_M_keep 6 = .ok (.if_icmp .ge 21, 3) := by decide +kernel
theorem d_M_keep_9 : decode b_M_keep 9 = .ok (.aload_n 0, 1) := by decide +kernel
theorem d_M_keep_10 : decode b_M_keep 10 = .ok (.getfield 19, 3) := by decide +kernel
theorem d_M_keep_13 : decode b_M_keep 13 = .ok (.iload_n 1, 1) := by decide +kernel
theorem d_M_keep_14 : decode b_M_keep 14 = .ok (.aload_n 0, 1) := by decide +kernel
theorem d_M_keep_15 : decode b_M_keep 15 = .ok (.getfield 7, 3) := by decide +kernel
theorem d_M_keep_18 : decode b_M_keep 18 = .ok (.iload_n 1, 1) := by decide +kernel
theorem d_M_keep_19 : decode b_M_keep 19 = .ok (.iaload, 1) := by decide +kernel
theorem d_M_keep_20 : decode b_M_keep 20 = .ok (.iastore, 1) := by decide +kernel
theorem d_M_keep_21 : decode b_M_keep 21 = .ok (.iinc 1 1, 3) := by decide +kernel
theorem d_M_keep_24 : decode b_M_keep 24 = .ok (.goto (-22), 3) := by decide +kernel
theorem d_M_keep_27 : decode b_M_keep 27 = .ok (.aload_n 0, 1) := by decide +kernel
theorem d_M_keep_28 : decode b_M_keep 28 = .ok (.iconst 1, 1) := by decide +kernel
theorem d_M_keep_29 : decode b_M_keep 29 = .ok (.putfield 195, 3) := by decide +kernel
theorem d_M_keep_32 : decode b_M_keep 32 = .ok (.aload_n 0, 1) := by decide +kernel
theorem d_M_keep_33 : decode b_M_keep 33 = .ok (.getfield 7, 3) := by decide +kernel
theorem d_M_keep_36 : decode b_M_keep 36 = .ok (.iconst 2, 1) := by decide +kernel
theorem d_M_keep_37 : decode b_M_keep 37 = .ok (.iaload, 1) := by decide +kernel
theorem d_M_keep_38 : decode b_M_keep 38 = .ok (.ireturn, 1) := by decide +kernel
theorem d_M_restore_0 : decode b_M_restore 0 = .ok (.aload_n 0, 1) := by decide +kernel
theorem d_M_restore_1 : decode b_M_restore 1 = .ok (.getfield 195, 3) := by decide +kernel
theorem d_M_restore_4 : decode b_M_restore 4 = .ok (.ifCond .ne 6, 3) := by decide +kernel
theorem d_M_restore_7 : decode b_M_restore 7 = .ok (.bipush (-5), 2) := by decide +kernel
theorem d_M_restore_9 : decode b_M_restore 9 = .ok (.ireturn, 1) := by decide +kernel
theorem d_M_restore_10 : decode b_M_restore 10 = .ok (.aload_n 0, 1) := by decide +kernel
theorem d_M_restore_11 : decode b_M_restore 11 = .ok (.invokevirtual 128, 3) := by decide +kernel
theorem d_M_restore_14 : decode b_M_restore 14 = .ok (.iconst 0, 1) := by decide +kernel
theorem d_M_restore_15 : decode b_M_restore 15 = .ok (.istore_n 1, 1) := by decide +kernel
theorem d_M_restore_16 : decode b_M_restore 16 = .ok (.iload_n 1, 1) := by decide +kernel
theorem d_M_restore_17 : decode b_M_restore 17 = .ok (.sipush 176, 3) := by decide +kernel
theorem d_M_restore_20 : decode b_M_restore 20 = .ok (.if_icmp .ge 21, 3) := by decide +kernel
theorem d_M_restore_23 : decode b_M_restore 23 = .ok (.aload_n 0, 1) := by decide +kernel
theorem d_M_restore_24 : decode b_M_restore 24 = .ok (.getfield 7, 3) := by decide +kernel
theorem d_M_restore_27 : decode b_M_restore 27 = .ok (.iload_n 1, 1) := by decide +kernel
theorem d_M_restore_28 : decode b_M_restore 28 = .ok (.aload_n 0, 1) := by decide +kernel
theorem d_M_restore_29 : decode b_M_restore 29 = .ok (.getfield 19, 3) := by decide +kernel
theorem d_M_restore_32 : decode b_M_restore 32 = .ok (.iload_n 1, 1) := by decide +kernel
theorem d_M_restore_33 : decode b_M_restore 33 = .ok (.iaload, 1) := by decide +kernel
theorem d_M_restore_34 : decode b_M_restore 34 = .ok (.iastore, 1) := by decide +kernel
theorem d_M_restore_35 : decode b_M_restore 35 = .ok (.iinc 1 1, 3) := by decide +kernel
theorem d_M_restore_38 : decode b_M_restore 38 = .ok (.goto (-22), 3) := by decide +kernel
theorem d_M_restore_41 : decode b_M_restore 41 = .ok (.aload_n 0, 1) := by decide +kernel
theorem d_M_restore_42 : decode b_M_restore 42 = .ok (.aload_n 0, 1) := by decide +kernel
theorem d_M_restore_43 : decode b_M_restore 43 = .ok (.getfield 7, 3) := by decide +kernel
theorem d_M_restore_46 : decode b_M_restore 46 = .ok (.iconst 2, 1) := by decide +kernel
theorem d_M_restore_47 : decode b_M_restore 47 = .ok (.iaload, 1) := by decide +kernel
theorem d_M_restore_48 : decode b_M_restore 48 = .ok (.invokevirtual 131, 3) := by decide +kernel
theorem d_M_restore_51 : decode b_M_restore 51 = .ok (.ireturn, 1) := by decide +kernel
theorem d_M_of_0 : decode b_M_of 0 = .ok (.aload_n 0, 1) := by decide +kernel
theorem d_M_of_1 : decode b_M_of 1 = .ok (.iload_n 1, 1) := by decide +kernel
theorem d_M_of_2 : decode b_M_of 2 = .ok (.invokevirtual 137, 3) := by decide +kernel
theorem d_M_of_5 : decode b_M_of 5 = .ok (.ifCond .eq 31, 3) := by decide +kernel
theorem d_M_of_8 : decode b_M_of 8 = .ok (.aload_n 0, 1) := by decide +kernel
theorem d_M_of_9 : decode b_M_of 9 = .ok (.iload_n 2, 1) := by decide +kernel
theorem d_M_of_10 : decode b_M_of 10 = .ok (.invokevirtual 137, 3) := by decide +kernel
theorem d_M_of_13 : decode b_M_of 13 = .ok (.ifCond .eq 23, 3) := by decide +kernel
theorem d_M_of_16 : decode b_M_of 16 = .ok (.aload_n 0, 1) := by decide +kernel
theorem d_M_of_17 : decode b_M_of 17 = .ok (.getfield 7, 3) := by decide +kernel
theorem d_M_of_20 : decode b_M_of 20 = .ok (.iconst 0, 1) := by decide +kernel
theorem d_M_of_21 : decode b_M_of 21 = .ok (.iaload, 1) := by decide +kernel
theorem d_M_of_22 : decode b_M_of 22 = .ok (.aload_n 0, 1) := by decide +kernel
theorem d_M_of_23 : decode b_M_of 23 = .ok (.getfield 7, 3) := by decide +kernel
theorem d_M_of_26 : decode b_M_of 26 = .ok (.iconst 1, 1) := by decide +kernel
theorem d_M_of_27 : decode b_M_of 27 = .ok (.iaload, 1) := by decide +kernel
theorem d_M_of_28 : decode b_M_of 28 = .ok (.iload_n 1, 1) := by decide +kernel
theorem d_M_of_29 : decode b_M_of 29 = .ok (.iload_n 2, 1) := by decide +kernel
theorem d_M_of_30 : decode b_M_of 30 = .ok (.invokestatic 140, 3) := by decide +kernel
theorem d_M_of_33 : decode b_M_of 33 = .ok (.goto 4, 3) := by decide +kernel
theorem d_M_of_36 : decode b_M_of 36 = .ok (.iconst (-1), 1) := by decide +kernel
theorem d_M_of_37 : decode b_M_of 37 = .ok (.ireturn, 1) := by decide +kernel
theorem d_M_alikeTo_0 : decode b_M_alikeTo 0 = .ok (.aload_n 0, 1) := by decide +kernel
theorem d_M_alikeTo_1 : decode b_M_alikeTo 1 = .ok (.iload_n 1, 1) := by decide +kernel
theorem d_M_alikeTo_2 : decode b_M_alikeTo 2 = .ok (.iload_n 2, 1) := by decide +kernel
theorem d_M_alikeTo_3 : decode b_M_alikeTo 3 = .ok (.invokevirtual 76, 3) := by decide +kernel
theorem d_M_alikeTo_6 : decode b_M_alikeTo 6 = .ok (.iconst 0, 1) := by decide +kernel
theorem d_M_alikeTo_7 : decode b_M_alikeTo 7 = .ok (.istore_n 3, 1) := by decide +kernel
theorem d_M_alikeTo_8 : decode b_M_alikeTo 8 = .ok (.iconst 0, 1) := by decide +kernel
theorem d_M_alikeTo_9 : decode b_M_alikeTo 9 = .ok (.istore 4, 2) := by decide +kernel
theorem d_M_alikeTo_11 : decode b_M_alikeTo 11 = .ok (.iload 4, 2) := by decide +kernel
theorem d_M_alikeTo_13 : decode b_M_alikeTo 13 = .ok (.iload_n 1, 1) := by decide +kernel
theorem d_M_alikeTo_14 : decode b_M_alikeTo 14 = .ok (.invokestatic 80, 3) := by decide +kernel
theorem d_M_alikeTo_17 : decode b_M_alikeTo 17 = .ok (.if_icmp .ge 28, 3) := by decide +kernel
theorem d_M_alikeTo_20 : decode b_M_alikeTo 20 = .ok (.iload_n 3, 1) := by decide +kernel
theorem d_M_alikeTo_21 : decode b_M_alikeTo 21 = .ok (.aload_n 0, 1) := by decide +kernel
theorem d_M_alikeTo_22 : decode b_M_alikeTo 22 = .ok (.iload_n 1, 1) := by decide +kernel
theorem d_M_alikeTo_23 : decode b_M_alikeTo 23 = .ok (.iload 4, 2) := by decide +kernel
theorem d_M_alikeTo_25 : decode b_M_alikeTo 25 = .ok (.invokevirtual 83, 3) := by decide +kernel
theorem d_M_alikeTo_28 : decode b_M_alikeTo 28 = .ok (.iload_n 2, 1) := by decide +kernel
theorem d_M_alikeTo_29 : decode b_M_alikeTo 29 = .ok (.if_icmp .ne 7, 3) := by decide +kernel
theorem d_M_alikeTo_32 : decode b_M_alikeTo 32 = .ok (.iconst 1, 1) := by decide +kernel
theorem d_M_alikeTo_33 : decode b_M_alikeTo 33 = .ok (.goto 4, 3) := by decide +kernel
theorem d_M_alikeTo_36 : decode b_M_alikeTo 36 = .ok (.iconst 0, 1) := by decide +kernel
theorem d_M_alikeTo_37 : decode b_M_alikeTo 37 = .ok (.iadd, 1) := by decide +kernel
theorem d_M_alikeTo_38 : decode b_M_alikeTo 38 = .ok (.istore_n 3, 1) := by decide +kernel
theorem d_M_alikeTo_39 : decode b_M_alikeTo 39 = .ok (.iinc 4 1, 3) := by decide +kernel
theorem d_M_alikeTo_42 : decode b_M_alikeTo 42 = .ok (.goto (-31), 3) := by decide +kernel
theorem d_M_alikeTo_45 : decode b_M_alikeTo 45 = .ok (.iload_n 1, 1) := by decide +kernel
theorem d_M_alikeTo_46 : decode b_M_alikeTo 46 = .ok (.invokestatic 80, 3) := by decide +kernel
theorem d_M_alikeTo_49 : decode b_M_alikeTo 49 = .ok (.iload_n 3, 1) := by decide +kernel
theorem d_M_alikeTo_50 : decode b_M_alikeTo 50 = .ok (.idiv, 1) := by decide +kernel
theorem d_M_alikeTo_51 : decode b_M_alikeTo 51 = .ok (.ireturn, 1) := by decide +kernel
theorem d_M_things_0 : decode b_M_things 0 = .ok (.aload_n 0, 1) := by decide +kernel
theorem d_M_things_1 : decode b_M_things 1 = .ok (.getfield 7, 3) := by decide +kernel
theorem d_M_things_4 : decode b_M_things 4 = .ok (.iconst 0, 1) := by decide +kernel
theorem d_M_things_5 : decode b_M_things 5 = .ok (.iaload, 1) := by decide +kernel
theorem d_M_things_6 : decode b_M_things 6 = .ok (.istore_n 2, 1) := by decide +kernel
theorem d_M_things_7 : decode b_M_things 7 = .ok (.iconst 0, 1) := by decide +kernel
theorem d_M_things_8 : decode b_M_things 8 = .ok (.istore_n 3, 1) := by decide +kernel
theorem d_M_things_9 : decode b_M_things 9 = .ok (.aload_n 0, 1) := by decide +kernel
theorem d_M_things_10 : decode b_M_things 10 = .ok (.iload_n 2, 1) := by decide +kernel
theorem d_M_things_11 : decode b_M_things 11 = .ok (.aload_n 0, 1) := by decide +kernel
theorem d_M_things_12 : decode b_M_things 12 = .ok (.getfield 7, 3) := by decide +kernel
theorem d_M_things_15 : decode b_M_things 15 = .ok (.iconst 1, 1) := by decide +kernel
theorem d_M_things_16 : decode b_M_things 16 = .ok (.iaload, 1) := by decide +kernel
theorem d_M_things_17 : decode b_M_things 17 = .ok (.invokevirtual 76, 3) := by decide +kernel
theorem d_M_things_20 : decode b_M_things 20 = .ok (.iconst 0, 1) := by decide +kernel
theorem d_M_things_21 : decode b_M_things 21 = .ok (.istore 4, 2) := by decide +kernel
theorem d_M_things_23 : decode b_M_things 23 = .ok (.iload 4, 2) := by decide +kernel
theorem d_M_things_25 : decode b_M_things 25 = .ok (.iload_n 2, 1) := by decide +kernel
theorem d_M_things_26 : decode b_M_things 26 = .ok (.if_icmp .ge 122, 3) := by decide +kernel
theorem d_M_things_29 : decode b_M_things 29 = .ok (.iconst 1, 1) := by decide +kernel
theorem d_M_things_30 : decode b_M_things 30 = .ok (.istore 5, 2) := by decide +kernel
theorem d_M_things_32 : decode b_M_things 32 = .ok (.iconst 0, 1) := by decide +kernel
theorem d_M_things_33 : decode b_M_things 33 = .ok (.istore 6, 2) := by decide +kernel
theorem d_M_things_35 : decode b_M_things 35 = .ok (.iload 6, 2) := by decide +kernel
theorem d_M_things_37 : decode b_M_things 37 = .ok (.iload_n 2, 1) := by decide +kernel
theorem d_M_things_38 : decode b_M_things 38 = .ok (.if_icmp .ge 88, 3) := by decide +kernel
theorem d_M_things_41 : decode b_M_things 41 = .ok (.iload 5, 2) := by decide +kernel
theorem d_M_things_43 : decode b_M_things 43 = .ok (.ifCond .eq 74, 3) := by decide +kernel
theorem d_M_things_46 : decode b_M_things 46 = .ok (.iload_n 1, 1) := by decide +kernel
theorem d_M_things_47 : decode b_M_things 47 = .ok (.iconst 4, 1) := by decide +kernel
theorem d_M_things_48 : decode b_M_things 48 = .ok (.if_icmp .ne 23, 3) := by decide +kernel
theorem d_M_things_51 : decode b_M_things 51 = .ok (.aload_n 0, 1) := by decide +kernel
theorem d_M_things_52 : decode b_M_things 52 = .ok (.getfield 28, 3) := by decide +kernel
theorem d_M_things_55 : decode b_M_things 55 = .ok (.iload_n 2, 1) := by decide +kernel
theorem d_M_things_56 : decode b_M_things 56 = .ok (.iload 4, 2) := by decide +kernel
theorem d_M_things_58 : decode b_M_things 58 = .ok (.imul, 1) := by decide +kernel
theorem d_M_things_59 : decode b_M_things 59 = .ok (.iload 4, 2) := by decide +kernel
theorem d_M_things_61 : decode b_M_things 61 = .ok (.iadd, 1) := by decide +kernel
theorem d_M_things_62 : decode b_M_things 62 = .ok (.iaload, 1) := by decide +kernel
theorem d_M_things_63 : decode b_M_things 63 = .ok (.iload 4, 2) := by decide +kernel
theorem d_M_things_65 : decode b_M_things 65 = .ok (.if_icmp .ne 52, 3) := by decide +kernel
theorem d_M_things_68 : decode b_M_things 68 = .ok (.goto 45, 3) := by decide +kernel
theorem d_M_things_71 : decode b_M_things 71 = .ok (.iload_n 1, 1) := by decide +kernel
theorem d_M_things_72 : decode b_M_things 72 = .ok (.iconst 5, 1) := by decide +kernel
theorem d_M_things_73 : decode b_M_things 73 = .ok (.if_icmp .ne 23, 3) := by decide +kernel
theorem d_M_things_76 : decode b_M_things 76 = .ok (.aload_n 0, 1) := by decide +kernel
theorem d_M_things_77 : decode b_M_things 77 = .ok (.getfield 28, 3) := by decide +kernel
theorem d_M_things_80 : decode b_M_things 80 = .ok (.iload_n 2, 1) := by decide +kernel
theorem d_M_things_81 : decode b_M_things 81 = .ok (.iload 4, 2) := by decide +kernel
theorem d_M_things_83 : decode b_M_things 83 = .ok (.imul, 1) := by decide +kernel
theorem d_M_things_84 : decode b_M_things 84 = .ok (.iload 6, 2) := by decide +kernel
theorem d_M_things_86 : decode b_M_things 86 = .ok (.iadd, 1) := by decide +kernel
theorem d_M_things_87 : decode b_M_things 87 = .ok (.iaload, 1) := by decide +kernel
theorem d_M_things_88 : decode b_M_things 88 = .ok (.iload 6, 2) := by decide +kernel
theorem d_M_things_90 : decode b_M_things 90 = .ok (.if_icmp .ne 27, 3) := by decide +kernel
theorem d_M_things_93 : decode b_M_things 93 = .ok (.goto 20, 3) := by decide +kernel
theorem d_M_things_96 : decode b_M_things 96 = .ok (.aload_n 0, 1) := by decide +kernel
theorem d_M_things_97 : decode b_M_things 97 = .ok (.getfield 28, 3) := by decide +kernel
theorem d_M_things_100 : decode b_M_things 100 = .ok (.iload_n 2, 1) := by decide +kernel
theorem d_M_things_101 : decode b_M_things 101 = .ok (.iload 6, 2) := by decide +kernel
theorem d_M_things_103 : decode b_M_things 103 = .ok (.imul, 1) := by decide +kernel
theorem d_M_things_104 : decode b_M_things 104 = .ok (.iload 4, 2) := by decide +kernel
theorem d_M_things_106 : decode b_M_things 106 = .ok (.iadd, 1) := by decide +kernel
theorem d_M_things_107 : decode b_M_things 107 = .ok (.iaload, 1) := by decide +kernel
theorem d_M_things_108 : decode b_M_things 108 = .ok (.iload 6, 2) := by decide +kernel
theorem d_M_things_110 : decode b_M_things 110 = .ok (.if_icmp .ne 7, 3) := by decide +kernel
theorem d_M_things_113 : decode b_M_things 113 = .ok (.iconst 1, 1) := by decide +kernel
theorem d_M_things_114 : decode b_M_things 114 = .ok (.goto 4, 3) := by decide +kernel
theorem d_M_things_117 : decode b_M_things 117 = .ok (.iconst 0, 1) := by decide +kernel
theorem d_M_things_118 : decode b_M_things 118 = .ok (.istore 5, 2) := by decide +kernel
theorem d_M_things_120 : decode b_M_things 120 = .ok (.iinc 6 1, 3) := by decide +kernel
theorem d_M_things_123 : decode b_M_things 123 = .ok (.goto (-88), 3) := by decide +kernel
theorem d_M_things_126 : decode b_M_things 126 = .ok (.iload_n 3, 1) := by decide +kernel
theorem d_M_things_127 : decode b_M_things 127 = .ok (.iload 5, 2) := by decide +kernel
theorem d_M_things_129 : decode b_M_things 129 = .ok (.ifCond .eq 10, 3) := by decide +kernel
theorem d_M_things_132 : decode b_M_things 132 = .ok (.iconst 1, 1) := by decide +kernel
theorem d_M_things_133 : decode b_M_things 133 = .ok (.iload 4, 2) := by decide +kernel
theorem d_M_things_135 : decode b_M_things 135 = .ok (.ishl, 1) := by decide +kernel
theorem d_M_things_136 : decode b_M_things 136 = .ok (.goto 4, 3) := by decide +kernel
theorem d_M_things_139 : decode b_M_things 139 = .ok (.iconst 0, 1) := by decide +kernel
theorem d_M_things_140 : decode b_M_things 140 = .ok (.ior, 1) := by decide +kernel
theorem d_M_things_141 : decode b_M_things 141 = .ok (.istore_n 3, 1) := by decide +kernel
theorem d_M_things_142 : decode b_M_things 142 = .ok (.iinc 4 1, 3) := by decide +kernel
theorem d_M_things_145 : decode b_M_things 145 = .ok (.goto (-122), 3) := by decide +kernel
theorem d_M_things_148 : decode b_M_things 148 = .ok (.iload_n 3, 1) := by decide +kernel
theorem d_M_things_149 : decode b_M_things 149 = .ok (.ireturn, 1) := by decide +kernel
theorem d_M_brokenNow_0 : decode b_M_brokenNow 0 = .ok (.aload_n 0, 1) := by decide +kernel
theorem d_M_brokenNow_1 : decode b_M_brokenNow 1 = .ok (.aload_n 0, 1) := by decide +kernel
theorem d_M_brokenNow_2 : decode b_M_brokenNow 2 = .ok (.getfield 7, 3) := by decide +kernel
theorem d_M_brokenNow_5 : decode b_M_brokenNow 5 = .ok (.iconst 0, 1) := by decide +kernel
theorem d_M_brokenNow_6 : decode b_M_brokenNow 6 = .ok (.iaload, 1) := by decide +kernel
theorem d_M_brokenNow_7 : decode b_M_brokenNow 7 = .ok (.aload_n 0, 1) := by decide +kernel
theorem d_M_brokenNow_8 : decode b_M_brokenNow 8 = .ok (.getfield 7, 3) := by decide +kernel
theorem d_M_brokenNow_11 : decode b_M_brokenNow 11 = .ok (.iconst 1, 1) := by decide +kernel
theorem d_M_brokenNow_12 : decode b_M_brokenNow 12 = .ok (.iaload, 1) := by decide +kernel
theorem d_M_brokenNow_13 : decode b_M_brokenNow 13 = .ok (.iload_n 1, 1) := by decide +kernel
theorem d_M_brokenNow_14 : decode b_M_brokenNow 14 = .ok (.invokevirtual 97, 3) := by decide +kernel
theorem d_M_brokenNow_17 : decode b_M_brokenNow 17 = .ok (.ireturn, 1) := by decide +kernel
theorem d_M_lawsThatHold_0 : decode b_M_lawsThatHold 0 = .ok (.iconst 0, 1) := by decide +kernel
theorem d_M_lawsThatHold_1 : decode b_M_lawsThatHold 1 = .ok (.istore_n 2, 1) := by decide +kernel
theorem d_M_lawsThatHold_2 : decode b_M_lawsThatHold 2 = .ok (.iconst 0, 1) := by decide +kernel
theorem d_M_lawsThatHold_3 : decode b_M_lawsThatHold 3 = .ok (.istore_n 3, 1) := by decide +kernel
theorem d_M_lawsThatHold_4 : decode b_M_lawsThatHold 4 = .ok (.iload_n 3, 1) := by decide +kernel
theorem d_M_lawsThatHold_5 : decode b_M_lawsThatHold 5 = .ok (.aload_n 0, 1) := by decide +kernel
theorem d_M_lawsThatHold_6 : decode b_M_lawsThatHold 6 = .ok (.getfield 7, 3) := by decide +kernel
theorem d_M_lawsThatHold_9 : decode b_M_lawsThatHold 9 = .ok (.iconst 2, 1) := by decide +kernel
theorem d_M_lawsThatHold_10 : decode b_M_lawsThatHold 10 = .ok (.iaload, 1) := by decide +kernel
theorem d_M_lawsThatHold_11 : decode b_M_lawsThatHold 11 = .ok (.if_icmp .ge 37, 3) := by decide +kernel
theorem d_M_lawsThatHold_14 : decode b_M_lawsThatHold 14 = .ok (.iload_n 2, 1) := by decide +kernel
theorem d_M_lawsThatHold_15 : decode b_M_lawsThatHold 15 = .ok (.iload_n 1, 1) := by decide +kernel
theorem d_M_lawsThatHold_16 : decode b_M_lawsThatHold 16 = .ok (.ifCond .eq 11, 3) := by decide +kernel
theorem d_M_lawsThatHold_19 : decode b_M_lawsThatHold 19 = .ok (.aload_n 0, 1) := by decide +kernel
theorem d_M_lawsThatHold_20 : decode b_M_lawsThatHold 20 = .ok (.iload_n 3, 1) := by decide +kernel
theorem d_M_lawsThatHold_21 : decode b_M_lawsThatHold 21 = .ok (.invokevirtual 111, 3) := by decide +kernel
theorem d_M_lawsThatHold_24 : decode b_M_lawsThatHold 24 = .ok (.ifCond .eq 15, 3) := by decide +kernel
theorem d_M_lawsThatHold_27 : decode b_M_lawsThatHold 27 = .ok (.aload_n 0, 1) := by decide +kernel
theorem d_M_lawsThatHold_28 : decode b_M_lawsThatHold 28 = .ok (.iload_n 3, 1) := by decide +kernel
theorem d_M_lawsThatHold_29 : decode b_M_lawsThatHold 29 = .ok (.invokevirtual 198, 3) := by decide +kernel
theorem d_M_lawsThatHold_32 : decode b_M_lawsThatHold 32 = .ok (.ifCond .ne 7, 3) := by decide +kernel
theorem d_M_lawsThatHold_35 : decode b_M_lawsThatHold 35 = .ok (.iconst 1, 1) := by decide +kernel
theorem d_M_lawsThatHold_36 : decode b_M_lawsThatHold 36 = .ok (.goto 4, 3) := by decide +kernel
theorem d_M_lawsThatHold_39 : decode b_M_lawsThatHold 39 = .ok (.iconst 0, 1) := by decide +kernel
theorem d_M_lawsThatHold_40 : decode b_M_lawsThatHold 40 = .ok (.iadd, 1) := by decide +kernel
theorem d_M_lawsThatHold_41 : decode b_M_lawsThatHold 41 = .ok (.istore_n 2, 1) := by decide +kernel
theorem d_M_lawsThatHold_42 : decode b_M_lawsThatHold 42 = .ok (.iinc 3 1, 3) := by decide +kernel
theorem d_M_lawsThatHold_45 : decode b_M_lawsThatHold 45 = .ok (.goto (-41), 3) := by decide +kernel
theorem d_M_lawsThatHold_48 : decode b_M_lawsThatHold 48 = .ok (.iload_n 2, 1) := by decide +kernel
theorem d_M_lawsThatHold_49 : decode b_M_lawsThatHold 49 = .ok (.ireturn, 1) := by decide +kernel
theorem d_M_world_0 : decode b_M_world 0 = .ok (.iload_n 1, 1) := by decide +kernel
theorem d_M_world_1 : decode b_M_world 1 = .ok (.tableswitch 119 0 7 #[47, 54, 61, 78, 95, 95, 95, 101], 47) := by decide +kernel
theorem d_M_world_48 : decode b_M_world 48 = .ok (.aload_n 0, 1) := by decide +kernel
theorem d_M_world_49 : decode b_M_world 49 = .ok (.getfield 7, 3) := by decide +kernel
theorem d_M_world_52 : decode b_M_world 52 = .ok (.iconst 0, 1) := by decide +kernel
theorem d_M_world_53 : decode b_M_world 53 = .ok (.iaload, 1) := by decide +kernel
theorem d_M_world_54 : decode b_M_world 54 = .ok (.ireturn, 1) := by decide +kernel
theorem d_M_world_55 : decode b_M_world 55 = .ok (.aload_n 0, 1) := by decide +kernel
theorem d_M_world_56 : decode b_M_world 56 = .ok (.getfield 7, 3) := by decide +kernel
theorem d_M_world_59 : decode b_M_world 59 = .ok (.iconst 1, 1) := by decide +kernel
theorem d_M_world_60 : decode b_M_world 60 = .ok (.iaload, 1) := by decide +kernel
theorem d_M_world_61 : decode b_M_world 61 = .ok (.ireturn, 1) := by decide +kernel
theorem d_M_world_62 : decode b_M_world 62 = .ok (.aload_n 0, 1) := by decide +kernel
theorem d_M_world_63 : decode b_M_world 63 = .ok (.aload_n 0, 1) := by decide +kernel
theorem d_M_world_64 : decode b_M_world 64 = .ok (.getfield 7, 3) := by decide +kernel
theorem d_M_world_67 : decode b_M_world 67 = .ok (.iconst 0, 1) := by decide +kernel
theorem d_M_world_68 : decode b_M_world 68 = .ok (.iaload, 1) := by decide +kernel
theorem d_M_world_69 : decode b_M_world 69 = .ok (.aload_n 0, 1) := by decide +kernel
theorem d_M_world_70 : decode b_M_world 70 = .ok (.getfield 7, 3) := by decide +kernel
theorem d_M_world_73 : decode b_M_world 73 = .ok (.iconst 1, 1) := by decide +kernel
theorem d_M_world_74 : decode b_M_world 74 = .ok (.iaload, 1) := by decide +kernel
theorem d_M_world_75 : decode b_M_world 75 = .ok (.invokevirtual 56, 3) := by decide +kernel
theorem d_M_world_78 : decode b_M_world 78 = .ok (.ireturn, 1) := by decide +kernel
theorem d_M_world_79 : decode b_M_world 79 = .ok (.aload_n 0, 1) := by decide +kernel
theorem d_M_world_80 : decode b_M_world 80 = .ok (.aload_n 0, 1) := by decide +kernel
theorem d_M_world_81 : decode b_M_world 81 = .ok (.getfield 7, 3) := by decide +kernel
theorem d_M_world_84 : decode b_M_world 84 = .ok (.iconst 0, 1) := by decide +kernel
theorem d_M_world_85 : decode b_M_world 85 = .ok (.iaload, 1) := by decide +kernel
theorem d_M_world_86 : decode b_M_world 86 = .ok (.aload_n 0, 1) := by decide +kernel
theorem d_M_world_87 : decode b_M_world 87 = .ok (.getfield 7, 3) := by decide +kernel
theorem d_M_world_90 : decode b_M_world 90 = .ok (.iconst 1, 1) := by decide +kernel
theorem d_M_world_91 : decode b_M_world 91 = .ok (.iaload, 1) := by decide +kernel
theorem d_M_world_92 : decode b_M_world 92 = .ok (.invokevirtual 201, 3) := by decide +kernel
theorem d_M_world_95 : decode b_M_world 95 = .ok (.ireturn, 1) := by decide +kernel
theorem d_M_world_96 : decode b_M_world 96 = .ok (.aload_n 0, 1) := by decide +kernel
theorem d_M_world_97 : decode b_M_world 97 = .ok (.iload_n 1, 1) := by decide +kernel
theorem d_M_world_98 : decode b_M_world 98 = .ok (.invokevirtual 204, 3) := by decide +kernel
theorem d_M_world_101 : decode b_M_world 101 = .ok (.ireturn, 1) := by decide +kernel
theorem d_M_world_102 : decode b_M_world 102 = .ok (.aload_n 0, 1) := by decide +kernel
theorem d_M_world_103 : decode b_M_world 103 = .ok (.iconst 1, 1) := by decide +kernel
theorem d_M_world_104 : decode b_M_world 104 = .ok (.invokevirtual 207, 3) := by decide +kernel
theorem d_M_world_107 : decode b_M_world 107 = .ok (.aload_n 0, 1) := by decide +kernel
theorem d_M_world_108 : decode b_M_world 108 = .ok (.invokevirtual 192, 3) := by decide +kernel
theorem d_M_world_111 : decode b_M_world 111 = .ok (.if_icmp .ne 7, 3) := by decide +kernel
theorem d_M_world_114 : decode b_M_world 114 = .ok (.iconst 1, 1) := by decide +kernel
theorem d_M_world_115 : decode b_M_world 115 = .ok (.goto 4, 3) := by decide +kernel
theorem d_M_world_118 : decode b_M_world 118 = .ok (.iconst 0, 1) := by decide +kernel
theorem d_M_world_119 : decode b_M_world 119 = .ok (.ireturn, 1) := by decide +kernel
theorem d_M_world_120 : decode b_M_world 120 = .ok (.bipush (-2), 2) := by decide +kernel
theorem d_M_world_122 : decode b_M_world 122 = .ok (.ireturn, 1) := by decide +kernel
theorem d_M_closed_0 : decode b_M_closed 0 = .ok (.aload_n 0, 1) := by decide +kernel
theorem d_M_closed_1 : decode b_M_closed 1 = .ok (.getfield 7, 3) := by decide +kernel
theorem d_M_closed_4 : decode b_M_closed 4 = .ok (.iconst 0, 1) := by decide +kernel
theorem d_M_closed_5 : decode b_M_closed 5 = .ok (.iaload, 1) := by decide +kernel
theorem d_M_closed_6 : decode b_M_closed 6 = .ok (.istore_n 2, 1) := by decide +kernel
theorem d_M_closed_7 : decode b_M_closed 7 = .ok (.iload_n 1, 1) := by decide +kernel
theorem d_M_closed_8 : decode b_M_closed 8 = .ok (.i2l, 1) := by decide +kernel
theorem d_M_closed_9 : decode b_M_closed 9 = .ok (.lconst 0, 1) := by decide +kernel
theorem d_M_closed_10 : decode b_M_closed 10 = .ok (.iconst 1, 1) := by decide +kernel
theorem d_M_closed_11 : decode b_M_closed 11 = .ok (.iload_n 2, 1) := by decide +kernel
theorem d_M_closed_12 : decode b_M_closed 12 = .ok (.ishl, 1) := by decide +kernel
theorem d_M_closed_13 : decode b_M_closed 13 = .ok (.iconst 1, 1) := by decide +kernel
theorem d_M_closed_14 : decode b_M_closed 14 = .ok (.isub, 1) := by decide +kernel
theorem d_M_closed_15 : decode b_M_closed 15 = .ok (.i2l, 1) := by decide +kernel
theorem d_M_closed_16 : decode b_M_closed 16 = .ok (.invokestatic 69, 3) := by decide +kernel
theorem d_M_closed_19 : decode b_M_closed 19 = .ok (.ifCond .ne 6, 3) := by decide +kernel
theorem d_M_closed_22 : decode b_M_closed 22 = .ok (.bipush (-2), 2) := by decide +kernel
theorem d_M_closed_24 : decode b_M_closed 24 = .ok (.ireturn, 1) := by decide +kernel
theorem d_M_closed_25 : decode b_M_closed 25 = .ok (.aload_n 0, 1) := by decide +kernel
theorem d_M_closed_26 : decode b_M_closed 26 = .ok (.iload_n 2, 1) := by decide +kernel
theorem d_M_closed_27 : decode b_M_closed 27 = .ok (.aload_n 0, 1) := by decide +kernel
theorem d_M_closed_28 : decode b_M_closed 28 = .ok (.getfield 7, 3) := by decide +kernel
theorem d_M_closed_31 : decode b_M_closed 31 = .ok (.iconst 1, 1) := by decide +kernel
theorem d_M_closed_32 : decode b_M_closed 32 = .ok (.iaload, 1) := by decide +kernel
theorem d_M_closed_33 : decode b_M_closed 33 = .ok (.invokevirtual 76, 3) := by decide +kernel
theorem d_M_closed_36 : decode b_M_closed 36 = .ok (.iload_n 1, 1) := by decide +kernel
theorem d_M_closed_37 : decode b_M_closed 37 = .ok (.istore_n 3, 1) := by decide +kernel
theorem d_M_closed_38 : decode b_M_closed 38 = .ok (.iconst 1, 1) := by decide +kernel
theorem d_M_closed_39 : decode b_M_closed 39 = .ok (.istore 4, 2) := by decide +kernel
theorem d_M_closed_41 : decode b_M_closed 41 = .ok (.iload 4, 2) := by decide +kernel
theorem d_M_closed_43 : decode b_M_closed 43 = .ok (.ifCond .eq 79, 3) := by decide +kernel
theorem d_M_closed_46 : decode b_M_closed 46 = .ok (.iload_n 3, 1) := by decide +kernel
theorem d_M_closed_47 : decode b_M_closed 47 = .ok (.istore 5, 2) := by decide +kernel
theorem d_M_closed_49 : decode b_M_closed 49 = .ok (.iconst 0, 1) := by decide +kernel
theorem d_M_closed_50 : decode b_M_closed 50 = .ok (.istore 6, 2) := by decide +kernel
theorem d_M_closed_52 : decode b_M_closed 52 = .ok (.iload 6, 2) := by decide +kernel
theorem d_M_closed_54 : decode b_M_closed 54 = .ok (.iload_n 2, 1) := by decide +kernel
theorem d_M_closed_55 : decode b_M_closed 55 = .ok (.iload_n 2, 1) := by decide +kernel
theorem d_M_closed_56 : decode b_M_closed 56 = .ok (.imul, 1) := by decide +kernel
theorem d_M_closed_57 : decode b_M_closed 57 = .ok (.if_icmp .ge 49, 3) := by decide +kernel
theorem d_M_closed_60 : decode b_M_closed 60 = .ok (.iload_n 3, 1) := by decide +kernel
theorem d_M_closed_61 : decode b_M_closed 61 = .ok (.iload_n 3, 1) := by decide +kernel
theorem d_M_closed_62 : decode b_M_closed 62 = .ok (.iload 6, 2) := by decide +kernel
theorem d_M_closed_64 : decode b_M_closed 64 = .ok (.iload_n 2, 1) := by decide +kernel
theorem d_M_closed_65 : decode b_M_closed 65 = .ok (.idiv, 1) := by decide +kernel
theorem d_M_closed_66 : decode b_M_closed 66 = .ok (.ishr, 1) := by decide +kernel
theorem d_M_closed_67 : decode b_M_closed 67 = .ok (.iconst 1, 1) := by decide +kernel
theorem d_M_closed_68 : decode b_M_closed 68 = .ok (.iand, 1) := by decide +kernel
theorem d_M_closed_69 : decode b_M_closed 69 = .ok (.iconst 1, 1) := by decide +kernel
theorem d_M_closed_70 : decode b_M_closed 70 = .ok (.if_icmp .ne 27, 3) := by decide +kernel
theorem d_M_closed_73 : decode b_M_closed 73 = .ok (.iload_n 3, 1) := by decide +kernel
theorem d_M_closed_74 : decode b_M_closed 74 = .ok (.iload 6, 2) := by decide +kernel
theorem d_M_closed_76 : decode b_M_closed 76 = .ok (.iload_n 2, 1) := by decide +kernel
theorem d_M_closed_77 : decode b_M_closed 77 = .ok (.irem, 1) := by decide +kernel
theorem d_M_closed_78 : decode b_M_closed 78 = .ok (.ishr, 1) := by decide +kernel
theorem d_M_closed_79 : decode b_M_closed 79 = .ok (.iconst 1, 1) := by decide +kernel
theorem d_M_closed_80 : decode b_M_closed 80 = .ok (.iand, 1) := by decide +kernel
theorem d_M_closed_81 : decode b_M_closed 81 = .ok (.iconst 1, 1) := by decide +kernel
theorem d_M_closed_82 : decode b_M_closed 82 = .ok (.if_icmp .ne 15, 3) := by decide +kernel
theorem d_M_closed_85 : decode b_M_closed 85 = .ok (.iconst 1, 1) := by decide +kernel
theorem d_M_closed_86 : decode b_M_closed 86 = .ok (.aload_n 0, 1) := by decide +kernel
theorem d_M_closed_87 : decode b_M_closed 87 = .ok (.getfield 28, 3) := by decide +kernel
theorem d_M_closed_90 : decode b_M_closed 90 = .ok (.iload 6, 2) := by decide +kernel
theorem d_M_closed_92 : decode b_M_closed 92 = .ok (.iaload, 1) := by decide +kernel
theorem d_M_closed_93 : decode b_M_closed 93 = .ok (.ishl, 1) := by decide +kernel
theorem d_M_closed_94 : decode b_M_closed 94 = .ok (.goto 4, 3) := by decide +kernel
theorem d_M_closed_97 : decode b_M_closed 97 = .ok (.iconst 0, 1) := by decide +kernel
theorem d_M_closed_98 : decode b_M_closed 98 = .ok (.ior, 1) := by decide +kernel
theorem d_M_closed_99 : decode b_M_closed 99 = .ok (.istore_n 3, 1) := by decide +kernel
theorem d_M_closed_100 : decode b_M_closed 100 = .ok (.iinc 6 1, 3) := by decide +kernel
theorem d_M_closed_103 : decode b_M_closed 103 = .ok (.goto (-51), 3) := by decide +kernel
theorem d_M_closed_106 : decode b_M_closed 106 = .ok (.iload_n 3, 1) := by decide +kernel
theorem d_M_closed_107 : decode b_M_closed 107 = .ok (.iload 5, 2) := by decide +kernel
theorem d_M_closed_109 : decode b_M_closed 109 = .ok (.if_icmp .eq 7, 3) := by decide +kernel
theorem d_M_closed_112 : decode b_M_closed 112 = .ok (.iconst 1, 1) := by decide +kernel
theorem d_M_closed_113 : decode b_M_closed 113 = .ok (.goto 4, 3) := by decide +kernel
theorem d_M_closed_116 : decode b_M_closed 116 = .ok (.iconst 0, 1) := by decide +kernel
theorem d_M_closed_117 : decode b_M_closed 117 = .ok (.istore 4, 2) := by decide +kernel
theorem d_M_closed_119 : decode b_M_closed 119 = .ok (.goto (-78), 3) := by decide +kernel
theorem d_M_closed_122 : decode b_M_closed 122 = .ok (.iload_n 3, 1) := by decide +kernel
theorem d_M_closed_123 : decode b_M_closed 123 = .ok (.ireturn, 1) := by decide +kernel
theorem d_M_lettersOf_0 : decode b_M_lettersOf 0 = .ok (.iconst 0, 1) := by decide +kernel
theorem d_M_lettersOf_1 : decode b_M_lettersOf 1 = .ok (.istore_n 3, 1) := by decide +kernel
theorem d_M_lettersOf_2 : decode b_M_lettersOf 2 = .ok (.iconst 0, 1) := by decide +kernel
theorem d_M_lettersOf_3 : decode b_M_lettersOf 3 = .ok (.istore 4, 2) := by decide +kernel
theorem d_M_lettersOf_5 : decode b_M_lettersOf 5 = .ok (.iload_n 1, 1) := by decide +kernel
theorem d_M_lettersOf_6 : decode b_M_lettersOf 6 = .ok (.invokestatic 86, 3) := by decide +kernel
theorem d_M_lettersOf_9 : decode b_M_lettersOf 9 = .ok (.iconst 1, 1) := by decide +kernel
theorem d_M_lettersOf_10 : decode b_M_lettersOf 10 = .ok (.iadd, 1) := by decide +kernel
theorem d_M_lettersOf_11 : decode b_M_lettersOf 11 = .ok (.istore 5, 2) := by decide +kernel
theorem d_M_lettersOf_13 : decode b_M_lettersOf 13 = .ok (.iload 5, 2) := by decide +kernel
theorem d_M_lettersOf_15 : decode b_M_lettersOf 15 = .ok (.iload_n 1, 1) := by decide +kernel
theorem d_M_lettersOf_16 : decode b_M_lettersOf 16 = .ok (.invokestatic 86, 3) := by decide +kernel
theorem d_M_lettersOf_19 : decode b_M_lettersOf 19 = .ok (.bipush 17, 2) := by decide +kernel
theorem d_M_lettersOf_21 : decode b_M_lettersOf 21 = .ok (.iadd, 1) := by decide +kernel
theorem d_M_lettersOf_22 : decode b_M_lettersOf 22 = .ok (.if_icmp .gt 90, 3) := by decide +kernel
theorem d_M_lettersOf_25 : decode b_M_lettersOf 25 = .ok (.iconst 1, 1) := by decide +kernel
theorem d_M_lettersOf_26 : decode b_M_lettersOf 26 = .ok (.istore 6, 2) := by decide +kernel
theorem d_M_lettersOf_28 : decode b_M_lettersOf 28 = .ok (.iload 6, 2) := by decide +kernel
theorem d_M_lettersOf_30 : decode b_M_lettersOf 30 = .ok (.aload_n 0, 1) := by decide +kernel
theorem d_M_lettersOf_31 : decode b_M_lettersOf 31 = .ok (.getfield 7, 3) := by decide +kernel
theorem d_M_lettersOf_34 : decode b_M_lettersOf 34 = .ok (.iload 5, 2) := by decide +kernel
theorem d_M_lettersOf_36 : decode b_M_lettersOf 36 = .ok (.iaload, 1) := by decide +kernel
theorem d_M_lettersOf_37 : decode b_M_lettersOf 37 = .ok (.if_icmp .gt 69, 3) := by decide +kernel
theorem d_M_lettersOf_40 : decode b_M_lettersOf 40 = .ok (.aload_n 0, 1) := by decide +kernel
theorem d_M_lettersOf_41 : decode b_M_lettersOf 41 = .ok (.getfield 7, 3) := by decide +kernel
theorem d_M_lettersOf_44 : decode b_M_lettersOf 44 = .ok (.iload 5, 2) := by decide +kernel
theorem d_M_lettersOf_46 : decode b_M_lettersOf 46 = .ok (.iload 6, 2) := by decide +kernel
theorem d_M_lettersOf_48 : decode b_M_lettersOf 48 = .ok (.iadd, 1) := by decide +kernel
theorem d_M_lettersOf_49 : decode b_M_lettersOf 49 = .ok (.iaload, 1) := by decide +kernel
theorem d_M_lettersOf_50 : decode b_M_lettersOf 50 = .ok (.iconst 3, 1) := by decide +kernel
theorem d_M_lettersOf_51 : decode b_M_lettersOf 51 = .ok (.if_icmp .eq 7, 3) := by decide +kernel
theorem d_M_lettersOf_54 : decode b_M_lettersOf 54 = .ok (.iconst 1, 1) := by decide +kernel
theorem d_M_lettersOf_55 : decode b_M_lettersOf 55 = .ok (.goto 4, 3) := by decide +kernel
theorem d_M_lettersOf_58 : decode b_M_lettersOf 58 = .ok (.iconst 0, 1) := by decide +kernel
theorem d_M_lettersOf_59 : decode b_M_lettersOf 59 = .ok (.istore 7, 2) := by decide +kernel
theorem d_M_lettersOf_61 : decode b_M_lettersOf 61 = .ok (.iload_n 3, 1) := by decide +kernel
theorem d_M_lettersOf_62 : decode b_M_lettersOf 62 = .ok (.iload 7, 2) := by decide +kernel
theorem d_M_lettersOf_64 : decode b_M_lettersOf 64 = .ok (.ifCond .eq 7, 3) := by decide +kernel
theorem d_M_lettersOf_67 : decode b_M_lettersOf 67 = .ok (.iconst 1, 1) := by decide +kernel
theorem d_M_lettersOf_68 : decode b_M_lettersOf 68 = .ok (.goto 4, 3) := by decide +kernel
theorem d_M_lettersOf_71 : decode b_M_lettersOf 71 = .ok (.iconst 0, 1) := by decide +kernel
theorem d_M_lettersOf_72 : decode b_M_lettersOf 72 = .ok (.iadd, 1) := by decide +kernel
theorem d_M_lettersOf_73 : decode b_M_lettersOf 73 = .ok (.istore_n 3, 1) := by decide +kernel
theorem d_M_lettersOf_74 : decode b_M_lettersOf 74 = .ok (.iload 4, 2) := by decide +kernel
theorem d_M_lettersOf_76 : decode b_M_lettersOf 76 = .ok (.iload 7, 2) := by decide +kernel
theorem d_M_lettersOf_78 : decode b_M_lettersOf 78 = .ok (.ifCond .eq 18, 3) := by decide +kernel
theorem d_M_lettersOf_81 : decode b_M_lettersOf 81 = .ok (.iconst 1, 1) := by decide +kernel
theorem d_M_lettersOf_82 : decode b_M_lettersOf 82 = .ok (.aload_n 0, 1) := by decide +kernel
theorem d_M_lettersOf_83 : decode b_M_lettersOf 83 = .ok (.getfield 7, 3) := by decide +kernel
theorem d_M_lettersOf_86 : decode b_M_lettersOf 86 = .ok (.iload 5, 2) := by decide +kernel
theorem d_M_lettersOf_88 : decode b_M_lettersOf 88 = .ok (.iload 6, 2) := by decide +kernel
theorem d_M_lettersOf_90 : decode b_M_lettersOf 90 = .ok (.iadd, 1) := by decide +kernel
theorem d_M_lettersOf_91 : decode b_M_lettersOf 91 = .ok (.iaload, 1) := by decide +kernel
theorem d_M_lettersOf_92 : decode b_M_lettersOf 92 = .ok (.ishl, 1) := by decide +kernel
theorem d_M_lettersOf_93 : decode b_M_lettersOf 93 = .ok (.goto 4, 3) := by decide +kernel
theorem d_M_lettersOf_96 : decode b_M_lettersOf 96 = .ok (.iconst 0, 1) := by decide +kernel
theorem d_M_lettersOf_97 : decode b_M_lettersOf 97 = .ok (.ior, 1) := by decide +kernel
theorem d_M_lettersOf_98 : decode b_M_lettersOf 98 = .ok (.istore 4, 2) := by decide +kernel
theorem d_M_lettersOf_100 : decode b_M_lettersOf 100 = .ok (.iinc 6 1, 3) := by decide +kernel
theorem d_M_lettersOf_103 : decode b_M_lettersOf 103 = .ok (.goto (-75), 3) := by decide +kernel
theorem d_M_lettersOf_106 : decode b_M_lettersOf 106 = .ok (.iinc 5 16, 3) := by decide +kernel
theorem d_M_lettersOf_109 : decode b_M_lettersOf 109 = .ok (.goto (-96), 3) := by decide +kernel
theorem d_M_lettersOf_112 : decode b_M_lettersOf 112 = .ok (.iload_n 2, 1) := by decide +kernel
theorem d_M_lettersOf_113 : decode b_M_lettersOf 113 = .ok (.ifCond .eq 8, 3) := by decide +kernel
theorem d_M_lettersOf_116 : decode b_M_lettersOf 116 = .ok (.iload 4, 2) := by decide +kernel
theorem d_M_lettersOf_118 : decode b_M_lettersOf 118 = .ok (.goto 4, 3) := by decide +kernel
theorem d_M_lettersOf_121 : decode b_M_lettersOf 121 = .ok (.iload_n 3, 1) := by decide +kernel
theorem d_M_lettersOf_122 : decode b_M_lettersOf 122 = .ok (.ireturn, 1) := by decide +kernel
theorem d_M_follows_0 : decode b_M_follows 0 = .ok (.aload_n 0, 1) := by decide +kernel
theorem d_M_follows_1 : decode b_M_follows 1 = .ok (.iload_n 1, 1) := by decide +kernel
theorem d_M_follows_2 : decode b_M_follows 2 = .ok (.invokevirtual 124, 3) := by decide +kernel
theorem d_M_follows_5 : decode b_M_follows 5 = .ok (.aload_n 0, 1) := by decide +kernel
theorem d_M_follows_6 : decode b_M_follows 6 = .ok (.getfield 117, 3) := by decide +kernel
theorem d_M_follows_9 : decode b_M_follows 9 = .ok (.ifCond .ne 7, 3) := by decide +kernel
theorem d_M_follows_12 : decode b_M_follows 12 = .ok (.iconst 1, 1) := by decide +kernel
theorem d_M_follows_13 : decode b_M_follows 13 = .ok (.goto 4, 3) := by decide +kernel
theorem d_M_follows_16 : decode b_M_follows 16 = .ok (.iconst 0, 1) := by decide +kernel
theorem d_M_follows_17 : decode b_M_follows 17 = .ok (.ireturn, 1) := by decide +kernel
theorem d_M_toldWitnesses_0 : decode b_M_toldWitnesses 0 = .ok (.aload_n 0, 1) := by decide +kernel
theorem d_M_toldWitnesses_1 : decode b_M_toldWitnesses 1 = .ok (.iload_n 1, 1) := by decide +kernel
theorem d_M_toldWitnesses_2 : decode b_M_toldWitnesses 2 = .ok (.invokevirtual 124, 3) := by decide +kernel
theorem d_M_toldWitnesses_5 : decode b_M_toldWitnesses 5 = .ok (.aload_n 0, 1) := by decide +kernel
theorem d_M_toldWitnesses_6 : decode b_M_toldWitnesses 6 = .ok (.getfield 117, 3) := by decide +kernel
theorem d_M_toldWitnesses_9 : decode b_M_toldWitnesses 9 = .ok (.ireturn, 1) := by decide +kernel
theorem d_M_firstBroken_0 : decode b_M_firstBroken 0 = .ok (.aload_n 0, 1) := by decide +kernel
theorem d_M_firstBroken_1 : decode b_M_firstBroken 1 = .ok (.aload_n 0, 1) := by decide +kernel
theorem d_M_firstBroken_2 : decode b_M_firstBroken 2 = .ok (.getfield 7, 3) := by decide +kernel
theorem d_M_firstBroken_5 : decode b_M_firstBroken 5 = .ok (.iconst 0, 1) := by decide +kernel
theorem d_M_firstBroken_6 : decode b_M_firstBroken 6 = .ok (.iaload, 1) := by decide +kernel
theorem d_M_firstBroken_7 : decode b_M_firstBroken 7 = .ok (.aload_n 0, 1) := by decide +kernel
theorem d_M_firstBroken_8 : decode b_M_firstBroken 8 = .ok (.getfield 7, 3) := by decide +kernel
theorem d_M_firstBroken_11 : decode b_M_firstBroken 11 = .ok (.iconst 1, 1) := by decide +kernel
theorem d_M_firstBroken_12 : decode b_M_firstBroken 12 = .ok (.iaload, 1) := by decide +kernel
theorem d_M_firstBroken_13 : decode b_M_firstBroken 13 = .ok (.invokevirtual 76, 3) := by decide +kernel
theorem d_M_firstBroken_16 : decode b_M_firstBroken 16 = .ok (.iconst 0, 1) := by decide +kernel
theorem d_M_firstBroken_17 : decode b_M_firstBroken 17 = .ok (.istore_n 2, 1) := by decide +kernel
theorem d_M_firstBroken_18 : decode b_M_firstBroken 18 = .ok (.iload_n 2, 1) := by decide +kernel
theorem d_M_firstBroken_19 : decode b_M_firstBroken 19 = .ok (.aload_n 0, 1) := by decide +kernel
theorem d_M_firstBroken_20 : decode b_M_firstBroken 20 = .ok (.getfield 7, 3) := by decide +kernel
theorem d_M_firstBroken_23 : decode b_M_firstBroken 23 = .ok (.iconst 0, 1) := by decide +kernel
theorem d_M_firstBroken_24 : decode b_M_firstBroken 24 = .ok (.iaload, 1) := by decide +kernel
theorem d_M_firstBroken_25 : decode b_M_firstBroken 25 = .ok (.aload_n 0, 1) := by decide +kernel
theorem d_M_firstBroken_26 : decode b_M_firstBroken 26 = .ok (.getfield 7, 3) := by decide +kernel
theorem d_M_firstBroken_29 : decode b_M_firstBroken 29 = .ok (.iconst 0, 1) := by decide +kernel
theorem d_M_firstBroken_30 : decode b_M_firstBroken 30 = .ok (.iaload, 1) := by decide +kernel
theorem d_M_firstBroken_31 : decode b_M_firstBroken 31 = .ok (.imul, 1) := by decide +kernel
theorem d_M_firstBroken_32 : decode b_M_firstBroken 32 = .ok (.aload_n 0, 1) := by decide +kernel
theorem d_M_firstBroken_33 : decode b_M_firstBroken 33 = .ok (.getfield 7, 3) := by decide +kernel
theorem d_M_firstBroken_36 : decode b_M_firstBroken 36 = .ok (.iconst 0, 1) := by decide +kernel
theorem d_M_firstBroken_37 : decode b_M_firstBroken 37 = .ok (.iaload, 1) := by decide +kernel
theorem d_M_firstBroken_38 : decode b_M_firstBroken 38 = .ok (.imul, 1) := by decide +kernel
theorem d_M_firstBroken_39 : decode b_M_firstBroken 39 = .ok (.if_icmp .ge 26, 3) := by decide +kernel
theorem d_M_firstBroken_42 : decode b_M_firstBroken 42 = .ok (.aload_n 0, 1) := by decide +kernel
theorem d_M_firstBroken_43 : decode b_M_firstBroken 43 = .ok (.aload_n 0, 1) := by decide +kernel
theorem d_M_firstBroken_44 : decode b_M_firstBroken 44 = .ok (.getfield 7, 3) := by decide +kernel
theorem d_M_firstBroken_47 : decode b_M_firstBroken 47 = .ok (.iconst 0, 1) := by decide +kernel
theorem d_M_firstBroken_48 : decode b_M_firstBroken 48 = .ok (.iaload, 1) := by decide +kernel
theorem d_M_firstBroken_49 : decode b_M_firstBroken 49 = .ok (.iload_n 1, 1) := by decide +kernel
theorem d_M_firstBroken_50 : decode b_M_firstBroken 50 = .ok (.iload_n 2, 1) := by decide +kernel
theorem d_M_firstBroken_51 : decode b_M_firstBroken 51 = .ok (.invokevirtual 93, 3) := by decide +kernel
theorem d_M_firstBroken_54 : decode b_M_firstBroken 54 = .ok (.ifCond .eq 5, 3) := by decide +kernel
theorem d_M_firstBroken_57 : decode b_M_firstBroken 57 = .ok (.iload_n 2, 1) := by decide +kernel
theorem d_M_firstBroken_58 : decode b_M_firstBroken 58 = .ok (.ireturn, 1) := by decide +kernel
theorem d_M_firstBroken_59 : decode b_M_firstBroken 59 = .ok (.iinc 2 1, 3) := by decide +kernel
theorem d_M_firstBroken_62 : decode b_M_firstBroken 62 = .ok (.goto (-44), 3) := by decide +kernel
theorem d_M_firstBroken_65 : decode b_M_firstBroken 65 = .ok (.bipush (-5), 2) := by decide +kernel
theorem d_M_firstBroken_67 : decode b_M_firstBroken 67 = .ok (.ireturn, 1) := by decide +kernel
theorem d_M_law_0 : decode b_M_law 0 = .ok (.aload_n 0, 1) := by decide +kernel
theorem d_M_law_1 : decode b_M_law 1 = .ok (.iload_n 1, 1) := by decide +kernel
theorem d_M_law_2 : decode b_M_law 2 = .ok (.invokevirtual 189, 3) := by decide +kernel
theorem d_M_law_5 : decode b_M_law 5 = .ok (.ifCond .ne 5, 3) := by decide +kernel
theorem d_M_law_8 : decode b_M_law 8 = .ok (.iconst (-1), 1) := by decide +kernel
theorem d_M_law_9 : decode b_M_law 9 = .ok (.ireturn, 1) := by decide +kernel
theorem d_M_law_10 : decode b_M_law 10 = .ok (.iload_n 2, 1) := by decide +kernel
theorem d_M_law_11 : decode b_M_law 11 = .ok (.tableswitch 97 0 6 #[41, 51, 57, 64, 71, 85, 91], 41) := by decide +kernel
theorem d_M_law_52 : decode b_M_law 52 = .ok (.aload_n 0, 1) := by decide +kernel
theorem d_M_law_53 : decode b_M_law 53 = .ok (.getfield 7, 3) := by decide +kernel
theorem d_M_law_56 : decode b_M_law 56 = .ok (.iload_n 1, 1) := by decide +kernel
theorem d_M_law_57 : decode b_M_law 57 = .ok (.invokestatic 86, 3) := by decide +kernel
theorem d_M_law_60 : decode b_M_law 60 = .ok (.iaload, 1) := by decide +kernel
theorem d_M_law_61 : decode b_M_law 61 = .ok (.ireturn, 1) := by decide +kernel
theorem d_M_law_62 : decode b_M_law 62 = .ok (.aload_n 0, 1) := by decide +kernel
theorem d_M_law_63 : decode b_M_law 63 = .ok (.iload_n 1, 1) := by decide +kernel
theorem d_M_law_64 : decode b_M_law 64 = .ok (.invokevirtual 198, 3) := by decide +kernel
theorem d_M_law_67 : decode b_M_law 67 = .ok (.ireturn, 1) := by decide +kernel
theorem d_M_law_68 : decode b_M_law 68 = .ok (.aload_n 0, 1) := by decide +kernel
theorem d_M_law_69 : decode b_M_law 69 = .ok (.iload_n 1, 1) := by decide +kernel
theorem d_M_law_70 : decode b_M_law 70 = .ok (.iconst 0, 1) := by decide +kernel
theorem d_M_law_71 : decode b_M_law 71 = .ok (.invokevirtual 211, 3) := by decide +kernel
theorem d_M_law_74 : decode b_M_law 74 = .ok (.ireturn, 1) := by decide +kernel
theorem d_M_law_75 : decode b_M_law 75 = .ok (.aload_n 0, 1) := by decide +kernel
theorem d_M_law_76 : decode b_M_law 76 = .ok (.iload_n 1, 1) := by decide +kernel
theorem d_M_law_77 : decode b_M_law 77 = .ok (.iconst 1, 1) := by decide +kernel
theorem d_M_law_78 : decode b_M_law 78 = .ok (.invokevirtual 211, 3) := by decide +kernel
theorem d_M_law_81 : decode b_M_law 81 = .ok (.ireturn, 1) := by decide +kernel
theorem d_M_law_82 : decode b_M_law 82 = .ok (.aload_n 0, 1) := by decide +kernel
theorem d_M_law_83 : decode b_M_law 83 = .ok (.iload_n 1, 1) := by decide +kernel
theorem d_M_law_84 : decode b_M_law 84 = .ok (.invokevirtual 215, 3) := by decide +kernel
theorem d_M_law_87 : decode b_M_law 87 = .ok (.ifCond .eq 7, 3) := by decide +kernel
theorem d_M_law_90 : decode b_M_law 90 = .ok (.iconst 1, 1) := by decide +kernel
theorem d_M_law_91 : decode b_M_law 91 = .ok (.goto 4, 3) := by decide +kernel
theorem d_M_law_94 : decode b_M_law 94 = .ok (.iconst 0, 1) := by decide +kernel
theorem d_M_law_95 : decode b_M_law 95 = .ok (.ireturn, 1) := by decide +kernel
theorem d_M_law_96 : decode b_M_law 96 = .ok (.aload_n 0, 1) := by decide +kernel
theorem d_M_law_97 : decode b_M_law 97 = .ok (.iload_n 1, 1) := by decide +kernel
theorem d_M_law_98 : decode b_M_law 98 = .ok (.invokevirtual 218, 3) := by decide +kernel
theorem d_M_law_101 : decode b_M_law 101 = .ok (.ireturn, 1) := by decide +kernel
theorem d_M_law_102 : decode b_M_law 102 = .ok (.aload_n 0, 1) := by decide +kernel
theorem d_M_law_103 : decode b_M_law 103 = .ok (.iload_n 1, 1) := by decide +kernel
theorem d_M_law_104 : decode b_M_law 104 = .ok (.invokevirtual 221, 3) := by decide +kernel
theorem d_M_law_107 : decode b_M_law 107 = .ok (.ireturn, 1) := by decide +kernel
theorem d_M_law_108 : decode b_M_law 108 = .ok (.bipush (-2), 2) := by decide +kernel
theorem d_M_law_110 : decode b_M_law 110 = .ok (.ireturn, 1) := by decide +kernel
theorem d_M_side_0 : decode b_M_side 0 = .ok (.aload_n 0, 1) := by decide +kernel
theorem d_M_side_1 : decode b_M_side 1 = .ok (.iload_n 1, 1) := by decide +kernel
theorem d_M_side_2 : decode b_M_side 2 = .ok (.invokevirtual 189, 3) := by decide +kernel
theorem d_M_side_5 : decode b_M_side 5 = .ok (.ifCond .ne 5, 3) := by decide +kernel
theorem d_M_side_8 : decode b_M_side 8 = .ok (.iconst (-1), 1) := by decide +kernel
theorem d_M_side_9 : decode b_M_side 9 = .ok (.ireturn, 1) := by decide +kernel
theorem d_M_side_10 : decode b_M_side 10 = .ok (.aload_n 0, 1) := by decide +kernel
theorem d_M_side_11 : decode b_M_side 11 = .ok (.getfield 7, 3) := by decide +kernel
theorem d_M_side_14 : decode b_M_side 14 = .ok (.iconst 0, 1) := by decide +kernel
theorem d_M_side_15 : decode b_M_side 15 = .ok (.iaload, 1) := by decide +kernel
theorem d_M_side_16 : decode b_M_side 16 = .ok (.istore 4, 2) := by decide +kernel
theorem d_M_side_18 : decode b_M_side 18 = .ok (.iload_n 3, 1) := by decide +kernel
theorem d_M_side_19 : decode b_M_side 19 = .ok (.i2l, 1) := by decide +kernel
theorem d_M_side_20 : decode b_M_side 20 = .ok (.lconst 0, 1) := by decide +kernel
theorem d_M_side_21 : decode b_M_side 21 = .ok (.iload 4, 2) := by decide +kernel
theorem d_M_side_23 : decode b_M_side 23 = .ok (.iload 4, 2) := by decide +kernel
theorem d_M_side_25 : decode b_M_side 25 = .ok (.imul, 1) := by decide +kernel
theorem d_M_side_26 : decode b_M_side 26 = .ok (.iload 4, 2) := by decide +kernel
theorem d_M_side_28 : decode b_M_side 28 = .ok (.imul, 1) := by decide +kernel
theorem d_M_side_29 : decode b_M_side 29 = .ok (.iconst 1, 1) := by decide +kernel
theorem d_M_side_30 : decode b_M_side 30 = .ok (.isub, 1) := by decide +kernel
theorem d_M_side_31 : decode b_M_side 31 = .ok (.i2l, 1) := by decide +kernel
theorem d_M_side_32 : decode b_M_side 32 = .ok (.invokestatic 69, 3) := by decide +kernel
theorem d_M_side_35 : decode b_M_side 35 = .ok (.ifCond .ne 6, 3) := by decide +kernel
theorem d_M_side_38 : decode b_M_side 38 = .ok (.bipush (-2), 2) := by decide +kernel
theorem d_M_side_40 : decode b_M_side 40 = .ok (.ireturn, 1) := by decide +kernel
theorem d_M_side_41 : decode b_M_side 41 = .ok (.aload_n 0, 1) := by decide +kernel
theorem d_M_side_42 : decode b_M_side 42 = .ok (.iload 4, 2) := by decide +kernel
theorem d_M_side_44 : decode b_M_side 44 = .ok (.aload_n 0, 1) := by decide +kernel
theorem d_M_side_45 : decode b_M_side 45 = .ok (.getfield 7, 3) := by decide +kernel
theorem d_M_side_48 : decode b_M_side 48 = .ok (.iconst 1, 1) := by decide +kernel
theorem d_M_side_49 : decode b_M_side 49 = .ok (.iaload, 1) := by decide +kernel
theorem d_M_side_50 : decode b_M_side 50 = .ok (.invokevirtual 76, 3) := by decide +kernel
theorem d_M_side_53 : decode b_M_side 53 = .ok (.aload_n 0, 1) := by decide +kernel
theorem d_M_side_54 : decode b_M_side 54 = .ok (.iload 4, 2) := by decide +kernel
theorem d_M_side_56 : decode b_M_side 56 = .ok (.iload_n 1, 1) := by decide +kernel
theorem d_M_side_57 : decode b_M_side 57 = .ok (.invokestatic 86, 3) := by decide +kernel
theorem d_M_side_60 : decode b_M_side 60 = .ok (.iload_n 2, 1) := by decide +kernel
theorem d_M_side_61 : decode b_M_side 61 = .ok (.ifCond .eq 8, 3) := by decide +kernel
theorem d_M_side_64 : decode b_M_side 64 = .ok (.bipush 17, 2) := by decide +kernel
theorem d_M_side_66 : decode b_M_side 66 = .ok (.goto 4, 3) := by decide +kernel
theorem d_M_side_69 : decode b_M_side 69 = .ok (.iconst 1, 1) := by decide +kernel
theorem d_M_side_70 : decode b_M_side 70 = .ok (.iadd, 1) := by decide +kernel
theorem d_M_side_71 : decode b_M_side 71 = .ok (.iload_n 3, 1) := by decide +kernel
theorem d_M_side_72 : decode b_M_side 72 = .ok (.invokevirtual 89, 3) := by decide +kernel
theorem d_M_side_75 : decode b_M_side 75 = .ok (.ireturn, 1) := by decide +kernel
theorem d_M_witness_0 : decode b_M_witness 0 = .ok (.aload_n 0, 1) := by decide +kernel
theorem d_M_witness_1 : decode b_M_witness 1 = .ok (.iload_n 1, 1) := by decide +kernel
theorem d_M_witness_2 : decode b_M_witness 2 = .ok (.invokevirtual 189, 3) := by decide +kernel
theorem d_M_witness_5 : decode b_M_witness 5 = .ok (.ifCond .ne 5, 3) := by decide +kernel
theorem d_M_witness_8 : decode b_M_witness 8 = .ok (.iconst (-1), 1) := by decide +kernel
theorem d_M_witness_9 : decode b_M_witness 9 = .ok (.ireturn, 1) := by decide +kernel
theorem d_M_witness_10 : decode b_M_witness 10 = .ok (.iload_n 2, 1) := by decide +kernel
theorem d_M_witness_11 : decode b_M_witness 11 = .ok (.ifCond .lt 15, 3) := by decide +kernel
theorem d_M_witness_14 : decode b_M_witness 14 = .ok (.iload_n 3, 1) := by decide +kernel
theorem d_M_witness_15 : decode b_M_witness 15 = .ok (.i2l, 1) := by decide +kernel
theorem d_M_witness_16 : decode b_M_witness 16 = .ok (.lconst 0, 1) := by decide +kernel
theorem d_M_witness_17 : decode b_M_witness 17 = .ok (.ldc2_w 224, 3) := by decide +kernel
theorem d_M_witness_20 : decode b_M_witness 20 = .ok (.invokestatic 69, 3) := by decide +kernel
theorem d_M_witness_23 : decode b_M_witness 23 = .ok (.ifCond .ne 6, 3) := by decide +kernel
theorem d_M_witness_26 : decode b_M_witness 26 = .ok (.bipush (-2), 2) := by decide +kernel
theorem d_M_witness_28 : decode b_M_witness 28 = .ok (.ireturn, 1) := by decide +kernel
theorem d_M_witness_29 : decode b_M_witness 29 = .ok (.aload_n 0, 1) := by decide +kernel
theorem d_M_witness_30 : decode b_M_witness 30 = .ok (.iload_n 1, 1) := by decide +kernel
theorem d_M_witness_31 : decode b_M_witness 31 = .ok (.invokevirtual 124, 3) := by decide +kernel
theorem d_M_witness_34 : decode b_M_witness 34 = .ok (.iload_n 2, 1) := by decide +kernel
theorem d_M_witness_35 : decode b_M_witness 35 = .ok (.aload_n 0, 1) := by decide +kernel
theorem d_M_witness_36 : decode b_M_witness 36 = .ok (.getfield 117, 3) := by decide +kernel
theorem d_M_witness_39 : decode b_M_witness 39 = .ok (.if_icmp .lt 6, 3) := by decide +kernel
theorem d_M_witness_42 : decode b_M_witness 42 = .ok (.bipush (-5), 2) := by decide +kernel
theorem d_M_witness_44 : decode b_M_witness 44 = .ok (.ireturn, 1) := by decide +kernel
theorem d_M_witness_45 : decode b_M_witness 45 = .ok (.aload_n 0, 1) := by decide +kernel
theorem d_M_witness_46 : decode b_M_witness 46 = .ok (.getfield 40, 3) := by decide +kernel
theorem d_M_witness_49 : decode b_M_witness 49 = .ok (.iload_n 2, 1) := by decide +kernel
theorem d_M_witness_50 : decode b_M_witness 50 = .ok (.iaload, 1) := by decide +kernel
theorem d_M_witness_51 : decode b_M_witness 51 = .ok (.istore 4, 2) := by decide +kernel
theorem d_M_witness_53 : decode b_M_witness 53 = .ok (.iload_n 3, 1) := by decide +kernel
theorem d_M_witness_54 : decode b_M_witness 54 = .ok (.ifCond .ne 15, 3) := by decide +kernel
theorem d_M_witness_57 : decode b_M_witness 57 = .ok (.aload_n 0, 1) := by decide +kernel
theorem d_M_witness_58 : decode b_M_witness 58 = .ok (.getfield 25, 3) := by decide +kernel
theorem d_M_witness_61 : decode b_M_witness 61 = .ok (.iload 4, 2) := by decide +kernel
theorem d_M_witness_63 : decode b_M_witness 63 = .ok (.invokestatic 107, 3) := by decide +kernel
theorem d_M_witness_66 : decode b_M_witness 66 = .ok (.goto 31, 3) := by decide +kernel
theorem d_M_witness_69 : decode b_M_witness 69 = .ok (.iload_n 3, 1) := by decide +kernel
theorem d_M_witness_70 : decode b_M_witness 70 = .ok (.iconst 1, 1) := by decide +kernel
theorem d_M_witness_71 : decode b_M_witness 71 = .ok (.if_icmp .ne 13, 3) := by decide +kernel
theorem d_M_witness_74 : decode b_M_witness 74 = .ok (.aload_n 0, 1) := by decide +kernel
theorem d_M_witness_75 : decode b_M_witness 75 = .ok (.getfield 22, 3) := by decide +kernel
theorem d_M_witness_78 : decode b_M_witness 78 = .ok (.iload 4, 2) := by decide +kernel
theorem d_M_witness_80 : decode b_M_witness 80 = .ok (.iaload, 1) := by decide +kernel
theorem d_M_witness_81 : decode b_M_witness 81 = .ok (.goto 16, 3) := by decide +kernel
theorem d_M_witness_84 : decode b_M_witness 84 = .ok (.aload_n 0, 1) := by decide +kernel
theorem d_M_witness_85 : decode b_M_witness 85 = .ok (.getfield 34, 3) := by decide +kernel
theorem d_M_witness_88 : decode b_M_witness 88 = .ok (.sipush 3341, 3) := by decide +kernel
theorem d_M_witness_91 : decode b_M_witness 91 = .ok (.iload_n 1, 1) := by decide +kernel
theorem d_M_witness_92 : decode b_M_witness 92 = .ok (.imul, 1) := by decide +kernel
theorem d_M_witness_93 : decode b_M_witness 93 = .ok (.iload 4, 2) := by decide +kernel
theorem d_M_witness_95 : decode b_M_witness 95 = .ok (.iadd, 1) := by decide +kernel
theorem d_M_witness_96 : decode b_M_witness 96 = .ok (.iaload, 1) := by decide +kernel
theorem d_M_witness_97 : decode b_M_witness 97 = .ok (.ireturn, 1) := by decide +kernel
theorem d_M_model_0 : decode b_M_model 0 = .ok (.iload_n 1, 1) := by decide +kernel
theorem d_M_model_1 : decode b_M_model 1 = .ok (.i2l, 1) := by decide +kernel
theorem d_M_model_2 : decode b_M_model 2 = .ok (.lconst 1, 1) := by decide +kernel
theorem d_M_model_3 : decode b_M_model 3 = .ok (.ldc2_w 67, 3) := by decide +kernel
theorem d_M_model_6 : decode b_M_model 6 = .ok (.invokestatic 69, 3) := by decide +kernel
theorem d_M_model_9 : decode b_M_model 9 = .ok (.ifCond .eq 7, 3) := by decide +kernel
theorem d_M_model_12 : decode b_M_model 12 = .ok (.iload_n 2, 1) := by decide +kernel
theorem d_M_model_13 : decode b_M_model 13 = .ok (.ifCond .ge 6, 3) := by decide +kernel
theorem d_M_model_16 : decode b_M_model 16 = .ok (.bipush (-2), 2) := by decide +kernel
theorem d_M_model_18 : decode b_M_model 18 = .ok (.ireturn, 1) := by decide +kernel
theorem d_M_model_19 : decode b_M_model 19 = .ok (.aload_n 0, 1) := by decide +kernel
theorem d_M_model_20 : decode b_M_model 20 = .ok (.invokevirtual 114, 3) := by decide +kernel
theorem d_M_model_23 : decode b_M_model 23 = .ok (.iload_n 2, 1) := by decide +kernel
theorem d_M_model_24 : decode b_M_model 24 = .ok (.istore_n 3, 1) := by decide +kernel
theorem d_M_model_25 : decode b_M_model 25 = .ok (.aload_n 0, 1) := by decide +kernel
theorem d_M_model_26 : decode b_M_model 26 = .ok (.getfield 25, 3) := by decide +kernel
theorem d_M_model_29 : decode b_M_model 29 = .ok (.iload_n 1, 1) := by decide +kernel
theorem d_M_model_30 : decode b_M_model 30 = .ok (.iaload, 1) := by decide +kernel
theorem d_M_model_31 : decode b_M_model 31 = .ok (.istore 4, 2) := by decide +kernel
theorem d_M_model_33 : decode b_M_model 33 = .ok (.iload 4, 2) := by decide +kernel
theorem d_M_model_35 : decode b_M_model 35 = .ok (.aload_n 0, 1) := by decide +kernel
theorem d_M_model_36 : decode b_M_model 36 = .ok (.getfield 25, 3) := by decide +kernel
theorem d_M_model_39 : decode b_M_model 39 = .ok (.iload_n 1, 1) := by decide +kernel
theorem d_M_model_40 : decode b_M_model 40 = .ok (.iconst 1, 1) := by decide +kernel
theorem d_M_model_41 : decode b_M_model 41 = .ok (.iadd, 1) := by decide +kernel
theorem d_M_model_42 : decode b_M_model 42 = .ok (.iaload, 1) := by decide +kernel
theorem d_M_model_43 : decode b_M_model 43 = .ok (.if_icmp .ge 35, 3) := by decide +kernel
theorem d_M_model_46 : decode b_M_model 46 = .ok (.aload_n 0, 1) := by decide +kernel
theorem d_M_model_47 : decode b_M_model 47 = .ok (.iload 4, 2) := by decide +kernel
theorem d_M_model_49 : decode b_M_model 49 = .ok (.bipush (-5), 2) := by decide +kernel
theorem d_M_model_51 : decode b_M_model 51 = .ok (.invokevirtual 120, 3) := by decide +kernel
theorem d_M_model_54 : decode b_M_model 54 = .ok (.ifCond .eq 18, 3) := by decide +kernel
theorem d_M_model_57 : decode b_M_model 57 = .ok (.iload_n 3, 1) := by decide +kernel
theorem d_M_model_58 : decode b_M_model 58 = .ok (.ifCond .ne 11, 3) := by decide +kernel
theorem d_M_model_61 : decode b_M_model 61 = .ok (.aload_n 0, 1) := by decide +kernel
theorem d_M_model_62 : decode b_M_model 62 = .ok (.getfield 22, 3) := by decide +kernel
theorem d_M_model_65 : decode b_M_model 65 = .ok (.iload 4, 2) := by decide +kernel
theorem d_M_model_67 : decode b_M_model 67 = .ok (.iaload, 1) := by decide +kernel
theorem d_M_model_68 : decode b_M_model 68 = .ok (.ireturn, 1) := by decide +kernel
theorem d_M_model_69 : decode b_M_model 69 = .ok (.iinc 3 (-1), 3) := by decide +kernel
theorem d_M_model_72 : decode b_M_model 72 = .ok (.iinc 4 1, 3) := by decide +kernel
theorem d_M_model_75 : decode b_M_model 75 = .ok (.goto (-42), 3) := by decide +kernel
theorem d_M_model_78 : decode b_M_model 78 = .ok (.bipush (-5), 2) := by decide +kernel
theorem d_M_model_80 : decode b_M_model 80 = .ok (.ireturn, 1) := by decide +kernel
theorem d_M_models_0 : decode b_M_models 0 = .ok (.iload_n 1, 1) := by decide +kernel
theorem d_M_models_1 : decode b_M_models 1 = .ok (.i2l, 1) := by decide +kernel
theorem d_M_models_2 : decode b_M_models 2 = .ok (.lconst 1, 1) := by decide +kernel
theorem d_M_models_3 : decode b_M_models 3 = .ok (.ldc2_w 67, 3) := by decide +kernel
theorem d_M_models_6 : decode b_M_models 6 = .ok (.invokestatic 69, 3) := by decide +kernel
theorem d_M_models_9 : decode b_M_models 9 = .ok (.ifCond .ne 6, 3) := by decide +kernel
theorem d_M_models_12 : decode b_M_models 12 = .ok (.bipush (-2), 2) := by decide +kernel
theorem d_M_models_14 : decode b_M_models 14 = .ok (.ireturn, 1) := by decide +kernel
theorem d_M_models_15 : decode b_M_models 15 = .ok (.aload_n 0, 1) := by decide +kernel
theorem d_M_models_16 : decode b_M_models 16 = .ok (.invokevirtual 114, 3) := by decide +kernel
theorem d_M_models_19 : decode b_M_models 19 = .ok (.iconst 0, 1) := by decide +kernel
theorem d_M_models_20 : decode b_M_models 20 = .ok (.istore_n 3, 1) := by decide +kernel
theorem d_M_models_21 : decode b_M_models 21 = .ok (.aload_n 0, 1) := by decide +kernel
theorem d_M_models_22 : decode b_M_models 22 = .ok (.getfield 25, 3) := by decide +kernel
theorem d_M_models_25 : decode b_M_models 25 = .ok (.iload_n 1, 1) := by decide +kernel
theorem d_M_models_26 : decode b_M_models 26 = .ok (.iaload, 1) := by decide +kernel
theorem d_M_models_27 : decode b_M_models 27 = .ok (.istore 4, 2) := by decide +kernel
theorem d_M_models_29 : decode b_M_models 29 = .ok (.iload 4, 2) := by decide +kernel
theorem d_M_models_31 : decode b_M_models 31 = .ok (.aload_n 0, 1) := by decide +kernel
theorem d_M_models_32 : decode b_M_models 32 = .ok (.getfield 25, 3) := by decide +kernel
theorem d_M_models_35 : decode b_M_models 35 = .ok (.iload_n 1, 1) := by decide +kernel
theorem d_M_models_36 : decode b_M_models 36 = .ok (.iconst 1, 1) := by decide +kernel
theorem d_M_models_37 : decode b_M_models 37 = .ok (.iadd, 1) := by decide +kernel
theorem d_M_models_38 : decode b_M_models 38 = .ok (.iaload, 1) := by decide +kernel
theorem d_M_models_39 : decode b_M_models 39 = .ok (.if_icmp .ge 47, 3) := by decide +kernel
theorem d_M_models_42 : decode b_M_models 42 = .ok (.iload_n 3, 1) := by decide +kernel
theorem d_M_models_43 : decode b_M_models 43 = .ok (.aload_n 0, 1) := by decide +kernel
theorem d_M_models_44 : decode b_M_models 44 = .ok (.iload 4, 2) := by decide +kernel
theorem d_M_models_46 : decode b_M_models 46 = .ok (.bipush (-5), 2) := by decide +kernel
theorem d_M_models_48 : decode b_M_models 48 = .ok (.invokevirtual 120, 3) := by decide +kernel
theorem d_M_models_51 : decode b_M_models 51 = .ok (.ifCond .ne 7, 3) := by decide +kernel
theorem d_M_models_54 : decode b_M_models 54 = .ok (.iconst 0, 1) := by decide +kernel
theorem d_M_models_55 : decode b_M_models 55 = .ok (.goto 23, 3) := by decide +kernel
theorem d_M_models_58 : decode b_M_models 58 = .ok (.iload_n 2, 1) := by decide +kernel
theorem d_M_models_59 : decode b_M_models 59 = .ok (.ifCond .eq 18, 3) := by decide +kernel
theorem d_M_models_62 : decode b_M_models 62 = .ok (.aload_n 0, 1) := by decide +kernel
theorem d_M_models_63 : decode b_M_models 63 = .ok (.iload_n 1, 1) := by decide +kernel
theorem d_M_models_64 : decode b_M_models 64 = .ok (.aload_n 0, 1) := by decide +kernel
theorem d_M_models_65 : decode b_M_models 65 = .ok (.getfield 22, 3) := by decide +kernel
theorem d_M_models_68 : decode b_M_models 68 = .ok (.iload 4, 2) := by decide +kernel
theorem d_M_models_70 : decode b_M_models 70 = .ok (.iaload, 1) := by decide +kernel
theorem d_M_models_71 : decode b_M_models 71 = .ok (.invokevirtual 201, 3) := by decide +kernel
theorem d_M_models_74 : decode b_M_models 74 = .ok (.goto 4, 3) := by decide +kernel
theorem d_M_models_77 : decode b_M_models 77 = .ok (.iconst 1, 1) := by decide +kernel
theorem d_M_models_78 : decode b_M_models 78 = .ok (.iadd, 1) := by decide +kernel
theorem d_M_models_79 : decode b_M_models 79 = .ok (.istore_n 3, 1) := by decide +kernel
theorem d_M_models_80 : decode b_M_models 80 = .ok (.iinc 4 1, 3) := by decide +kernel
theorem d_M_models_83 : decode b_M_models 83 = .ok (.goto (-54), 3) := by decide +kernel
theorem d_M_models_86 : decode b_M_models 86 = .ok (.iload_n 3, 1) := by decide +kernel
theorem d_M_models_87 : decode b_M_models 87 = .ok (.ireturn, 1) := by decide +kernel
theorem d_M_paired_0 : decode b_M_paired 0 = .ok (.iload_n 1, 1) := by decide +kernel
theorem d_M_paired_1 : decode b_M_paired 1 = .ok (.iload_n 2, 1) := by decide +kernel
theorem d_M_paired_2 : decode b_M_paired 2 = .ok (.invokestatic 134, 3) := by decide +kernel
theorem d_M_paired_5 : decode b_M_paired 5 = .ok (.ifCond .ne 6, 3) := by decide +kernel
theorem d_M_paired_8 : decode b_M_paired 8 = .ok (.bipush (-2), 2) := by decide +kernel
theorem d_M_paired_10 : decode b_M_paired 10 = .ok (.ireturn, 1) := by decide +kernel
theorem d_M_paired_11 : decode b_M_paired 11 = .ok (.aload_n 0, 1) := by decide +kernel
theorem d_M_paired_12 : decode b_M_paired 12 = .ok (.iload_n 3, 1) := by decide +kernel
theorem d_M_paired_13 : decode b_M_paired 13 = .ok (.invokevirtual 189, 3) := by decide +kernel
theorem d_M_paired_16 : decode b_M_paired 16 = .ok (.ifCond .ne 5, 3) := by decide +kernel
theorem d_M_paired_19 : decode b_M_paired 19 = .ok (.iconst (-1), 1) := by decide +kernel
theorem d_M_paired_20 : decode b_M_paired 20 = .ok (.ireturn, 1) := by decide +kernel
theorem d_M_paired_21 : decode b_M_paired 21 = .ok (.aload_n 0, 1) := by decide +kernel
theorem d_M_paired_22 : decode b_M_paired 22 = .ok (.getfield 7, 3) := by decide +kernel
theorem d_M_paired_25 : decode b_M_paired 25 = .ok (.iconst 0, 1) := by decide +kernel
theorem d_M_paired_26 : decode b_M_paired 26 = .ok (.iaload, 1) := by decide +kernel
theorem d_M_paired_27 : decode b_M_paired 27 = .ok (.aload_n 0, 1) := by decide +kernel
theorem d_M_paired_28 : decode b_M_paired 28 = .ok (.getfield 7, 3) := by decide +kernel
theorem d_M_paired_31 : decode b_M_paired 31 = .ok (.iconst 0, 1) := by decide +kernel
theorem d_M_paired_32 : decode b_M_paired 32 = .ok (.iaload, 1) := by decide +kernel
theorem d_M_paired_33 : decode b_M_paired 33 = .ok (.imul, 1) := by decide +kernel
theorem d_M_paired_34 : decode b_M_paired 34 = .ok (.aload_n 0, 1) := by decide +kernel
theorem d_M_paired_35 : decode b_M_paired 35 = .ok (.getfield 7, 3) := by decide +kernel
theorem d_M_paired_38 : decode b_M_paired 38 = .ok (.iconst 0, 1) := by decide +kernel
theorem d_M_paired_39 : decode b_M_paired 39 = .ok (.iaload, 1) := by decide +kernel
theorem d_M_paired_40 : decode b_M_paired 40 = .ok (.imul, 1) := by decide +kernel
theorem d_M_paired_41 : decode b_M_paired 41 = .ok (.istore 4, 2) := by decide +kernel
theorem d_M_paired_43 : decode b_M_paired 43 = .ok (.iload_n 1, 1) := by decide +kernel
theorem d_M_paired_44 : decode b_M_paired 44 = .ok (.iload_n 1, 1) := by decide +kernel
theorem d_M_paired_45 : decode b_M_paired 45 = .ok (.imul, 1) := by decide +kernel
theorem d_M_paired_46 : decode b_M_paired 46 = .ok (.iload_n 1, 1) := by decide +kernel
theorem d_M_paired_47 : decode b_M_paired 47 = .ok (.imul, 1) := by decide +kernel
theorem d_M_paired_48 : decode b_M_paired 48 = .ok (.istore 5, 2) := by decide +kernel
theorem d_M_paired_50 : decode b_M_paired 50 = .ok (.iload 4, 2) := by decide +kernel
theorem d_M_paired_52 : decode b_M_paired 52 = .ok (.iload 5, 2) := by decide +kernel
theorem d_M_paired_54 : decode b_M_paired 54 = .ok (.imul, 1) := by decide +kernel
theorem d_M_paired_55 : decode b_M_paired 55 = .ok (.iload 4, 2) := by decide +kernel
theorem d_M_paired_57 : decode b_M_paired 57 = .ok (.aload_n 0, 1) := by decide +kernel
theorem d_M_paired_58 : decode b_M_paired 58 = .ok (.iload_n 3, 1) := by decide +kernel
theorem d_M_paired_59 : decode b_M_paired 59 = .ok (.invokevirtual 198, 3) := by decide +kernel
theorem d_M_paired_62 : decode b_M_paired 62 = .ok (.isub, 1) := by decide +kernel
theorem d_M_paired_63 : decode b_M_paired 63 = .ok (.iload 5, 2) := by decide +kernel
theorem d_M_paired_65 : decode b_M_paired 65 = .ok (.aload_n 0, 1) := by decide +kernel
theorem d_M_paired_66 : decode b_M_paired 66 = .ok (.iload_n 1, 1) := by decide +kernel
theorem d_M_paired_67 : decode b_M_paired 67 = .ok (.iload_n 2, 1) := by decide +kernel
theorem d_M_paired_68 : decode b_M_paired 68 = .ok (.iload_n 3, 1) := by decide +kernel
theorem d_M_paired_69 : decode b_M_paired 69 = .ok (.invokevirtual 97, 3) := by decide +kernel
theorem d_M_paired_72 : decode b_M_paired 72 = .ok (.isub, 1) := by decide +kernel
theorem d_M_paired_73 : decode b_M_paired 73 = .ok (.imul, 1) := by decide +kernel
theorem d_M_paired_74 : decode b_M_paired 74 = .ok (.isub, 1) := by decide +kernel
theorem d_M_paired_75 : decode b_M_paired 75 = .ok (.ireturn, 1) := by decide +kernel
theorem d_M_alike_0 : decode b_M_alike 0 = .ok (.iload_n 1, 1) := by decide +kernel
theorem d_M_alike_1 : decode b_M_alike 1 = .ok (.iload_n 2, 1) := by decide +kernel
theorem d_M_alike_2 : decode b_M_alike 2 = .ok (.invokestatic 134, 3) := by decide +kernel
theorem d_M_alike_5 : decode b_M_alike 5 = .ok (.ifCond .eq 11, 3) := by decide +kernel
theorem d_M_alike_8 : decode b_M_alike 8 = .ok (.iload_n 1, 1) := by decide +kernel
theorem d_M_alike_9 : decode b_M_alike 9 = .ok (.iload_n 3, 1) := by decide +kernel
theorem d_M_alike_10 : decode b_M_alike 10 = .ok (.invokestatic 134, 3) := by decide +kernel
theorem d_M_alike_13 : decode b_M_alike 13 = .ok (.ifCond .ne 6, 3) := by decide +kernel
theorem d_M_alike_16 : decode b_M_alike 16 = .ok (.bipush (-2), 2) := by decide +kernel
theorem d_M_alike_18 : decode b_M_alike 18 = .ok (.ireturn, 1) := by decide +kernel
theorem d_M_alike_19 : decode b_M_alike 19 = .ok (.aload_n 0, 1) := by decide +kernel
theorem d_M_alike_20 : decode b_M_alike 20 = .ok (.iload_n 1, 1) := by decide +kernel
theorem d_M_alike_21 : decode b_M_alike 21 = .ok (.iload_n 2, 1) := by decide +kernel
theorem d_M_alike_22 : decode b_M_alike 22 = .ok (.invokevirtual 56, 3) := by decide +kernel
theorem d_M_alike_25 : decode b_M_alike 25 = .ok (.aload_n 0, 1) := by decide +kernel
theorem d_M_alike_26 : decode b_M_alike 26 = .ok (.iload_n 1, 1) := by decide +kernel
theorem d_M_alike_27 : decode b_M_alike 27 = .ok (.iload_n 3, 1) := by decide +kernel
theorem d_M_alike_28 : decode b_M_alike 28 = .ok (.invokevirtual 56, 3) := by decide +kernel
theorem d_M_alike_31 : decode b_M_alike 31 = .ok (.if_icmp .ne 7, 3) := by decide +kernel
theorem d_M_alike_34 : decode b_M_alike 34 = .ok (.iconst 1, 1) := by decide +kernel
theorem d_M_alike_35 : decode b_M_alike 35 = .ok (.goto 4, 3) := by decide +kernel
theorem d_M_alike_38 : decode b_M_alike 38 = .ok (.iconst 0, 1) := by decide +kernel
theorem d_M_alike_39 : decode b_M_alike 39 = .ok (.ireturn, 1) := by decide +kernel
theorem d_M_lawsThatFollow_0 : decode b_M_lawsThatFollow 0 = .ok (.iconst 0, 1) := by decide +kernel
theorem d_M_lawsThatFollow_1 : decode b_M_lawsThatFollow 1 = .ok (.istore_n 1, 1) := by decide +kernel
theorem d_M_lawsThatFollow_2 : decode b_M_lawsThatFollow 2 = .ok (.iconst 0, 1) := by decide +kernel
theorem d_M_lawsThatFollow_3 : decode b_M_lawsThatFollow 3 = .ok (.istore_n 2, 1) := by decide +kernel
theorem d_M_lawsThatFollow_4 : decode b_M_lawsThatFollow 4 = .ok (.iload_n 2, 1) := by decide +kernel
theorem d_M_lawsThatFollow_5 : decode b_M_lawsThatFollow 5 = .ok (.aload_n 0, 1) := by decide +kernel
theorem d_M_lawsThatFollow_6 : decode b_M_lawsThatFollow 6 = .ok (.getfield 7, 3) := by decide +kernel
theorem d_M_lawsThatFollow_9 : decode b_M_lawsThatFollow 9 = .ok (.iconst 2, 1) := by decide +kernel
theorem d_M_lawsThatFollow_10 : decode b_M_lawsThatFollow 10 = .ok (.iaload, 1) := by decide +kernel
theorem d_M_lawsThatFollow_11 : decode b_M_lawsThatFollow 11 = .ok (.if_icmp .ge 25, 3) := by decide +kernel
theorem d_M_lawsThatFollow_14 : decode b_M_lawsThatFollow 14 = .ok (.iload_n 1, 1) := by decide +kernel
theorem d_M_lawsThatFollow_15 : decode b_M_lawsThatFollow 15 = .ok (.aload_n 0, 1) := by decide +kernel
theorem d_M_lawsThatFollow_16 : decode b_M_lawsThatFollow 16 = .ok (.iload_n 2, 1) := by decide +kernel
theorem d_M_lawsThatFollow_17 : decode b_M_lawsThatFollow 17 = .ok (.invokevirtual 215, 3) := by decide +kernel
theorem d_M_lawsThatFollow_20 : decode b_M_lawsThatFollow 20 = .ok (.ifCond .eq 7, 3) := by decide +kernel
theorem d_M_lawsThatFollow_23 : decode b_M_lawsThatFollow 23 = .ok (.iconst 1, 1) := by decide +kernel
theorem d_M_lawsThatFollow_24 : decode b_M_lawsThatFollow 24 = .ok (.goto 4, 3) := by decide +kernel
theorem d_M_lawsThatFollow_27 : decode b_M_lawsThatFollow 27 = .ok (.iconst 0, 1) := by decide +kernel
theorem d_M_lawsThatFollow_28 : decode b_M_lawsThatFollow 28 = .ok (.iadd, 1) := by decide +kernel
theorem d_M_lawsThatFollow_29 : decode b_M_lawsThatFollow 29 = .ok (.istore_n 1, 1) := by decide +kernel
theorem d_M_lawsThatFollow_30 : decode b_M_lawsThatFollow 30 = .ok (.iinc 2 1, 3) := by decide +kernel
theorem d_M_lawsThatFollow_33 : decode b_M_lawsThatFollow 33 = .ok (.goto (-29), 3) := by decide +kernel
theorem d_M_lawsThatFollow_36 : decode b_M_lawsThatFollow 36 = .ok (.iload_n 1, 1) := by decide +kernel
theorem d_M_lawsThatFollow_37 : decode b_M_lawsThatFollow 37 = .ok (.ireturn, 1) := by decide +kernel
theorem d_M_count_0 : decode b_M_count 0 = .ok (.iload_n 1, 1) := by decide +kernel
theorem d_M_count_1 : decode b_M_count 1 = .ok (.tableswitch 72 0 5 #[39, 46, 51, 57, 62, 67], 39) := by decide +kernel
theorem d_M_count_40 : decode b_M_count 40 = .ok (.aload_n 0, 1) := by decide +kernel
theorem d_M_count_41 : decode b_M_count 41 = .ok (.getfield 7, 3) := by decide +kernel
theorem d_M_count_44 : decode b_M_count 44 = .ok (.iconst 2, 1) := by decide +kernel
theorem d_M_count_45 : decode b_M_count 45 = .ok (.iaload, 1) := by decide +kernel
theorem d_M_count_46 : decode b_M_count 46 = .ok (.ireturn, 1) := by decide +kernel
theorem d_M_count_47 : decode b_M_count 47 = .ok (.aload_n 0, 1) := by decide +kernel
theorem d_M_count_48 : decode b_M_count 48 = .ok (.invokevirtual 192, 3) := by decide +kernel
theorem d_M_count_51 : decode b_M_count 51 = .ok (.ireturn, 1) := by decide +kernel
theorem d_M_count_52 : decode b_M_count 52 = .ok (.aload_n 0, 1) := by decide +kernel
theorem d_M_count_53 : decode b_M_count 53 = .ok (.iconst 0, 1) := by decide +kernel
theorem d_M_count_54 : decode b_M_count 54 = .ok (.invokevirtual 207, 3) := by decide +kernel
theorem d_M_count_57 : decode b_M_count 57 = .ok (.ireturn, 1) := by decide +kernel
theorem d_M_count_58 : decode b_M_count 58 = .ok (.aload_n 0, 1) := by decide +kernel
theorem d_M_count_59 : decode b_M_count 59 = .ok (.invokevirtual 226, 3) := by decide +kernel
theorem d_M_count_62 : decode b_M_count 62 = .ok (.ireturn, 1) := by decide +kernel
theorem d_M_count_63 : decode b_M_count 63 = .ok (.aload_n 0, 1) := by decide +kernel
theorem d_M_count_64 : decode b_M_count 64 = .ok (.getfield 60, 3) := by decide +kernel
theorem d_M_count_67 : decode b_M_count 67 = .ok (.ireturn, 1) := by decide +kernel
theorem d_M_count_68 : decode b_M_count 68 = .ok (.aload_n 0, 1) := by decide +kernel
theorem d_M_count_69 : decode b_M_count 69 = .ok (.getfield 150, 3) := by decide +kernel
theorem d_M_count_72 : decode b_M_count 72 = .ok (.ireturn, 1) := by decide +kernel
theorem d_M_count_73 : decode b_M_count 73 = .ok (.bipush (-2), 2) := by decide +kernel
theorem d_M_count_75 : decode b_M_count 75 = .ok (.ireturn, 1) := by decide +kernel
