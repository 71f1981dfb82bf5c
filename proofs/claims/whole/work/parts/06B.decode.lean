theorem d_S_init_0 : decode b_S_init 0 = .ok (.aload_n 0, 1) := by decide +kernel
theorem d_S_init_1 : decode b_S_init 1 = .ok (.invokespecial 3, 3) := by decide +kernel
theorem d_S_init_4 : decode b_S_init 4 = .ok (.aload_n 0, 1) := by decide +kernel
theorem d_S_init_5 : decode b_S_init 5 = .ok (.iconst 5, 1) := by decide +kernel
theorem d_S_init_6 : decode b_S_init 6 = .ok (.anewarray 9, 3) := by decide +kernel
theorem d_S_init_9 : decode b_S_init 9 = .ok (.putfield 11, 3) := by decide +kernel
theorem d_S_init_12 : decode b_S_init 12 = .ok (.aload_n 0, 1) := by decide +kernel
theorem d_S_init_13 : decode b_S_init 13 = .ok (.iconst 5, 1) := by decide +kernel
theorem d_S_init_14 : decode b_S_init 14 = .ok (.newarray .boolean, 2) := by decide +kernel
theorem d_S_init_16 : decode b_S_init 16 = .ok (.putfield 17, 3) := by decide +kernel
theorem d_S_init_19 : decode b_S_init 19 = .ok (.aload_n 0, 1) := by decide +kernel
theorem d_S_init_20 : decode b_S_init 20 = .ok (.iconst 2, 1) := by decide +kernel
theorem d_S_init_21 : decode b_S_init 21 = .ok (.putfield 21, 3) := by decide +kernel
theorem d_S_init_24 : decode b_S_init 24 = .ok (.return_, 1) := by decide +kernel
theorem d_L_init_0 : decode b_L_init 0 = .ok (.aload_n 0, 1) := by decide +kernel
theorem d_L_init_1 : decode b_L_init 1 = .ok (.invokespecial 3, 3) := by decide +kernel
theorem d_L_init_4 : decode b_L_init 4 = .ok (.aload_n 0, 1) := by decide +kernel
theorem d_L_init_5 : decode b_L_init 5 = .ok (.bipush 30, 2) := by decide +kernel
theorem d_L_init_7 : decode b_L_init 7 = .ok (.newarray .int, 2) := by decide +kernel
theorem d_L_init_9 : decode b_L_init 9 = .ok (.putfield 11, 3) := by decide +kernel
theorem d_L_init_12 : decode b_L_init 12 = .ok (.return_, 1) := by decide +kernel
theorem d_B_init_0 : decode b_B_init 0 = .ok (.aload_n 0, 1) := by decide +kernel
theorem d_B_init_1 : decode b_B_init 1 = .ok (.invokespecial 3, 3) := by decide +kernel
theorem d_B_init_4 : decode b_B_init 4 = .ok (.aload_n 0, 1) := by decide +kernel
theorem d_B_init_5 : decode b_B_init 5 = .ok (.bipush 9, 2) := by decide +kernel
theorem d_B_init_7 : decode b_B_init 7 = .ok (.newarray .int, 2) := by decide +kernel
theorem d_B_init_9 : decode b_B_init 9 = .ok (.putfield 9, 3) := by decide +kernel
theorem d_B_init_12 : decode b_B_init 12 = .ok (.aload_n 0, 1) := by decide +kernel
theorem d_B_init_13 : decode b_B_init 13 = .ok (.bipush 9, 2) := by decide +kernel
theorem d_B_init_15 : decode b_B_init 15 = .ok (.newarray .int, 2) := by decide +kernel
theorem d_B_init_17 : decode b_B_init 17 = .ok (.putfield 15, 3) := by decide +kernel
theorem d_B_init_20 : decode b_B_init 20 = .ok (.aload_n 0, 1) := by decide +kernel
theorem d_B_init_21 : decode b_B_init 21 = .ok (.bipush 18, 2) := by decide +kernel
theorem d_B_init_23 : decode b_B_init 23 = .ok (.newarray .int, 2) := by decide +kernel
theorem d_B_init_25 : decode b_B_init 25 = .ok (.putfield 18, 3) := by decide +kernel
theorem d_B_init_28 : decode b_B_init 28 = .ok (.aload_n 0, 1) := by decide +kernel
theorem d_B_init_29 : decode b_B_init 29 = .ok (.iconst 3, 1) := by decide +kernel
theorem d_B_init_30 : decode b_B_init 30 = .ok (.newarray .int, 2) := by decide +kernel
theorem d_B_init_32 : decode b_B_init 32 = .ok (.putfield 21, 3) := by decide +kernel
theorem d_B_init_35 : decode b_B_init 35 = .ok (.return_, 1) := by decide +kernel
theorem d_S_copyFrom_0 : decode b_S_copyFrom 0 = .ok (.aload_n 0, 1) := by decide +kernel
theorem d_S_copyFrom_1 : decode b_S_copyFrom 1 = .ok (.aload_n 1, 1) := by decide +kernel
theorem d_S_copyFrom_2 : decode b_S_copyFrom 2 = .ok (.getfield 21, 3) := by decide +kernel
theorem d_S_copyFrom_5 : decode b_S_copyFrom 5 = .ok (.putfield 21, 3) := by decide +kernel
theorem d_S_copyFrom_8 : decode b_S_copyFrom 8 = .ok (.aload_n 0, 1) := by decide +kernel
theorem d_S_copyFrom_9 : decode b_S_copyFrom 9 = .ok (.aload_n 1, 1) := by decide +kernel
theorem d_S_copyFrom_10 : decode b_S_copyFrom 10 = .ok (.getfield 25, 3) := by decide +kernel
theorem d_S_copyFrom_13 : decode b_S_copyFrom 13 = .ok (.putfield 25, 3) := by decide +kernel
theorem d_S_copyFrom_16 : decode b_S_copyFrom 16 = .ok (.aload_n 0, 1) := by decide +kernel
theorem d_S_copyFrom_17 : decode b_S_copyFrom 17 = .ok (.aload_n 1, 1) := by decide +kernel
theorem d_S_copyFrom_18 : decode b_S_copyFrom 18 = .ok (.getfield 28, 3) := by decide +kernel
theorem d_S_copyFrom_21 : decode b_S_copyFrom 21 = .ok (.putfield 28, 3) := by decide +kernel
theorem d_S_copyFrom_24 : decode b_S_copyFrom 24 = .ok (.iconst 0, 1) := by decide +kernel
theorem d_S_copyFrom_25 : decode b_S_copyFrom 25 = .ok (.istore_n 2, 1) := by decide +kernel
theorem d_S_copyFrom_26 : decode b_S_copyFrom 26 = .ok (.iload_n 2, 1) := by decide +kernel
theorem d_S_copyFrom_27 : decode b_S_copyFrom 27 = .ok (.iconst 5, 1) := by decide +kernel
theorem d_S_copyFrom_28 : decode b_S_copyFrom 28 = .ok (.if_icmp .ge 33, 3) := by decide +kernel
theorem d_S_copyFrom_31 : decode b_S_copyFrom 31 = .ok (.aload_n 0, 1) := by decide +kernel
theorem d_S_copyFrom_32 : decode b_S_copyFrom 32 = .ok (.getfield 11, 3) := by decide +kernel
theorem d_S_copyFrom_35 : decode b_S_copyFrom 35 = .ok (.iload_n 2, 1) := by decide +kernel
theorem d_S_copyFrom_36 : decode b_S_copyFrom 36 = .ok (.aload_n 1, 1) := by decide +kernel
theorem d_S_copyFrom_37 : decode b_S_copyFrom 37 = .ok (.getfield 11, 3) := by decide +kernel
theorem d_S_copyFrom_40 : decode b_S_copyFrom 40 = .ok (.iload_n 2, 1) := by decide +kernel
theorem d_S_copyFrom_41 : decode b_S_copyFrom 41 = .ok (.aaload, 1) := by decide +kernel
theorem d_S_copyFrom_42 : decode b_S_copyFrom 42 = .ok (.aastore, 1) := by decide +kernel
theorem d_S_copyFrom_43 : decode b_S_copyFrom 43 = .ok (.aload_n 0, 1) := by decide +kernel
theorem d_S_copyFrom_44 : decode b_S_copyFrom 44 = .ok (.getfield 17, 3) := by decide +kernel
theorem d_S_copyFrom_47 : decode b_S_copyFrom 47 = .ok (.iload_n 2, 1) := by decide +kernel
theorem d_S_copyFrom_48 : decode b_S_copyFrom 48 = .ok (.aload_n 1, 1) := by decide +kernel
theorem d_S_copyFrom_49 : decode b_S_copyFrom 49 = .ok (.getfield 17, 3) := by decide +kernel
theorem d_S_copyFrom_52 : decode b_S_copyFrom 52 = .ok (.iload_n 2, 1) := by decide +kernel
theorem d_S_copyFrom_53 : decode b_S_copyFrom 53 = .ok (.baload, 1) := by decide +kernel
theorem d_S_copyFrom_54 : decode b_S_copyFrom 54 = .ok (.bastore, 1) := by decide +kernel
theorem d_S_copyFrom_55 : decode b_S_copyFrom 55 = .ok (.iinc 2 1, 3) := by decide +kernel
theorem d_S_copyFrom_58 : decode b_S_copyFrom 58 = .ok (.goto (-32), 3) := by decide +kernel
theorem d_S_copyFrom_61 : decode b_S_copyFrom 61 = .ok (.return_, 1) := by decide +kernel
theorem d_L_hasSteps_0 : decode b_L_hasSteps 0 = .ok (.iload_n 2, 1) := by decide +kernel
theorem d_L_hasSteps_1 : decode b_L_hasSteps 1 = .ok (.ifCond .lt 19, 3) := by decide +kernel
theorem d_L_hasSteps_4 : decode b_L_hasSteps 4 = .ok (.iload_n 3, 1) := by decide +kernel
theorem d_L_hasSteps_5 : decode b_L_hasSteps 5 = .ok (.aload_n 1, 1) := by decide +kernel
theorem d_L_hasSteps_6 : decode b_L_hasSteps 6 = .ok (.arraylength, 1) := by decide +kernel
theorem d_L_hasSteps_7 : decode b_L_hasSteps 7 = .ok (.if_icmp .gt 13, 3) := by decide +kernel
theorem d_L_hasSteps_10 : decode b_L_hasSteps 10 = .ok (.aload_n 0, 1) := by decide +kernel
theorem d_L_hasSteps_11 : decode b_L_hasSteps 11 = .ok (.getfield 15, 3) := by decide +kernel
theorem d_L_hasSteps_14 : decode b_L_hasSteps 14 = .ok (.iload_n 3, 1) := by decide +kernel
theorem d_L_hasSteps_15 : decode b_L_hasSteps 15 = .ok (.iload_n 2, 1) := by decide +kernel
theorem d_L_hasSteps_16 : decode b_L_hasSteps 16 = .ok (.isub, 1) := by decide +kernel
theorem d_L_hasSteps_17 : decode b_L_hasSteps 17 = .ok (.if_icmp .eq 5, 3) := by decide +kernel
theorem d_L_hasSteps_20 : decode b_L_hasSteps 20 = .ok (.iconst 0, 1) := by decide +kernel
theorem d_L_hasSteps_21 : decode b_L_hasSteps 21 = .ok (.ireturn, 1) := by decide +kernel
theorem d_L_hasSteps_22 : decode b_L_hasSteps 22 = .ok (.iconst 0, 1) := by decide +kernel
theorem d_L_hasSteps_23 : decode b_L_hasSteps 23 = .ok (.istore 4, 2) := by decide +kernel
theorem d_L_hasSteps_25 : decode b_L_hasSteps 25 = .ok (.iload 4, 2) := by decide +kernel
theorem d_L_hasSteps_27 : decode b_L_hasSteps 27 = .ok (.aload_n 0, 1) := by decide +kernel
theorem d_L_hasSteps_28 : decode b_L_hasSteps 28 = .ok (.getfield 15, 3) := by decide +kernel
theorem d_L_hasSteps_31 : decode b_L_hasSteps 31 = .ok (.if_icmp .ge 27, 3) := by decide +kernel
theorem d_L_hasSteps_34 : decode b_L_hasSteps 34 = .ok (.aload_n 0, 1) := by decide +kernel
theorem d_L_hasSteps_35 : decode b_L_hasSteps 35 = .ok (.getfield 11, 3) := by decide +kernel
theorem d_L_hasSteps_38 : decode b_L_hasSteps 38 = .ok (.iload 4, 2) := by decide +kernel
theorem d_L_hasSteps_40 : decode b_L_hasSteps 40 = .ok (.iaload, 1) := by decide +kernel
theorem d_L_hasSteps_41 : decode b_L_hasSteps 41 = .ok (.aload_n 1, 1) := by decide +kernel
theorem d_L_hasSteps_42 : decode b_L_hasSteps 42 = .ok (.iload_n 2, 1) := by decide +kernel
theorem d_L_hasSteps_43 : decode b_L_hasSteps 43 = .ok (.iload 4, 2) := by decide +kernel
theorem d_L_hasSteps_45 : decode b_L_hasSteps 45 = .ok (.iadd, 1) := by decide +kernel
theorem d_L_hasSteps_46 : decode b_L_hasSteps 46 = .ok (.iaload, 1) := by decide +kernel
theorem d_L_hasSteps_47 : decode b_L_hasSteps 47 = .ok (.if_icmp .eq 5, 3) := by decide +kernel
theorem d_L_hasSteps_50 : decode b_L_hasSteps 50 = .ok (.iconst 0, 1) := by decide +kernel
theorem d_L_hasSteps_51 : decode b_L_hasSteps 51 = .ok (.ireturn, 1) := by decide +kernel
theorem d_L_hasSteps_52 : decode b_L_hasSteps 52 = .ok (.iinc 4 1, 3) := by decide +kernel
theorem d_L_hasSteps_55 : decode b_L_hasSteps 55 = .ok (.goto (-30), 3) := by decide +kernel
theorem d_L_hasSteps_58 : decode b_L_hasSteps 58 = .ok (.iconst 1, 1) := by decide +kernel
theorem d_L_hasSteps_59 : decode b_L_hasSteps 59 = .ok (.ireturn, 1) := by decide +kernel
theorem d_S_uses_0 : decode b_S_uses 0 = .ok (.iconst 0, 1) := by decide +kernel
theorem d_S_uses_1 : decode b_S_uses 1 = .ok (.istore_n 2, 1) := by decide +kernel
theorem d_S_uses_2 : decode b_S_uses 2 = .ok (.iload_n 2, 1) := by decide +kernel
theorem d_S_uses_3 : decode b_S_uses 3 = .ok (.aload_n 0, 1) := by decide +kernel
theorem d_S_uses_4 : decode b_S_uses 4 = .ok (.getfield 28, 3) := by decide +kernel
theorem d_S_uses_7 : decode b_S_uses 7 = .ok (.if_icmp .ge 21, 3) := by decide +kernel
theorem d_S_uses_10 : decode b_S_uses 10 = .ok (.aload_n 0, 1) := by decide +kernel
theorem d_S_uses_11 : decode b_S_uses 11 = .ok (.getfield 11, 3) := by decide +kernel
theorem d_S_uses_14 : decode b_S_uses 14 = .ok (.iload_n 2, 1) := by decide +kernel
theorem d_S_uses_15 : decode b_S_uses 15 = .ok (.aaload, 1) := by decide +kernel
theorem d_S_uses_16 : decode b_S_uses 16 = .ok (.aload_n 1, 1) := by decide +kernel
theorem d_S_uses_17 : decode b_S_uses 17 = .ok (.if_acmp .ne 5, 3) := by decide +kernel
theorem d_S_uses_20 : decode b_S_uses 20 = .ok (.iconst 1, 1) := by decide +kernel
theorem d_S_uses_21 : decode b_S_uses 21 = .ok (.ireturn, 1) := by decide +kernel
theorem d_S_uses_22 : decode b_S_uses 22 = .ok (.iinc 2 1, 3) := by decide +kernel
theorem d_S_uses_25 : decode b_S_uses 25 = .ok (.goto (-23), 3) := by decide +kernel
theorem d_S_uses_28 : decode b_S_uses 28 = .ok (.iconst 0, 1) := by decide +kernel
theorem d_S_uses_29 : decode b_S_uses 29 = .ok (.ireturn, 1) := by decide +kernel
theorem d_L_isLetter_0 : decode b_L_isLetter 0 = .ok (.iload_n 0, 1) := by decide +kernel
theorem d_L_isLetter_1 : decode b_L_isLetter 1 = .ok (.ifCond .lt 12, 3) := by decide +kernel
theorem d_L_isLetter_4 : decode b_L_isLetter 4 = .ok (.iload_n 0, 1) := by decide +kernel
theorem d_L_isLetter_5 : decode b_L_isLetter 5 = .ok (.iconst 3, 1) := by decide +kernel
theorem d_L_isLetter_6 : decode b_L_isLetter 6 = .ok (.if_icmp .ge 7, 3) := by decide +kernel
theorem d_L_isLetter_9 : decode b_L_isLetter 9 = .ok (.iconst 1, 1) := by decide +kernel
theorem d_L_isLetter_10 : decode b_L_isLetter 10 = .ok (.goto 4, 3) := by decide +kernel
theorem d_L_isLetter_13 : decode b_L_isLetter 13 = .ok (.iconst 0, 1) := by decide +kernel
theorem d_L_isLetter_14 : decode b_L_isLetter 14 = .ok (.ireturn, 1) := by decide +kernel
theorem d_L_become_0 : decode b_L_become 0 = .ok (.aload_n 0, 1) := by decide +kernel
theorem d_L_become_1 : decode b_L_become 1 = .ok (.iconst 0, 1) := by decide +kernel
theorem d_L_become_2 : decode b_L_become 2 = .ok (.putfield 15, 3) := by decide +kernel
theorem d_L_become_5 : decode b_L_become 5 = .ok (.aload_n 0, 1) := by decide +kernel
theorem d_L_become_6 : decode b_L_become 6 = .ok (.iconst 0, 1) := by decide +kernel
theorem d_L_become_7 : decode b_L_become 7 = .ok (.putfield 19, 3) := by decide +kernel
theorem d_L_become_10 : decode b_L_become 10 = .ok (.aload_n 0, 1) := by decide +kernel
theorem d_L_become_11 : decode b_L_become 11 = .ok (.iconst 0, 1) := by decide +kernel
theorem d_L_become_12 : decode b_L_become 12 = .ok (.putfield 22, 3) := by decide +kernel
theorem d_L_become_15 : decode b_L_become 15 = .ok (.aload_n 0, 1) := by decide +kernel
theorem d_L_become_16 : decode b_L_become 16 = .ok (.iconst 0, 1) := by decide +kernel
theorem d_L_become_17 : decode b_L_become 17 = .ok (.putfield 25, 3) := by decide +kernel
theorem d_L_become_20 : decode b_L_become 20 = .ok (.iload_n 3, 1) := by decide +kernel
theorem d_L_become_21 : decode b_L_become 21 = .ok (.aload_n 1, 1) := by decide +kernel
theorem d_L_become_22 : decode b_L_become 22 = .ok (.arraylength, 1) := by decide +kernel
theorem d_L_become_23 : decode b_L_become 23 = .ok (.invokestatic 29, 3) := by decide +kernel
theorem d_L_become_26 : decode b_L_become 26 = .ok (.istore 4, 2) := by decide +kernel
theorem d_L_become_28 : decode b_L_become 28 = .ok (.iload_n 2, 1) := by decide +kernel
theorem d_L_become_29 : decode b_L_become 29 = .ok (.iconst 0, 1) := by decide +kernel
theorem d_L_become_30 : decode b_L_become 30 = .ok (.invokestatic 35, 3) := by decide +kernel
theorem d_L_become_33 : decode b_L_become 33 = .ok (.istore 5, 2) := by decide +kernel
theorem d_L_become_35 : decode b_L_become 35 = .ok (.iload 5, 2) := by decide +kernel
theorem d_L_become_37 : decode b_L_become 37 = .ok (.iload 4, 2) := by decide +kernel
theorem d_L_become_39 : decode b_L_become 39 = .ok (.if_icmp .ge 76, 3) := by decide +kernel
theorem d_L_become_42 : decode b_L_become 42 = .ok (.aload_n 0, 1) := by decide +kernel
theorem d_L_become_43 : decode b_L_become 43 = .ok (.getfield 15, 3) := by decide +kernel
theorem d_L_become_46 : decode b_L_become 46 = .ok (.bipush 30, 2) := by decide +kernel
theorem d_L_become_48 : decode b_L_become 48 = .ok (.if_icmp .ge 67, 3) := by decide +kernel
theorem d_L_become_51 : decode b_L_become 51 = .ok (.aload_n 0, 1) := by decide +kernel
theorem d_L_become_52 : decode b_L_become 52 = .ok (.getfield 11, 3) := by decide +kernel
theorem d_L_become_55 : decode b_L_become 55 = .ok (.aload_n 0, 1) := by decide +kernel
theorem d_L_become_56 : decode b_L_become 56 = .ok (.getfield 15, 3) := by decide +kernel
theorem d_L_become_59 : decode b_L_become 59 = .ok (.aload_n 1, 1) := by decide +kernel
theorem d_L_become_60 : decode b_L_become 60 = .ok (.iload 5, 2) := by decide +kernel
theorem d_L_become_62 : decode b_L_become 62 = .ok (.iaload, 1) := by decide +kernel
theorem d_L_become_63 : decode b_L_become 63 = .ok (.iastore, 1) := by decide +kernel
theorem d_L_become_64 : decode b_L_become 64 = .ok (.aload_n 0, 1) := by decide +kernel
theorem d_L_become_65 : decode b_L_become 65 = .ok (.dup, 1) := by decide +kernel
theorem d_L_become_66 : decode b_L_become 66 = .ok (.getfield 15, 3) := by decide +kernel
theorem d_L_become_69 : decode b_L_become 69 = .ok (.iconst 1, 1) := by decide +kernel
theorem d_L_become_70 : decode b_L_become 70 = .ok (.iadd, 1) := by decide +kernel
theorem d_L_become_71 : decode b_L_become 71 = .ok (.putfield 15, 3) := by decide +kernel
theorem d_L_become_74 : decode b_L_become 74 = .ok (.aload_n 1, 1) := by decide +kernel
theorem d_L_become_75 : decode b_L_become 75 = .ok (.iload 5, 2) := by decide +kernel
theorem d_L_become_77 : decode b_L_become 77 = .ok (.iaload, 1) := by decide +kernel
theorem d_L_become_78 : decode b_L_become 78 = .ok (.invokestatic 38, 3) := by decide +kernel
theorem d_L_become_81 : decode b_L_become 81 = .ok (.ifCond .eq 28, 3) := by decide +kernel
theorem d_L_become_84 : decode b_L_become 84 = .ok (.aload_n 0, 1) := by decide +kernel
theorem d_L_become_85 : decode b_L_become 85 = .ok (.dup, 1) := by decide +kernel
theorem d_L_become_86 : decode b_L_become 86 = .ok (.getfield 19, 3) := by decide +kernel
theorem d_L_become_89 : decode b_L_become 89 = .ok (.iconst 1, 1) := by decide +kernel
theorem d_L_become_90 : decode b_L_become 90 = .ok (.iadd, 1) := by decide +kernel
theorem d_L_become_91 : decode b_L_become 91 = .ok (.putfield 19, 3) := by decide +kernel
theorem d_L_become_94 : decode b_L_become 94 = .ok (.aload_n 0, 1) := by decide +kernel
theorem d_L_become_95 : decode b_L_become 95 = .ok (.dup, 1) := by decide +kernel
theorem d_L_become_96 : decode b_L_become 96 = .ok (.getfield 22, 3) := by decide +kernel
theorem d_L_become_99 : decode b_L_become 99 = .ok (.iconst 1, 1) := by decide +kernel
theorem d_L_become_100 : decode b_L_become 100 = .ok (.aload_n 1, 1) := by decide +kernel
theorem d_L_become_101 : decode b_L_become 101 = .ok (.iload 5, 2) := by decide +kernel
theorem d_L_become_103 : decode b_L_become 103 = .ok (.iaload, 1) := by decide +kernel
theorem d_L_become_104 : decode b_L_become 104 = .ok (.ishl, 1) := by decide +kernel
theorem d_L_become_105 : decode b_L_become 105 = .ok (.ior, 1) := by decide +kernel
theorem d_L_become_106 : decode b_L_become 106 = .ok (.putfield 22, 3) := by decide +kernel
theorem d_L_become_109 : decode b_L_become 109 = .ok (.iinc 5 1, 3) := by decide +kernel
theorem d_L_become_112 : decode b_L_become 112 = .ok (.goto (-77), 3) := by decide +kernel
theorem d_L_become_115 : decode b_L_become 115 = .ok (.return_, 1) := by decide +kernel
theorem d_S_add_0 : decode b_S_add 0 = .ok (.aload_n 1, 1) := by decide +kernel
theorem d_S_add_1 : decode b_S_add 1 = .ok (.ifnull 41, 3) := by decide +kernel
theorem d_S_add_4 : decode b_S_add 4 = .ok (.aload_n 0, 1) := by decide +kernel
theorem d_S_add_5 : decode b_S_add 5 = .ok (.getfield 28, 3) := by decide +kernel
theorem d_S_add_8 : decode b_S_add 8 = .ok (.iconst 5, 1) := by decide +kernel
theorem d_S_add_9 : decode b_S_add 9 = .ok (.if_icmp .ge 33, 3) := by decide +kernel
theorem d_S_add_12 : decode b_S_add 12 = .ok (.aload_n 0, 1) := by decide +kernel
theorem d_S_add_13 : decode b_S_add 13 = .ok (.getfield 11, 3) := by decide +kernel
theorem d_S_add_16 : decode b_S_add 16 = .ok (.aload_n 0, 1) := by decide +kernel
theorem d_S_add_17 : decode b_S_add 17 = .ok (.getfield 28, 3) := by decide +kernel
theorem d_S_add_20 : decode b_S_add 20 = .ok (.aload_n 1, 1) := by decide +kernel
theorem d_S_add_21 : decode b_S_add 21 = .ok (.aastore, 1) := by decide +kernel
theorem d_S_add_22 : decode b_S_add 22 = .ok (.aload_n 0, 1) := by decide +kernel
theorem d_S_add_23 : decode b_S_add 23 = .ok (.getfield 17, 3) := by decide +kernel
theorem d_S_add_26 : decode b_S_add 26 = .ok (.aload_n 0, 1) := by decide +kernel
theorem d_S_add_27 : decode b_S_add 27 = .ok (.getfield 28, 3) := by decide +kernel
theorem d_S_add_30 : decode b_S_add 30 = .ok (.iconst 1, 1) := by decide +kernel
theorem d_S_add_31 : decode b_S_add 31 = .ok (.bastore, 1) := by decide +kernel
theorem d_S_add_32 : decode b_S_add 32 = .ok (.aload_n 0, 1) := by decide +kernel
theorem d_S_add_33 : decode b_S_add 33 = .ok (.dup, 1) := by decide +kernel
theorem d_S_add_34 : decode b_S_add 34 = .ok (.getfield 28, 3) := by decide +kernel
theorem d_S_add_37 : decode b_S_add 37 = .ok (.iconst 1, 1) := by decide +kernel
theorem d_S_add_38 : decode b_S_add 38 = .ok (.iadd, 1) := by decide +kernel
theorem d_S_add_39 : decode b_S_add 39 = .ok (.putfield 28, 3) := by decide +kernel
theorem d_S_add_42 : decode b_S_add 42 = .ok (.return_, 1) := by decide +kernel
theorem d_S_hasLaw_0 : decode b_S_hasLaw 0 = .ok (.iload_n 1, 1) := by decide +kernel
theorem d_S_hasLaw_1 : decode b_S_hasLaw 1 = .ok (.ifCond .lt 20, 3) := by decide +kernel
theorem d_S_hasLaw_4 : decode b_S_hasLaw 4 = .ok (.iload_n 1, 1) := by decide +kernel
theorem d_S_hasLaw_5 : decode b_S_hasLaw 5 = .ok (.aload_n 0, 1) := by decide +kernel
theorem d_S_hasLaw_6 : decode b_S_hasLaw 6 = .ok (.getfield 28, 3) := by decide +kernel
theorem d_S_hasLaw_9 : decode b_S_hasLaw 9 = .ok (.if_icmp .ge 12, 3) := by decide +kernel
theorem d_S_hasLaw_12 : decode b_S_hasLaw 12 = .ok (.iload_n 1, 1) := by decide +kernel
theorem d_S_hasLaw_13 : decode b_S_hasLaw 13 = .ok (.iconst 5, 1) := by decide +kernel
theorem d_S_hasLaw_14 : decode b_S_hasLaw 14 = .ok (.if_icmp .ge 7, 3) := by decide +kernel
theorem d_S_hasLaw_17 : decode b_S_hasLaw 17 = .ok (.iconst 1, 1) := by decide +kernel
theorem d_S_hasLaw_18 : decode b_S_hasLaw 18 = .ok (.goto 4, 3) := by decide +kernel
theorem d_S_hasLaw_21 : decode b_S_hasLaw 21 = .ok (.iconst 0, 1) := by decide +kernel
theorem d_S_hasLaw_22 : decode b_S_hasLaw 22 = .ok (.ireturn, 1) := by decide +kernel
theorem d_S_remove_0 : decode b_S_remove 0 = .ok (.aload_n 0, 1) := by decide +kernel
theorem d_S_remove_1 : decode b_S_remove 1 = .ok (.iload_n 1, 1) := by decide +kernel
theorem d_S_remove_2 : decode b_S_remove 2 = .ok (.invokevirtual 31, 3) := by decide +kernel
theorem d_S_remove_5 : decode b_S_remove 5 = .ok (.ifCond .ne 4, 3) := by decide +kernel
theorem d_S_remove_8 : decode b_S_remove 8 = .ok (.return_, 1) := by decide +kernel
theorem d_S_remove_9 : decode b_S_remove 9 = .ok (.aload_n 0, 1) := by decide +kernel
theorem d_S_remove_10 : decode b_S_remove 10 = .ok (.dup, 1) := by decide +kernel
theorem d_S_remove_11 : decode b_S_remove 11 = .ok (.getfield 28, 3) := by decide +kernel
theorem d_S_remove_14 : decode b_S_remove 14 = .ok (.iconst 1, 1) := by decide +kernel
theorem d_S_remove_15 : decode b_S_remove 15 = .ok (.isub, 1) := by decide +kernel
theorem d_S_remove_16 : decode b_S_remove 16 = .ok (.putfield 28, 3) := by decide +kernel
theorem d_S_remove_19 : decode b_S_remove 19 = .ok (.iload_n 1, 1) := by decide +kernel
theorem d_S_remove_20 : decode b_S_remove 20 = .ok (.istore_n 2, 1) := by decide +kernel
theorem d_S_remove_21 : decode b_S_remove 21 = .ok (.iload_n 2, 1) := by decide +kernel
theorem d_S_remove_22 : decode b_S_remove 22 = .ok (.aload_n 0, 1) := by decide +kernel
theorem d_S_remove_23 : decode b_S_remove 23 = .ok (.getfield 28, 3) := by decide +kernel
theorem d_S_remove_26 : decode b_S_remove 26 = .ok (.if_icmp .ge 37, 3) := by decide +kernel
theorem d_S_remove_29 : decode b_S_remove 29 = .ok (.aload_n 0, 1) := by decide +kernel
theorem d_S_remove_30 : decode b_S_remove 30 = .ok (.getfield 11, 3) := by decide +kernel
theorem d_S_remove_33 : decode b_S_remove 33 = .ok (.iload_n 2, 1) := by decide +kernel
theorem d_S_remove_34 : decode b_S_remove 34 = .ok (.aload_n 0, 1) := by decide +kernel
theorem d_S_remove_35 : decode b_S_remove 35 = .ok (.getfield 11, 3) := by decide +kernel
theorem d_S_remove_38 : decode b_S_remove 38 = .ok (.iload_n 2, 1) := by decide +kernel
theorem d_S_remove_39 : decode b_S_remove 39 = .ok (.iconst 1, 1) := by decide +kernel
theorem d_S_remove_40 : decode b_S_remove 40 = .ok (.iadd, 1) := by decide +kernel
theorem d_S_remove_41 : decode b_S_remove 41 = .ok (.aaload, 1) := by decide +kernel
theorem d_S_remove_42 : decode b_S_remove 42 = .ok (.aastore, 1) := by decide +kernel
theorem d_S_remove_43 : decode b_S_remove 43 = .ok (.aload_n 0, 1) := by decide +kernel
theorem d_S_remove_44 : decode b_S_remove 44 = .ok (.getfield 17, 3) := by decide +kernel
theorem d_S_remove_47 : decode b_S_remove 47 = .ok (.iload_n 2, 1) := by decide +kernel
theorem d_S_remove_48 : decode b_S_remove 48 = .ok (.aload_n 0, 1) := by decide +kernel
theorem d_S_remove_49 : decode b_S_remove 49 = .ok (.getfield 17, 3) := by decide +kernel
theorem d_S_remove_52 : decode b_S_remove 52 = .ok (.iload_n 2, 1) := by decide +kernel
theorem d_S_remove_53 : decode b_S_remove 53 = .ok (.iconst 1, 1) := by decide +kernel
theorem d_S_remove_54 : decode b_S_remove 54 = .ok (.iadd, 1) := by decide +kernel
theorem d_S_remove_55 : decode b_S_remove 55 = .ok (.baload, 1) := by decide +kernel
theorem d_S_remove_56 : decode b_S_remove 56 = .ok (.bastore, 1) := by decide +kernel
theorem d_S_remove_57 : decode b_S_remove 57 = .ok (.iinc 2 1, 3) := by decide +kernel
theorem d_S_remove_60 : decode b_S_remove 60 = .ok (.goto (-39), 3) := by decide +kernel
theorem d_S_remove_63 : decode b_S_remove 63 = .ok (.return_, 1) := by decide +kernel
theorem d_S_onCount_0 : decode b_S_onCount 0 = .ok (.iconst 0, 1) := by decide +kernel
theorem d_S_onCount_1 : decode b_S_onCount 1 = .ok (.istore_n 1, 1) := by decide +kernel
theorem d_S_onCount_2 : decode b_S_onCount 2 = .ok (.iconst 0, 1) := by decide +kernel
theorem d_S_onCount_3 : decode b_S_onCount 3 = .ok (.istore_n 2, 1) := by decide +kernel
theorem d_S_onCount_4 : decode b_S_onCount 4 = .ok (.iload_n 2, 1) := by decide +kernel
theorem d_S_onCount_5 : decode b_S_onCount 5 = .ok (.aload_n 0, 1) := by decide +kernel
theorem d_S_onCount_6 : decode b_S_onCount 6 = .ok (.getfield 28, 3) := by decide +kernel
theorem d_S_onCount_9 : decode b_S_onCount 9 = .ok (.if_icmp .ge 21, 3) := by decide +kernel
theorem d_S_onCount_12 : decode b_S_onCount 12 = .ok (.aload_n 0, 1) := by decide +kernel
theorem d_S_onCount_13 : decode b_S_onCount 13 = .ok (.getfield 17, 3) := by decide +kernel
theorem d_S_onCount_16 : decode b_S_onCount 16 = .ok (.iload_n 2, 1) := by decide +kernel
theorem d_S_onCount_17 : decode b_S_onCount 17 = .ok (.baload, 1) := by decide +kernel
theorem d_S_onCount_18 : decode b_S_onCount 18 = .ok (.ifCond .eq 6, 3) := by decide +kernel
theorem d_S_onCount_21 : decode b_S_onCount 21 = .ok (.iinc 1 1, 3) := by decide +kernel
theorem d_S_onCount_24 : decode b_S_onCount 24 = .ok (.iinc 2 1, 3) := by decide +kernel
theorem d_S_onCount_27 : decode b_S_onCount 27 = .ok (.goto (-23), 3) := by decide +kernel
theorem d_S_onCount_30 : decode b_S_onCount 30 = .ok (.iload_n 1, 1) := by decide +kernel
theorem d_S_onCount_31 : decode b_S_onCount 31 = .ok (.ireturn, 1) := by decide +kernel
theorem d_S_lawAt_0 : decode b_S_lawAt 0 = .ok (.aload_n 0, 1) := by decide +kernel
theorem d_S_lawAt_1 : decode b_S_lawAt 1 = .ok (.iload_n 1, 1) := by decide +kernel
theorem d_S_lawAt_2 : decode b_S_lawAt 2 = .ok (.invokevirtual 31, 3) := by decide +kernel
theorem d_S_lawAt_5 : decode b_S_lawAt 5 = .ok (.ifCond .eq 12, 3) := by decide +kernel
theorem d_S_lawAt_8 : decode b_S_lawAt 8 = .ok (.aload_n 0, 1) := by decide +kernel
theorem d_S_lawAt_9 : decode b_S_lawAt 9 = .ok (.getfield 11, 3) := by decide +kernel
theorem d_S_lawAt_12 : decode b_S_lawAt 12 = .ok (.iload_n 1, 1) := by decide +kernel
theorem d_S_lawAt_13 : decode b_S_lawAt 13 = .ok (.aaload, 1) := by decide +kernel
theorem d_S_lawAt_14 : decode b_S_lawAt 14 = .ok (.goto 4, 3) := by decide +kernel
theorem d_S_lawAt_17 : decode b_S_lawAt 17 = .ok (.aconst_null, 1) := by decide +kernel
theorem d_S_lawAt_18 : decode b_S_lawAt 18 = .ok (.areturn, 1) := by decide +kernel
theorem d_B_fillLetters_0 : decode b_B_fillLetters 0 = .ok (.iconst 0, 1) := by decide +kernel
theorem d_B_fillLetters_1 : decode b_B_fillLetters 1 = .ok (.istore_n 1, 1) := by decide +kernel
theorem d_B_fillLetters_2 : decode b_B_fillLetters 2 = .ok (.iload_n 1, 1) := by decide +kernel
theorem d_B_fillLetters_3 : decode b_B_fillLetters 3 = .ok (.aload_n 0, 1) := by decide +kernel
theorem d_B_fillLetters_4 : decode b_B_fillLetters 4 = .ok (.getfield 15, 3) := by decide +kernel
theorem d_B_fillLetters_7 : decode b_B_fillLetters 7 = .ok (.arraylength, 1) := by decide +kernel
theorem d_B_fillLetters_8 : decode b_B_fillLetters 8 = .ok (.if_icmp .ge 16, 3) := by decide +kernel
theorem d_B_fillLetters_11 : decode b_B_fillLetters 11 = .ok (.aload_n 0, 1) := by decide +kernel
theorem d_B_fillLetters_12 : decode b_B_fillLetters 12 = .ok (.getfield 15, 3) := by decide +kernel
theorem d_B_fillLetters_15 : decode b_B_fillLetters 15 = .ok (.iload_n 1, 1) := by decide +kernel
theorem d_B_fillLetters_16 : decode b_B_fillLetters 16 = .ok (.iconst 0, 1) := by decide +kernel
theorem d_B_fillLetters_17 : decode b_B_fillLetters 17 = .ok (.iastore, 1) := by decide +kernel
theorem d_B_fillLetters_18 : decode b_B_fillLetters 18 = .ok (.iinc 1 1, 3) := by decide +kernel
theorem d_B_fillLetters_21 : decode b_B_fillLetters 21 = .ok (.goto (-19), 3) := by decide +kernel
theorem d_B_fillLetters_24 : decode b_B_fillLetters 24 = .ok (.aload_n 0, 1) := by decide +kernel
theorem d_B_fillLetters_25 : decode b_B_fillLetters 25 = .ok (.getfield 30, 3) := by decide +kernel
theorem d_B_fillLetters_28 : decode b_B_fillLetters 28 = .ok (.aload_n 0, 1) := by decide +kernel
theorem d_B_fillLetters_29 : decode b_B_fillLetters 29 = .ok (.getfield 30, 3) := by decide +kernel
theorem d_B_fillLetters_32 : decode b_B_fillLetters 32 = .ok (.imul, 1) := by decide +kernel
theorem d_B_fillLetters_33 : decode b_B_fillLetters 33 = .ok (.aload_n 0, 1) := by decide +kernel
theorem d_B_fillLetters_34 : decode b_B_fillLetters 34 = .ok (.getfield 30, 3) := by decide +kernel
theorem d_B_fillLetters_37 : decode b_B_fillLetters 37 = .ok (.imul, 1) := by decide +kernel
theorem d_B_fillLetters_38 : decode b_B_fillLetters 38 = .ok (.istore_n 1, 1) := by decide +kernel
theorem d_B_fillLetters_39 : decode b_B_fillLetters 39 = .ok (.iconst 0, 1) := by decide +kernel
theorem d_B_fillLetters_40 : decode b_B_fillLetters 40 = .ok (.istore_n 2, 1) := by decide +kernel
theorem d_B_fillLetters_41 : decode b_B_fillLetters 41 = .ok (.iload_n 2, 1) := by decide +kernel
theorem d_B_fillLetters_42 : decode b_B_fillLetters 42 = .ok (.iload_n 1, 1) := by decide +kernel
theorem d_B_fillLetters_43 : decode b_B_fillLetters 43 = .ok (.if_icmp .ge 82, 3) := by decide +kernel
theorem d_B_fillLetters_46 : decode b_B_fillLetters 46 = .ok (.aload_n 0, 1) := by decide +kernel
theorem d_B_fillLetters_47 : decode b_B_fillLetters 47 = .ok (.getfield 30, 3) := by decide +kernel
theorem d_B_fillLetters_50 : decode b_B_fillLetters 50 = .ok (.ifCond .le 75, 3) := by decide +kernel
theorem d_B_fillLetters_53 : decode b_B_fillLetters 53 = .ok (.aload_n 0, 1) := by decide +kernel
theorem d_B_fillLetters_54 : decode b_B_fillLetters 54 = .ok (.getfield 15, 3) := by decide +kernel
theorem d_B_fillLetters_57 : decode b_B_fillLetters 57 = .ok (.iload_n 2, 1) := by decide +kernel
theorem d_B_fillLetters_58 : decode b_B_fillLetters 58 = .ok (.aload_n 0, 1) := by decide +kernel
theorem d_B_fillLetters_59 : decode b_B_fillLetters 59 = .ok (.getfield 30, 3) := by decide +kernel
theorem d_B_fillLetters_62 : decode b_B_fillLetters 62 = .ok (.irem, 1) := by decide +kernel
theorem d_B_fillLetters_63 : decode b_B_fillLetters 63 = .ok (.dup2, 1) := by decide +kernel
theorem d_B_fillLetters_64 : decode b_B_fillLetters 64 = .ok (.iaload, 1) := by decide +kernel
theorem d_B_fillLetters_65 : decode b_B_fillLetters 65 = .ok (.iconst 1, 1) := by decide +kernel
theorem d_B_fillLetters_66 : decode b_B_fillLetters 66 = .ok (.iload_n 2, 1) := by decide +kernel
theorem d_B_fillLetters_67 : decode b_B_fillLetters 67 = .ok (.ishl, 1) := by decide +kernel
theorem d_B_fillLetters_68 : decode b_B_fillLetters 68 = .ok (.ior, 1) := by decide +kernel
theorem d_B_fillLetters_69 : decode b_B_fillLetters 69 = .ok (.iastore, 1) := by decide +kernel
theorem d_B_fillLetters_70 : decode b_B_fillLetters 70 = .ok (.aload_n 0, 1) := by decide +kernel
theorem d_B_fillLetters_71 : decode b_B_fillLetters 71 = .ok (.getfield 15, 3) := by decide +kernel
theorem d_B_fillLetters_74 : decode b_B_fillLetters 74 = .ok (.iconst 3, 1) := by decide +kernel
theorem d_B_fillLetters_75 : decode b_B_fillLetters 75 = .ok (.iload_n 2, 1) := by decide +kernel
theorem d_B_fillLetters_76 : decode b_B_fillLetters 76 = .ok (.aload_n 0, 1) := by decide +kernel
theorem d_B_fillLetters_77 : decode b_B_fillLetters 77 = .ok (.getfield 30, 3) := by decide +kernel
theorem d_B_fillLetters_80 : decode b_B_fillLetters 80 = .ok (.idiv, 1) := by decide +kernel
theorem d_B_fillLetters_81 : decode b_B_fillLetters 81 = .ok (.aload_n 0, 1) := by decide +kernel
theorem d_B_fillLetters_82 : decode b_B_fillLetters 82 = .ok (.getfield 30, 3) := by decide +kernel
theorem d_B_fillLetters_85 : decode b_B_fillLetters 85 = .ok (.irem, 1) := by decide +kernel
theorem d_B_fillLetters_86 : decode b_B_fillLetters 86 = .ok (.iadd, 1) := by decide +kernel
theorem d_B_fillLetters_87 : decode b_B_fillLetters 87 = .ok (.dup2, 1) := by decide +kernel
theorem d_B_fillLetters_88 : decode b_B_fillLetters 88 = .ok (.iaload, 1) := by decide +kernel
theorem d_B_fillLetters_89 : decode b_B_fillLetters 89 = .ok (.iconst 1, 1) := by decide +kernel
theorem d_B_fillLetters_90 : decode b_B_fillLetters 90 = .ok (.iload_n 2, 1) := by decide +kernel
theorem d_B_fillLetters_91 : decode b_B_fillLetters 91 = .ok (.ishl, 1) := by decide +kernel
theorem d_B_fillLetters_92 : decode b_B_fillLetters 92 = .ok (.ior, 1) := by decide +kernel
theorem d_B_fillLetters_93 : decode b_B_fillLetters 93 = .ok (.iastore, 1) := by decide +kernel
theorem d_B_fillLetters_94 : decode b_B_fillLetters 94 = .ok (.aload_n 0, 1) := by decide +kernel
theorem d_B_fillLetters_95 : decode b_B_fillLetters 95 = .ok (.getfield 15, 3) := by decide +kernel
theorem d_B_fillLetters_98 : decode b_B_fillLetters 98 = .ok (.bipush 6, 2) := by decide +kernel
theorem d_B_fillLetters_100 : decode b_B_fillLetters 100 = .ok (.iload_n 2, 1) := by decide +kernel
theorem d_B_fillLetters_101 : decode b_B_fillLetters 101 = .ok (.aload_n 0, 1) := by decide +kernel
theorem d_B_fillLetters_102 : decode b_B_fillLetters 102 = .ok (.getfield 30, 3) := by decide +kernel
theorem d_B_fillLetters_105 : decode b_B_fillLetters 105 = .ok (.aload_n 0, 1) := by decide +kernel
theorem d_B_fillLetters_106 : decode b_B_fillLetters 106 = .ok (.getfield 30, 3) := by decide +kernel
theorem d_B_fillLetters_109 : decode b_B_fillLetters 109 = .ok (.imul, 1) := by decide +kernel
theorem d_B_fillLetters_110 : decode b_B_fillLetters 110 = .ok (.idiv, 1) := by decide +kernel
theorem d_B_fillLetters_111 : decode b_B_fillLetters 111 = .ok (.iadd, 1) := by decide +kernel
theorem d_B_fillLetters_112 : decode b_B_fillLetters 112 = .ok (.dup2, 1) := by decide +kernel
theorem d_B_fillLetters_113 : decode b_B_fillLetters 113 = .ok (.iaload, 1) := by decide +kernel
theorem d_B_fillLetters_114 : decode b_B_fillLetters 114 = .ok (.iconst 1, 1) := by decide +kernel
theorem d_B_fillLetters_115 : decode b_B_fillLetters 115 = .ok (.iload_n 2, 1) := by decide +kernel
theorem d_B_fillLetters_116 : decode b_B_fillLetters 116 = .ok (.ishl, 1) := by decide +kernel
theorem d_B_fillLetters_117 : decode b_B_fillLetters 117 = .ok (.ior, 1) := by decide +kernel
theorem d_B_fillLetters_118 : decode b_B_fillLetters 118 = .ok (.iastore, 1) := by decide +kernel
theorem d_B_fillLetters_119 : decode b_B_fillLetters 119 = .ok (.iinc 2 1, 3) := by decide +kernel
theorem d_B_fillLetters_122 : decode b_B_fillLetters 122 = .ok (.goto (-81), 3) := by decide +kernel
theorem d_B_fillLetters_125 : decode b_B_fillLetters 125 = .ok (.return_, 1) := by decide +kernel
theorem d_B_open_0 : decode b_B_open 0 = .ok (.iload_n 1, 1) := by decide +kernel
theorem d_B_open_1 : decode b_B_open 1 = .ok (.invokestatic 24, 3) := by decide +kernel
theorem d_B_open_4 : decode b_B_open 4 = .ok (.ifCond .eq 7, 3) := by decide +kernel
theorem d_B_open_7 : decode b_B_open 7 = .ok (.iload_n 2, 1) := by decide +kernel
theorem d_B_open_8 : decode b_B_open 8 = .ok (.ifCond .ge 4, 3) := by decide +kernel
theorem d_B_open_11 : decode b_B_open 11 = .ok (.return_, 1) := by decide +kernel
theorem d_B_open_12 : decode b_B_open 12 = .ok (.aload_n 0, 1) := by decide +kernel
theorem d_B_open_13 : decode b_B_open 13 = .ok (.getfield 30, 3) := by decide +kernel
theorem d_B_open_16 : decode b_B_open 16 = .ok (.iload_n 1, 1) := by decide +kernel
theorem d_B_open_17 : decode b_B_open 17 = .ok (.if_icmp .eq 12, 3) := by decide +kernel
theorem d_B_open_20 : decode b_B_open 20 = .ok (.aload_n 0, 1) := by decide +kernel
theorem d_B_open_21 : decode b_B_open 21 = .ok (.iload_n 1, 1) := by decide +kernel
theorem d_B_open_22 : decode b_B_open 22 = .ok (.putfield 30, 3) := by decide +kernel
theorem d_B_open_25 : decode b_B_open 25 = .ok (.aload_n 0, 1) := by decide +kernel
theorem d_B_open_26 : decode b_B_open 26 = .ok (.invokevirtual 34, 3) := by decide +kernel
theorem d_B_open_29 : decode b_B_open 29 = .ok (.iload_n 2, 1) := by decide +kernel
theorem d_B_open_30 : decode b_B_open 30 = .ok (.istore_n 3, 1) := by decide +kernel
theorem d_B_open_31 : decode b_B_open 31 = .ok (.iconst 0, 1) := by decide +kernel
theorem d_B_open_32 : decode b_B_open 32 = .ok (.istore 4, 2) := by decide +kernel
theorem d_B_open_34 : decode b_B_open 34 = .ok (.iload 4, 2) := by decide +kernel
theorem d_B_open_36 : decode b_B_open 36 = .ok (.iload_n 1, 1) := by decide +kernel
theorem d_B_open_37 : decode b_B_open 37 = .ok (.iload_n 1, 1) := by decide +kernel
theorem d_B_open_38 : decode b_B_open 38 = .ok (.imul, 1) := by decide +kernel
theorem d_B_open_39 : decode b_B_open 39 = .ok (.if_icmp .ge 23, 3) := by decide +kernel
theorem d_B_open_42 : decode b_B_open 42 = .ok (.aload_n 0, 1) := by decide +kernel
theorem d_B_open_43 : decode b_B_open 43 = .ok (.getfield 9, 3) := by decide +kernel
theorem d_B_open_46 : decode b_B_open 46 = .ok (.iload 4, 2) := by decide +kernel
theorem d_B_open_48 : decode b_B_open 48 = .ok (.iload_n 3, 1) := by decide +kernel
theorem d_B_open_49 : decode b_B_open 49 = .ok (.iload_n 1, 1) := by decide +kernel
theorem d_B_open_50 : decode b_B_open 50 = .ok (.irem, 1) := by decide +kernel
theorem d_B_open_51 : decode b_B_open 51 = .ok (.iastore, 1) := by decide +kernel
theorem d_B_open_52 : decode b_B_open 52 = .ok (.iload_n 3, 1) := by decide +kernel
theorem d_B_open_53 : decode b_B_open 53 = .ok (.iload_n 1, 1) := by decide +kernel
theorem d_B_open_54 : decode b_B_open 54 = .ok (.idiv, 1) := by decide +kernel
theorem d_B_open_55 : decode b_B_open 55 = .ok (.istore_n 3, 1) := by decide +kernel
theorem d_B_open_56 : decode b_B_open 56 = .ok (.iinc 4 1, 3) := by decide +kernel
theorem d_B_open_59 : decode b_B_open 59 = .ok (.goto (-25), 3) := by decide +kernel
theorem d_B_open_62 : decode b_B_open 62 = .ok (.return_, 1) := by decide +kernel
theorem d_B_join_0 : decode b_B_join 0 = .ok (.iconst 0, 1) := by decide +kernel
theorem d_B_join_1 : decode b_B_join 1 = .ok (.istore_n 3, 1) := by decide +kernel
theorem d_B_join_2 : decode b_B_join 2 = .ok (.iload_n 3, 1) := by decide +kernel
theorem d_B_join_3 : decode b_B_join 3 = .ok (.aload_n 0, 1) := by decide +kernel
theorem d_B_join_4 : decode b_B_join 4 = .ok (.getfield 30, 3) := by decide +kernel
theorem d_B_join_7 : decode b_B_join 7 = .ok (.if_icmp .ge 76, 3) := by decide +kernel
theorem d_B_join_10 : decode b_B_join 10 = .ok (.aload_n 0, 1) := by decide +kernel
theorem d_B_join_11 : decode b_B_join 11 = .ok (.getfield 18, 3) := by decide +kernel
theorem d_B_join_14 : decode b_B_join 14 = .ok (.iload_n 1, 1) := by decide +kernel
theorem d_B_join_15 : decode b_B_join 15 = .ok (.iload_n 3, 1) := by decide +kernel
theorem d_B_join_16 : decode b_B_join 16 = .ok (.iadd, 1) := by decide +kernel
theorem d_B_join_17 : decode b_B_join 17 = .ok (.iaload, 1) := by decide +kernel
theorem d_B_join_18 : decode b_B_join 18 = .ok (.istore 4, 2) := by decide +kernel
theorem d_B_join_20 : decode b_B_join 20 = .ok (.iconst 0, 1) := by decide +kernel
theorem d_B_join_21 : decode b_B_join 21 = .ok (.istore 5, 2) := by decide +kernel
theorem d_B_join_23 : decode b_B_join 23 = .ok (.iload 5, 2) := by decide +kernel
theorem d_B_join_25 : decode b_B_join 25 = .ok (.aload_n 0, 1) := by decide +kernel
theorem d_B_join_26 : decode b_B_join 26 = .ok (.getfield 30, 3) := by decide +kernel
theorem d_B_join_29 : decode b_B_join 29 = .ok (.if_icmp .ge 48, 3) := by decide +kernel
theorem d_B_join_32 : decode b_B_join 32 = .ok (.iload 4, 2) := by decide +kernel
theorem d_B_join_34 : decode b_B_join 34 = .ok (.ifCond .eq 43, 3) := by decide +kernel
theorem d_B_join_37 : decode b_B_join 37 = .ok (.aload_n 0, 1) := by decide +kernel
theorem d_B_join_38 : decode b_B_join 38 = .ok (.getfield 21, 3) := by decide +kernel
theorem d_B_join_41 : decode b_B_join 41 = .ok (.aload_n 0, 1) := by decide +kernel
theorem d_B_join_42 : decode b_B_join 42 = .ok (.getfield 9, 3) := by decide +kernel
theorem d_B_join_45 : decode b_B_join 45 = .ok (.aload_n 0, 1) := by decide +kernel
theorem d_B_join_46 : decode b_B_join 46 = .ok (.getfield 30, 3) := by decide +kernel
theorem d_B_join_49 : decode b_B_join 49 = .ok (.iload_n 3, 1) := by decide +kernel
theorem d_B_join_50 : decode b_B_join 50 = .ok (.imul, 1) := by decide +kernel
theorem d_B_join_51 : decode b_B_join 51 = .ok (.iload 5, 2) := by decide +kernel
theorem d_B_join_53 : decode b_B_join 53 = .ok (.iadd, 1) := by decide +kernel
theorem d_B_join_54 : decode b_B_join 54 = .ok (.iaload, 1) := by decide +kernel
theorem d_B_join_55 : decode b_B_join 55 = .ok (.dup2, 1) := by decide +kernel
theorem d_B_join_56 : decode b_B_join 56 = .ok (.iaload, 1) := by decide +kernel
theorem d_B_join_57 : decode b_B_join 57 = .ok (.iload 4, 2) := by decide +kernel
theorem d_B_join_59 : decode b_B_join 59 = .ok (.aload_n 0, 1) := by decide +kernel
theorem d_B_join_60 : decode b_B_join 60 = .ok (.getfield 18, 3) := by decide +kernel
theorem d_B_join_63 : decode b_B_join 63 = .ok (.iload_n 2, 1) := by decide +kernel
theorem d_B_join_64 : decode b_B_join 64 = .ok (.iload 5, 2) := by decide +kernel
theorem d_B_join_66 : decode b_B_join 66 = .ok (.iadd, 1) := by decide +kernel
theorem d_B_join_67 : decode b_B_join 67 = .ok (.iaload, 1) := by decide +kernel
theorem d_B_join_68 : decode b_B_join 68 = .ok (.iand, 1) := by decide +kernel
theorem d_B_join_69 : decode b_B_join 69 = .ok (.ior, 1) := by decide +kernel
theorem d_B_join_70 : decode b_B_join 70 = .ok (.iastore, 1) := by decide +kernel
theorem d_B_join_71 : decode b_B_join 71 = .ok (.iinc 5 1, 3) := by decide +kernel
theorem d_B_join_74 : decode b_B_join 74 = .ok (.goto (-51), 3) := by decide +kernel
theorem d_B_join_77 : decode b_B_join 77 = .ok (.iinc 3 1, 3) := by decide +kernel
theorem d_B_join_80 : decode b_B_join 80 = .ok (.goto (-78), 3) := by decide +kernel
theorem d_B_join_83 : decode b_B_join 83 = .ok (.iconst 0, 1) := by decide +kernel
theorem d_B_join_84 : decode b_B_join 84 = .ok (.istore_n 3, 1) := by decide +kernel
theorem d_B_join_85 : decode b_B_join 85 = .ok (.iload_n 3, 1) := by decide +kernel
theorem d_B_join_86 : decode b_B_join 86 = .ok (.iconst 3, 1) := by decide +kernel
theorem d_B_join_87 : decode b_B_join 87 = .ok (.if_icmp .ge 30, 3) := by decide +kernel
theorem d_B_join_90 : decode b_B_join 90 = .ok (.aload_n 0, 1) := by decide +kernel
theorem d_B_join_91 : decode b_B_join 91 = .ok (.getfield 18, 3) := by decide +kernel
theorem d_B_join_94 : decode b_B_join 94 = .ok (.iload_n 1, 1) := by decide +kernel
theorem d_B_join_95 : decode b_B_join 95 = .ok (.iload_n 3, 1) := by decide +kernel
theorem d_B_join_96 : decode b_B_join 96 = .ok (.iadd, 1) := by decide +kernel
theorem d_B_join_97 : decode b_B_join 97 = .ok (.aload_n 0, 1) := by decide +kernel
theorem d_B_join_98 : decode b_B_join 98 = .ok (.getfield 21, 3) := by decide +kernel
theorem d_B_join_101 : decode b_B_join 101 = .ok (.iload_n 3, 1) := by decide +kernel
theorem d_B_join_102 : decode b_B_join 102 = .ok (.iaload, 1) := by decide +kernel
theorem d_B_join_103 : decode b_B_join 103 = .ok (.iastore, 1) := by decide +kernel
theorem d_B_join_104 : decode b_B_join 104 = .ok (.aload_n 0, 1) := by decide +kernel
theorem d_B_join_105 : decode b_B_join 105 = .ok (.getfield 21, 3) := by decide +kernel
theorem d_B_join_108 : decode b_B_join 108 = .ok (.iload_n 3, 1) := by decide +kernel
theorem d_B_join_109 : decode b_B_join 109 = .ok (.iconst 0, 1) := by decide +kernel
theorem d_B_join_110 : decode b_B_join 110 = .ok (.iastore, 1) := by decide +kernel
theorem d_B_join_111 : decode b_B_join 111 = .ok (.iinc 3 1, 3) := by decide +kernel
theorem d_B_join_114 : decode b_B_join 114 = .ok (.goto (-29), 3) := by decide +kernel
theorem d_B_join_117 : decode b_B_join 117 = .ok (.return_, 1) := by decide +kernel
theorem d_B_run_0 : decode b_B_run 0 = .ok (.iconst 0, 1) := by decide +kernel
theorem d_B_run_1 : decode b_B_run 1 = .ok (.istore_n 2, 1) := by decide +kernel
theorem d_B_run_2 : decode b_B_run 2 = .ok (.iconst 0, 1) := by decide +kernel
theorem d_B_run_3 : decode b_B_run 3 = .ok (.istore_n 3, 1) := by decide +kernel
theorem d_B_run_4 : decode b_B_run 4 = .ok (.iload_n 3, 1) := by decide +kernel
theorem d_B_run_5 : decode b_B_run 5 = .ok (.aload_n 1, 1) := by decide +kernel
theorem d_B_run_6 : decode b_B_run 6 = .ok (.getfield 37, 3) := by decide +kernel
theorem d_B_run_9 : decode b_B_run 9 = .ok (.if_icmp .ge 101, 3) := by decide +kernel
theorem d_B_run_12 : decode b_B_run 12 = .ok (.aload_n 1, 1) := by decide +kernel
theorem d_B_run_13 : decode b_B_run 13 = .ok (.getfield 42, 3) := by decide +kernel
theorem d_B_run_16 : decode b_B_run 16 = .ok (.iload_n 3, 1) := by decide +kernel
theorem d_B_run_17 : decode b_B_run 17 = .ok (.iaload, 1) := by decide +kernel
theorem d_B_run_18 : decode b_B_run 18 = .ok (.istore 4, 2) := by decide +kernel
theorem d_B_run_20 : decode b_B_run 20 = .ok (.iload 4, 2) := by decide +kernel
theorem d_B_run_22 : decode b_B_run 22 = .ok (.iconst 3, 1) := by decide +kernel
theorem d_B_run_23 : decode b_B_run 23 = .ok (.if_icmp .ne 26, 3) := by decide +kernel
theorem d_B_run_26 : decode b_B_run 26 = .ok (.iload_n 2, 1) := by decide +kernel
theorem d_B_run_27 : decode b_B_run 27 = .ok (.iconst 2, 1) := by decide +kernel
theorem d_B_run_28 : decode b_B_run 28 = .ok (.if_icmp .lt 21, 3) := by decide +kernel
theorem d_B_run_31 : decode b_B_run 31 = .ok (.iinc 2 (-1), 3) := by decide +kernel
theorem d_B_run_34 : decode b_B_run 34 = .ok (.aload_n 0, 1) := by decide +kernel
theorem d_B_run_35 : decode b_B_run 35 = .ok (.iconst 3, 1) := by decide +kernel
theorem d_B_run_36 : decode b_B_run 36 = .ok (.iload_n 2, 1) := by decide +kernel
theorem d_B_run_37 : decode b_B_run 37 = .ok (.iconst 1, 1) := by decide +kernel
theorem d_B_run_38 : decode b_B_run 38 = .ok (.isub, 1) := by decide +kernel
theorem d_B_run_39 : decode b_B_run 39 = .ok (.imul, 1) := by decide +kernel
theorem d_B_run_40 : decode b_B_run 40 = .ok (.iconst 3, 1) := by decide +kernel
theorem d_B_run_41 : decode b_B_run 41 = .ok (.iload_n 2, 1) := by decide +kernel
theorem d_B_run_42 : decode b_B_run 42 = .ok (.imul, 1) := by decide +kernel
theorem d_B_run_43 : decode b_B_run 43 = .ok (.invokevirtual 45, 3) := by decide +kernel
theorem d_B_run_46 : decode b_B_run 46 = .ok (.goto 58, 3) := by decide +kernel
theorem d_B_run_49 : decode b_B_run 49 = .ok (.iload 4, 2) := by decide +kernel
theorem d_B_run_51 : decode b_B_run 51 = .ok (.invokestatic 49, 3) := by decide +kernel
theorem d_B_run_54 : decode b_B_run 54 = .ok (.ifCond .eq 50, 3) := by decide +kernel
theorem d_B_run_57 : decode b_B_run 57 = .ok (.iload_n 2, 1) := by decide +kernel
theorem d_B_run_58 : decode b_B_run 58 = .ok (.bipush 6, 2) := by decide +kernel
theorem d_B_run_60 : decode b_B_run 60 = .ok (.if_icmp .ge 44, 3) := by decide +kernel
theorem d_B_run_63 : decode b_B_run 63 = .ok (.iconst 0, 1) := by decide +kernel
theorem d_B_run_64 : decode b_B_run 64 = .ok (.istore 5, 2) := by decide +kernel
theorem d_B_run_66 : decode b_B_run 66 = .ok (.iload 5, 2) := by decide +kernel
theorem d_B_run_68 : decode b_B_run 68 = .ok (.iconst 3, 1) := by decide +kernel
theorem d_B_run_69 : decode b_B_run 69 = .ok (.if_icmp .ge 32, 3) := by decide +kernel
theorem d_B_run_72 : decode b_B_run 72 = .ok (.aload_n 0, 1) := by decide +kernel
theorem d_B_run_73 : decode b_B_run 73 = .ok (.getfield 18, 3) := by decide +kernel
theorem d_B_run_76 : decode b_B_run 76 = .ok (.iconst 3, 1) := by decide +kernel
theorem d_B_run_77 : decode b_B_run 77 = .ok (.iload_n 2, 1) := by decide +kernel
theorem d_B_run_78 : decode b_B_run 78 = .ok (.imul, 1) := by decide +kernel
theorem d_B_run_79 : decode b_B_run 79 = .ok (.iload 5, 2) := by decide +kernel
theorem d_B_run_81 : decode b_B_run 81 = .ok (.iadd, 1) := by decide +kernel
theorem d_B_run_82 : decode b_B_run 82 = .ok (.aload_n 0, 1) := by decide +kernel
theorem d_B_run_83 : decode b_B_run 83 = .ok (.getfield 15, 3) := by decide +kernel
theorem d_B_run_86 : decode b_B_run 86 = .ok (.iconst 3, 1) := by decide +kernel
theorem d_B_run_87 : decode b_B_run 87 = .ok (.iload 4, 2) := by decide +kernel
theorem d_B_run_89 : decode b_B_run 89 = .ok (.imul, 1) := by decide +kernel
theorem d_B_run_90 : decode b_B_run 90 = .ok (.iload 5, 2) := by decide +kernel
theorem d_B_run_92 : decode b_B_run 92 = .ok (.iadd, 1) := by decide +kernel
theorem d_B_run_93 : decode b_B_run 93 = .ok (.iaload, 1) := by decide +kernel
theorem d_B_run_94 : decode b_B_run 94 = .ok (.iastore, 1) := by decide +kernel
theorem d_B_run_95 : decode b_B_run 95 = .ok (.iinc 5 1, 3) := by decide +kernel
theorem d_B_run_98 : decode b_B_run 98 = .ok (.goto (-32), 3) := by decide +kernel
theorem d_B_run_101 : decode b_B_run 101 = .ok (.iinc 2 1, 3) := by decide +kernel
theorem d_B_run_104 : decode b_B_run 104 = .ok (.iinc 3 1, 3) := by decide +kernel
theorem d_B_run_107 : decode b_B_run 107 = .ok (.goto (-103), 3) := by decide +kernel
theorem d_B_run_110 : decode b_B_run 110 = .ok (.return_, 1) := by decide +kernel
theorem d_B_brokenCases_0 : decode b_B_brokenCases 0 = .ok (.iconst 0, 1) := by decide +kernel
theorem d_B_brokenCases_1 : decode b_B_brokenCases 1 = .ok (.istore_n 1, 1) := by decide +kernel
theorem d_B_brokenCases_2 : decode b_B_brokenCases 2 = .ok (.iconst 0, 1) := by decide +kernel
theorem d_B_brokenCases_3 : decode b_B_brokenCases 3 = .ok (.istore_n 2, 1) := by decide +kernel
theorem d_B_brokenCases_4 : decode b_B_brokenCases 4 = .ok (.iload_n 2, 1) := by decide +kernel
theorem d_B_brokenCases_5 : decode b_B_brokenCases 5 = .ok (.iconst 3, 1) := by decide +kernel
theorem d_B_brokenCases_6 : decode b_B_brokenCases 6 = .ok (.if_icmp .ge 27, 3) := by decide +kernel
theorem d_B_brokenCases_9 : decode b_B_brokenCases 9 = .ok (.iload_n 1, 1) := by decide +kernel
theorem d_B_brokenCases_10 : decode b_B_brokenCases 10 = .ok (.aload_n 0, 1) := by decide +kernel
theorem d_B_brokenCases_11 : decode b_B_brokenCases 11 = .ok (.getfield 18, 3) := by decide +kernel
theorem d_B_brokenCases_14 : decode b_B_brokenCases 14 = .ok (.iload_n 2, 1) := by decide +kernel
theorem d_B_brokenCases_15 : decode b_B_brokenCases 15 = .ok (.iaload, 1) := by decide +kernel
theorem d_B_brokenCases_16 : decode b_B_brokenCases 16 = .ok (.aload_n 0, 1) := by decide +kernel
theorem d_B_brokenCases_17 : decode b_B_brokenCases 17 = .ok (.getfield 18, 3) := by decide +kernel
theorem d_B_brokenCases_20 : decode b_B_brokenCases 20 = .ok (.iconst 3, 1) := by decide +kernel
theorem d_B_brokenCases_21 : decode b_B_brokenCases 21 = .ok (.iload_n 2, 1) := by decide +kernel
theorem d_B_brokenCases_22 : decode b_B_brokenCases 22 = .ok (.iadd, 1) := by decide +kernel
theorem d_B_brokenCases_23 : decode b_B_brokenCases 23 = .ok (.iaload, 1) := by decide +kernel
theorem d_B_brokenCases_24 : decode b_B_brokenCases 24 = .ok (.iand, 1) := by decide +kernel
theorem d_B_brokenCases_25 : decode b_B_brokenCases 25 = .ok (.ior, 1) := by decide +kernel
theorem d_B_brokenCases_26 : decode b_B_brokenCases 26 = .ok (.istore_n 1, 1) := by decide +kernel
theorem d_B_brokenCases_27 : decode b_B_brokenCases 27 = .ok (.iinc 2 1, 3) := by decide +kernel
theorem d_B_brokenCases_30 : decode b_B_brokenCases 30 = .ok (.goto (-26), 3) := by decide +kernel
theorem d_B_brokenCases_33 : decode b_B_brokenCases 33 = .ok (.iconst 1, 1) := by decide +kernel
theorem d_B_brokenCases_34 : decode b_B_brokenCases 34 = .ok (.aload_n 0, 1) := by decide +kernel
theorem d_B_brokenCases_35 : decode b_B_brokenCases 35 = .ok (.getfield 30, 3) := by decide +kernel
theorem d_B_brokenCases_38 : decode b_B_brokenCases 38 = .ok (.aload_n 0, 1) := by decide +kernel
theorem d_B_brokenCases_39 : decode b_B_brokenCases 39 = .ok (.getfield 30, 3) := by decide +kernel
theorem d_B_brokenCases_42 : decode b_B_brokenCases 42 = .ok (.imul, 1) := by decide +kernel
theorem d_B_brokenCases_43 : decode b_B_brokenCases 43 = .ok (.aload_n 0, 1) := by decide +kernel
theorem d_B_brokenCases_44 : decode b_B_brokenCases 44 = .ok (.getfield 30, 3) := by decide +kernel
theorem d_B_brokenCases_47 : decode b_B_brokenCases 47 = .ok (.imul, 1) := by decide +kernel
theorem d_B_brokenCases_48 : decode b_B_brokenCases 48 = .ok (.ishl, 1) := by decide +kernel
theorem d_B_brokenCases_49 : decode b_B_brokenCases 49 = .ok (.iconst 1, 1) := by decide +kernel
theorem d_B_brokenCases_50 : decode b_B_brokenCases 50 = .ok (.isub, 1) := by decide +kernel
theorem d_B_brokenCases_51 : decode b_B_brokenCases 51 = .ok (.istore_n 2, 1) := by decide +kernel
theorem d_B_brokenCases_52 : decode b_B_brokenCases 52 = .ok (.iload_n 2, 1) := by decide +kernel
theorem d_B_brokenCases_53 : decode b_B_brokenCases 53 = .ok (.iload_n 1, 1) := by decide +kernel
theorem d_B_brokenCases_54 : decode b_B_brokenCases 54 = .ok (.iconst (-1), 1) := by decide +kernel
theorem d_B_brokenCases_55 : decode b_B_brokenCases 55 = .ok (.ixor, 1) := by decide +kernel
theorem d_B_brokenCases_56 : decode b_B_brokenCases 56 = .ok (.iand, 1) := by decide +kernel
theorem d_B_brokenCases_57 : decode b_B_brokenCases 57 = .ok (.ireturn, 1) := by decide +kernel
theorem d_L_brokenAt_0 : decode b_L_brokenAt 0 = .ok (.aload_n 0, 1) := by decide +kernel
theorem d_L_brokenAt_1 : decode b_L_brokenAt 1 = .ok (.getfield 42, 3) := by decide +kernel
theorem d_L_brokenAt_4 : decode b_L_brokenAt 4 = .ok (.ifnull 16, 3) := by decide +kernel
theorem d_L_brokenAt_7 : decode b_L_brokenAt 7 = .ok (.iload_n 1, 1) := by decide +kernel
theorem d_L_brokenAt_8 : decode b_L_brokenAt 8 = .ok (.ifCond .lt 12, 3) := by decide +kernel
theorem d_L_brokenAt_11 : decode b_L_brokenAt 11 = .ok (.iload_n 1, 1) := by decide +kernel
theorem d_L_brokenAt_12 : decode b_L_brokenAt 12 = .ok (.aload_n 0, 1) := by decide +kernel
theorem d_L_brokenAt_13 : decode b_L_brokenAt 13 = .ok (.getfield 42, 3) := by decide +kernel
theorem d_L_brokenAt_16 : decode b_L_brokenAt 16 = .ok (.arraylength, 1) := by decide +kernel
theorem d_L_brokenAt_17 : decode b_L_brokenAt 17 = .ok (.if_icmp .lt 5, 3) := by decide +kernel
theorem d_L_brokenAt_20 : decode b_L_brokenAt 20 = .ok (.iconst 0, 1) := by decide +kernel
theorem d_L_brokenAt_21 : decode b_L_brokenAt 21 = .ok (.ireturn, 1) := by decide +kernel
theorem d_L_brokenAt_22 : decode b_L_brokenAt 22 = .ok (.aload_n 0, 1) := by decide +kernel
theorem d_L_brokenAt_23 : decode b_L_brokenAt 23 = .ok (.getfield 42, 3) := by decide +kernel
theorem d_L_brokenAt_26 : decode b_L_brokenAt 26 = .ok (.iload_n 1, 1) := by decide +kernel
theorem d_L_brokenAt_27 : decode b_L_brokenAt 27 = .ok (.baload, 1) := by decide +kernel
theorem d_L_brokenAt_28 : decode b_L_brokenAt 28 = .ok (.ireturn, 1) := by decide +kernel
theorem d_B_thingOf_0 : decode b_B_thingOf 0 = .ok (.iload_n 1, 1) := by decide +kernel
theorem d_B_thingOf_1 : decode b_B_thingOf 1 = .ok (.ifCond .eq 7, 3) := by decide +kernel
theorem d_B_thingOf_4 : decode b_B_thingOf 4 = .ok (.iconst 3, 1) := by decide +kernel
theorem d_B_thingOf_5 : decode b_B_thingOf 5 = .ok (.goto 4, 3) := by decide +kernel
theorem d_B_thingOf_8 : decode b_B_thingOf 8 = .ok (.iconst 0, 1) := by decide +kernel
theorem d_B_thingOf_9 : decode b_B_thingOf 9 = .ok (.istore_n 3, 1) := by decide +kernel
theorem d_B_thingOf_10 : decode b_B_thingOf 10 = .ok (.iconst 1, 1) := by decide +kernel
theorem d_B_thingOf_11 : decode b_B_thingOf 11 = .ok (.istore 4, 2) := by decide +kernel
theorem d_B_thingOf_13 : decode b_B_thingOf 13 = .ok (.iload 4, 2) := by decide +kernel
theorem d_B_thingOf_15 : decode b_B_thingOf 15 = .ok (.iconst 3, 1) := by decide +kernel
theorem d_B_thingOf_16 : decode b_B_thingOf 16 = .ok (.if_icmp .ge 28, 3) := by decide +kernel
theorem d_B_thingOf_19 : decode b_B_thingOf 19 = .ok (.aload_n 0, 1) := by decide +kernel
theorem d_B_thingOf_20 : decode b_B_thingOf 20 = .ok (.getfield 18, 3) := by decide +kernel
theorem d_B_thingOf_23 : decode b_B_thingOf 23 = .ok (.iload_n 3, 1) := by decide +kernel
theorem d_B_thingOf_24 : decode b_B_thingOf 24 = .ok (.iload 4, 2) := by decide +kernel
theorem d_B_thingOf_26 : decode b_B_thingOf 26 = .ok (.iadd, 1) := by decide +kernel
theorem d_B_thingOf_27 : decode b_B_thingOf 27 = .ok (.iaload, 1) := by decide +kernel
theorem d_B_thingOf_28 : decode b_B_thingOf 28 = .ok (.iload_n 2, 1) := by decide +kernel
theorem d_B_thingOf_29 : decode b_B_thingOf 29 = .ok (.invokestatic 52, 3) := by decide +kernel
theorem d_B_thingOf_32 : decode b_B_thingOf 32 = .ok (.ifCond .eq 6, 3) := by decide +kernel
theorem d_B_thingOf_35 : decode b_B_thingOf 35 = .ok (.iload 4, 2) := by decide +kernel
theorem d_B_thingOf_37 : decode b_B_thingOf 37 = .ok (.ireturn, 1) := by decide +kernel
theorem d_B_thingOf_38 : decode b_B_thingOf 38 = .ok (.iinc 4 1, 3) := by decide +kernel
theorem d_B_thingOf_41 : decode b_B_thingOf 41 = .ok (.goto (-28), 3) := by decide +kernel
theorem d_B_thingOf_44 : decode b_B_thingOf 44 = .ok (.iconst 0, 1) := by decide +kernel
theorem d_B_thingOf_45 : decode b_B_thingOf 45 = .ok (.ireturn, 1) := by decide +kernel
