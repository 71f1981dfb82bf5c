theorem d_M_power_0 : decode b_M_power 0 = .ok (.iconst 1, 1) := by decide +kernel
theorem d_M_power_1 : decode b_M_power 1 = .ok (.istore_n 2, 1) := by decide +kernel
theorem d_M_power_2 : decode b_M_power 2 = .ok (.iconst 0, 1) := by decide +kernel
theorem d_M_power_3 : decode b_M_power 3 = .ok (.istore_n 3, 1) := by decide +kernel
theorem d_M_power_4 : decode b_M_power 4 = .ok (.iload_n 3, 1) := by decide +kernel
theorem d_M_power_5 : decode b_M_power 5 = .ok (.iload_n 1, 1) := by decide +kernel
theorem d_M_power_6 : decode b_M_power 6 = .ok (.if_icmp .ge 13, 3) := by decide +kernel
theorem d_M_power_9 : decode b_M_power 9 = .ok (.iload_n 2, 1) := by decide +kernel
theorem d_M_power_10 : decode b_M_power 10 = .ok (.iload_n 0, 1) := by decide +kernel
theorem d_M_power_11 : decode b_M_power 11 = .ok (.imul, 1) := by decide +kernel
theorem d_M_power_12 : decode b_M_power 12 = .ok (.istore_n 2, 1) := by decide +kernel
theorem d_M_power_13 : decode b_M_power 13 = .ok (.iinc 3 1, 3) := by decide +kernel
theorem d_M_power_16 : decode b_M_power 16 = .ok (.goto (-12), 3) := by decide +kernel
theorem d_M_power_19 : decode b_M_power 19 = .ok (.iload_n 2, 1) := by decide +kernel
theorem d_M_power_20 : decode b_M_power 20 = .ok (.ireturn, 1) := by decide +kernel
theorem d_M_codes_0 : decode b_M_codes 0 = .ok (.iload_n 0, 1) := by decide +kernel
theorem d_M_codes_1 : decode b_M_codes 1 = .ok (.iload_n 0, 1) := by decide +kernel
theorem d_M_codes_2 : decode b_M_codes 2 = .ok (.iload_n 0, 1) := by decide +kernel
theorem d_M_codes_3 : decode b_M_codes 3 = .ok (.imul, 1) := by decide +kernel
theorem d_M_codes_4 : decode b_M_codes 4 = .ok (.invokestatic 64, 3) := by decide +kernel
theorem d_M_codes_7 : decode b_M_codes 7 = .ok (.ireturn, 1) := by decide +kernel
theorem d_M_unfolds_0 : decode b_M_unfolds 0 = .ok (.iload_n 2, 1) := by decide +kernel
theorem d_M_unfolds_1 : decode b_M_unfolds 1 = .ok (.istore_n 3, 1) := by decide +kernel
theorem d_M_unfolds_2 : decode b_M_unfolds 2 = .ok (.iconst 0, 1) := by decide +kernel
theorem d_M_unfolds_3 : decode b_M_unfolds 3 = .ok (.istore 4, 2) := by decide +kernel
theorem d_M_unfolds_5 : decode b_M_unfolds 5 = .ok (.iload 4, 2) := by decide +kernel
theorem d_M_unfolds_7 : decode b_M_unfolds 7 = .ok (.iload_n 1, 1) := by decide +kernel
theorem d_M_unfolds_8 : decode b_M_unfolds 8 = .ok (.iload_n 1, 1) := by decide +kernel
theorem d_M_unfolds_9 : decode b_M_unfolds 9 = .ok (.imul, 1) := by decide +kernel
theorem d_M_unfolds_10 : decode b_M_unfolds 10 = .ok (.if_icmp .ge 23, 3) := by decide +kernel
theorem d_M_unfolds_13 : decode b_M_unfolds 13 = .ok (.aload_n 0, 1) := by decide +kernel
theorem d_M_unfolds_14 : decode b_M_unfolds 14 = .ok (.getfield 28, 3) := by decide +kernel
theorem d_M_unfolds_17 : decode b_M_unfolds 17 = .ok (.iload 4, 2) := by decide +kernel
theorem d_M_unfolds_19 : decode b_M_unfolds 19 = .ok (.iload_n 3, 1) := by decide +kernel
theorem d_M_unfolds_20 : decode b_M_unfolds 20 = .ok (.iload_n 1, 1) := by decide +kernel
theorem d_M_unfolds_21 : decode b_M_unfolds 21 = .ok (.irem, 1) := by decide +kernel
theorem d_M_unfolds_22 : decode b_M_unfolds 22 = .ok (.iastore, 1) := by decide +kernel
theorem d_M_unfolds_23 : decode b_M_unfolds 23 = .ok (.iload_n 3, 1) := by decide +kernel
theorem d_M_unfolds_24 : decode b_M_unfolds 24 = .ok (.iload_n 1, 1) := by decide +kernel
theorem d_M_unfolds_25 : decode b_M_unfolds 25 = .ok (.idiv, 1) := by decide +kernel
theorem d_M_unfolds_26 : decode b_M_unfolds 26 = .ok (.istore_n 3, 1) := by decide +kernel
theorem d_M_unfolds_27 : decode b_M_unfolds 27 = .ok (.iinc 4 1, 3) := by decide +kernel
theorem d_M_unfolds_30 : decode b_M_unfolds 30 = .ok (.goto (-25), 3) := by decide +kernel
theorem d_M_unfolds_33 : decode b_M_unfolds 33 = .ok (.return_, 1) := by decide +kernel
theorem d_M_waysOf_0 : decode b_M_waysOf 0 = .ok (.iload_n 0, 1) := by decide +kernel
theorem d_M_waysOf_1 : decode b_M_waysOf 1 = .ok (.iconst 1, 1) := by decide +kernel
theorem d_M_waysOf_2 : decode b_M_waysOf 2 = .ok (.if_icmp .ne 7, 3) := by decide +kernel
theorem d_M_waysOf_5 : decode b_M_waysOf 5 = .ok (.iconst 1, 1) := by decide +kernel
theorem d_M_waysOf_6 : decode b_M_waysOf 6 = .ok (.goto 14, 3) := by decide +kernel
theorem d_M_waysOf_9 : decode b_M_waysOf 9 = .ok (.iload_n 0, 1) := by decide +kernel
theorem d_M_waysOf_10 : decode b_M_waysOf 10 = .ok (.iconst 2, 1) := by decide +kernel
theorem d_M_waysOf_11 : decode b_M_waysOf 11 = .ok (.if_icmp .ne 7, 3) := by decide +kernel
theorem d_M_waysOf_14 : decode b_M_waysOf 14 = .ok (.iconst 2, 1) := by decide +kernel
theorem d_M_waysOf_15 : decode b_M_waysOf 15 = .ok (.goto 5, 3) := by decide +kernel
theorem d_M_waysOf_18 : decode b_M_waysOf 18 = .ok (.bipush 6, 2) := by decide +kernel
theorem d_M_waysOf_20 : decode b_M_waysOf 20 = .ok (.ireturn, 1) := by decide +kernel
theorem d_M_renamed_0 : decode b_M_renamed 0 = .ok (.iload_n 0, 1) := by decide +kernel
theorem d_M_renamed_1 : decode b_M_renamed 1 = .ok (.tableswitch 87 0 4 #[35, 37, 50, 69, 81], 35) := by decide +kernel
theorem d_M_renamed_36 : decode b_M_renamed 36 = .ok (.iload_n 1, 1) := by decide +kernel
theorem d_M_renamed_37 : decode b_M_renamed 37 = .ok (.ireturn, 1) := by decide +kernel
theorem d_M_renamed_38 : decode b_M_renamed 38 = .ok (.iload_n 1, 1) := by decide +kernel
theorem d_M_renamed_39 : decode b_M_renamed 39 = .ok (.iconst 2, 1) := by decide +kernel
theorem d_M_renamed_40 : decode b_M_renamed 40 = .ok (.if_icmp .ge 9, 3) := by decide +kernel
theorem d_M_renamed_43 : decode b_M_renamed 43 = .ok (.iconst 1, 1) := by decide +kernel
theorem d_M_renamed_44 : decode b_M_renamed 44 = .ok (.iload_n 1, 1) := by decide +kernel
theorem d_M_renamed_45 : decode b_M_renamed 45 = .ok (.isub, 1) := by decide +kernel
theorem d_M_renamed_46 : decode b_M_renamed 46 = .ok (.goto 4, 3) := by decide +kernel
theorem d_M_renamed_49 : decode b_M_renamed 49 = .ok (.iconst 2, 1) := by decide +kernel
theorem d_M_renamed_50 : decode b_M_renamed 50 = .ok (.ireturn, 1) := by decide +kernel
theorem d_M_renamed_51 : decode b_M_renamed 51 = .ok (.iload_n 1, 1) := by decide +kernel
theorem d_M_renamed_52 : decode b_M_renamed 52 = .ok (.ifCond .ne 7, 3) := by decide +kernel
theorem d_M_renamed_55 : decode b_M_renamed 55 = .ok (.iconst 2, 1) := by decide +kernel
theorem d_M_renamed_56 : decode b_M_renamed 56 = .ok (.goto 13, 3) := by decide +kernel
theorem d_M_renamed_59 : decode b_M_renamed 59 = .ok (.iload_n 1, 1) := by decide +kernel
theorem d_M_renamed_60 : decode b_M_renamed 60 = .ok (.iconst 2, 1) := by decide +kernel
theorem d_M_renamed_61 : decode b_M_renamed 61 = .ok (.if_icmp .ne 7, 3) := by decide +kernel
theorem d_M_renamed_64 : decode b_M_renamed 64 = .ok (.iconst 0, 1) := by decide +kernel
theorem d_M_renamed_65 : decode b_M_renamed 65 = .ok (.goto 4, 3) := by decide +kernel
theorem d_M_renamed_68 : decode b_M_renamed 68 = .ok (.iconst 1, 1) := by decide +kernel
theorem d_M_renamed_69 : decode b_M_renamed 69 = .ok (.ireturn, 1) := by decide +kernel
theorem d_M_renamed_70 : decode b_M_renamed 70 = .ok (.iload_n 1, 1) := by decide +kernel
theorem d_M_renamed_71 : decode b_M_renamed 71 = .ok (.ifCond .ne 7, 3) := by decide +kernel
theorem d_M_renamed_74 : decode b_M_renamed 74 = .ok (.iconst 0, 1) := by decide +kernel
theorem d_M_renamed_75 : decode b_M_renamed 75 = .ok (.goto 6, 3) := by decide +kernel
theorem d_M_renamed_78 : decode b_M_renamed 78 = .ok (.iconst 3, 1) := by decide +kernel
theorem d_M_renamed_79 : decode b_M_renamed 79 = .ok (.iload_n 1, 1) := by decide +kernel
theorem d_M_renamed_80 : decode b_M_renamed 80 = .ok (.isub, 1) := by decide +kernel
theorem d_M_renamed_81 : decode b_M_renamed 81 = .ok (.ireturn, 1) := by decide +kernel
theorem d_M_renamed_82 : decode b_M_renamed 82 = .ok (.iload_n 1, 1) := by decide +kernel
theorem d_M_renamed_83 : decode b_M_renamed 83 = .ok (.iconst 1, 1) := by decide +kernel
theorem d_M_renamed_84 : decode b_M_renamed 84 = .ok (.iadd, 1) := by decide +kernel
theorem d_M_renamed_85 : decode b_M_renamed 85 = .ok (.iconst 3, 1) := by decide +kernel
theorem d_M_renamed_86 : decode b_M_renamed 86 = .ok (.irem, 1) := by decide +kernel
theorem d_M_renamed_87 : decode b_M_renamed 87 = .ok (.ireturn, 1) := by decide +kernel
theorem d_M_renamed_88 : decode b_M_renamed 88 = .ok (.iload_n 1, 1) := by decide +kernel
theorem d_M_renamed_89 : decode b_M_renamed 89 = .ok (.iconst 2, 1) := by decide +kernel
theorem d_M_renamed_90 : decode b_M_renamed 90 = .ok (.iadd, 1) := by decide +kernel
theorem d_M_renamed_91 : decode b_M_renamed 91 = .ok (.iconst 3, 1) := by decide +kernel
theorem d_M_renamed_92 : decode b_M_renamed 92 = .ok (.irem, 1) := by decide +kernel
theorem d_M_renamed_93 : decode b_M_renamed 93 = .ok (.ireturn, 1) := by decide +kernel
theorem d_M_codeBy_0 : decode b_M_codeBy 0 = .ok (.iconst 0, 1) := by decide +kernel
theorem d_M_codeBy_1 : decode b_M_codeBy 1 = .ok (.istore_n 3, 1) := by decide +kernel
theorem d_M_codeBy_2 : decode b_M_codeBy 2 = .ok (.iconst 0, 1) := by decide +kernel
theorem d_M_codeBy_3 : decode b_M_codeBy 3 = .ok (.istore 4, 2) := by decide +kernel
theorem d_M_codeBy_5 : decode b_M_codeBy 5 = .ok (.iload 4, 2) := by decide +kernel
theorem d_M_codeBy_7 : decode b_M_codeBy 7 = .ok (.iload_n 1, 1) := by decide +kernel
theorem d_M_codeBy_8 : decode b_M_codeBy 8 = .ok (.if_icmp .ge 63, 3) := by decide +kernel
theorem d_M_codeBy_11 : decode b_M_codeBy 11 = .ok (.iconst 0, 1) := by decide +kernel
theorem d_M_codeBy_12 : decode b_M_codeBy 12 = .ok (.istore 5, 2) := by decide +kernel
theorem d_M_codeBy_14 : decode b_M_codeBy 14 = .ok (.iload 5, 2) := by decide +kernel
theorem d_M_codeBy_16 : decode b_M_codeBy 16 = .ok (.iload_n 1, 1) := by decide +kernel
theorem d_M_codeBy_17 : decode b_M_codeBy 17 = .ok (.if_icmp .ge 48, 3) := by decide +kernel
theorem d_M_codeBy_20 : decode b_M_codeBy 20 = .ok (.iload_n 3, 1) := by decide +kernel
theorem d_M_codeBy_21 : decode b_M_codeBy 21 = .ok (.iload_n 2, 1) := by decide +kernel
theorem d_M_codeBy_22 : decode b_M_codeBy 22 = .ok (.aload_n 0, 1) := by decide +kernel
theorem d_M_codeBy_23 : decode b_M_codeBy 23 = .ok (.getfield 28, 3) := by decide +kernel
theorem d_M_codeBy_26 : decode b_M_codeBy 26 = .ok (.iload_n 1, 1) := by decide +kernel
theorem d_M_codeBy_27 : decode b_M_codeBy 27 = .ok (.iload 4, 2) := by decide +kernel
theorem d_M_codeBy_29 : decode b_M_codeBy 29 = .ok (.imul, 1) := by decide +kernel
theorem d_M_codeBy_30 : decode b_M_codeBy 30 = .ok (.iload 5, 2) := by decide +kernel
theorem d_M_codeBy_32 : decode b_M_codeBy 32 = .ok (.iadd, 1) := by decide +kernel
theorem d_M_codeBy_33 : decode b_M_codeBy 33 = .ok (.iaload, 1) := by decide +kernel
theorem d_M_codeBy_34 : decode b_M_codeBy 34 = .ok (.invokestatic 73, 3) := by decide +kernel
theorem d_M_codeBy_37 : decode b_M_codeBy 37 = .ok (.iload_n 1, 1) := by decide +kernel
theorem d_M_codeBy_38 : decode b_M_codeBy 38 = .ok (.iload_n 1, 1) := by decide +kernel
theorem d_M_codeBy_39 : decode b_M_codeBy 39 = .ok (.iload_n 2, 1) := by decide +kernel
theorem d_M_codeBy_40 : decode b_M_codeBy 40 = .ok (.iload 4, 2) := by decide +kernel
theorem d_M_codeBy_42 : decode b_M_codeBy 42 = .ok (.invokestatic 73, 3) := by decide +kernel
theorem d_M_codeBy_45 : decode b_M_codeBy 45 = .ok (.imul, 1) := by decide +kernel
theorem d_M_codeBy_46 : decode b_M_codeBy 46 = .ok (.iload_n 2, 1) := by decide +kernel
theorem d_M_codeBy_47 : decode b_M_codeBy 47 = .ok (.iload 5, 2) := by decide +kernel
theorem d_M_codeBy_49 : decode b_M_codeBy 49 = .ok (.invokestatic 73, 3) := by decide +kernel
theorem d_M_codeBy_52 : decode b_M_codeBy 52 = .ok (.iadd, 1) := by decide +kernel
theorem d_M_codeBy_53 : decode b_M_codeBy 53 = .ok (.invokestatic 64, 3) := by decide +kernel
theorem d_M_codeBy_56 : decode b_M_codeBy 56 = .ok (.imul, 1) := by decide +kernel
theorem d_M_codeBy_57 : decode b_M_codeBy 57 = .ok (.iadd, 1) := by decide +kernel
theorem d_M_codeBy_58 : decode b_M_codeBy 58 = .ok (.istore_n 3, 1) := by decide +kernel
theorem d_M_codeBy_59 : decode b_M_codeBy 59 = .ok (.iinc 5 1, 3) := by decide +kernel
theorem d_M_codeBy_62 : decode b_M_codeBy 62 = .ok (.goto (-48), 3) := by decide +kernel
theorem d_M_codeBy_65 : decode b_M_codeBy 65 = .ok (.iinc 4 1, 3) := by decide +kernel
theorem d_M_codeBy_68 : decode b_M_codeBy 68 = .ok (.goto (-63), 3) := by decide +kernel
theorem d_M_codeBy_71 : decode b_M_codeBy 71 = .ok (.iload_n 3, 1) := by decide +kernel
theorem d_M_codeBy_72 : decode b_M_codeBy 72 = .ok (.ireturn, 1) := by decide +kernel
theorem d_M_plainOf_0 : decode b_M_plainOf 0 = .ok (.aload_n 0, 1) := by decide +kernel
theorem d_M_plainOf_1 : decode b_M_plainOf 1 = .ok (.iload_n 1, 1) := by decide +kernel
theorem d_M_plainOf_2 : decode b_M_plainOf 2 = .ok (.iload_n 2, 1) := by decide +kernel
theorem d_M_plainOf_3 : decode b_M_plainOf 3 = .ok (.invokevirtual 76, 3) := by decide +kernel
theorem d_M_plainOf_6 : decode b_M_plainOf 6 = .ok (.iload_n 2, 1) := by decide +kernel
theorem d_M_plainOf_7 : decode b_M_plainOf 7 = .ok (.istore_n 3, 1) := by decide +kernel
theorem d_M_plainOf_8 : decode b_M_plainOf 8 = .ok (.iconst 1, 1) := by decide +kernel
theorem d_M_plainOf_9 : decode b_M_plainOf 9 = .ok (.istore 4, 2) := by decide +kernel
theorem d_M_plainOf_11 : decode b_M_plainOf 11 = .ok (.iload 4, 2) := by decide +kernel
theorem d_M_plainOf_13 : decode b_M_plainOf 13 = .ok (.iload_n 1, 1) := by decide +kernel
theorem d_M_plainOf_14 : decode b_M_plainOf 14 = .ok (.invokestatic 80, 3) := by decide +kernel
theorem d_M_plainOf_17 : decode b_M_plainOf 17 = .ok (.if_icmp .ge 31, 3) := by decide +kernel
theorem d_M_plainOf_20 : decode b_M_plainOf 20 = .ok (.aload_n 0, 1) := by decide +kernel
theorem d_M_plainOf_21 : decode b_M_plainOf 21 = .ok (.iload_n 1, 1) := by decide +kernel
theorem d_M_plainOf_22 : decode b_M_plainOf 22 = .ok (.iload 4, 2) := by decide +kernel
theorem d_M_plainOf_24 : decode b_M_plainOf 24 = .ok (.invokevirtual 83, 3) := by decide +kernel
theorem d_M_plainOf_27 : decode b_M_plainOf 27 = .ok (.istore 5, 2) := by decide +kernel
theorem d_M_plainOf_29 : decode b_M_plainOf 29 = .ok (.iload 5, 2) := by decide +kernel
theorem d_M_plainOf_31 : decode b_M_plainOf 31 = .ok (.iload_n 3, 1) := by decide +kernel
theorem d_M_plainOf_32 : decode b_M_plainOf 32 = .ok (.if_icmp .ge 8, 3) := by decide +kernel
theorem d_M_plainOf_35 : decode b_M_plainOf 35 = .ok (.iload 5, 2) := by decide +kernel
theorem d_M_plainOf_37 : decode b_M_plainOf 37 = .ok (.goto 4, 3) := by decide +kernel
theorem d_M_plainOf_40 : decode b_M_plainOf 40 = .ok (.iload_n 3, 1) := by decide +kernel
theorem d_M_plainOf_41 : decode b_M_plainOf 41 = .ok (.istore_n 3, 1) := by decide +kernel
theorem d_M_plainOf_42 : decode b_M_plainOf 42 = .ok (.iinc 4 1, 3) := by decide +kernel
theorem d_M_plainOf_45 : decode b_M_plainOf 45 = .ok (.goto (-34), 3) := by decide +kernel
theorem d_M_plainOf_48 : decode b_M_plainOf 48 = .ok (.iload_n 3, 1) := by decide +kernel
theorem d_M_plainOf_49 : decode b_M_plainOf 49 = .ok (.ireturn, 1) := by decide +kernel
theorem d_M_init_0 : decode b_M_init 0 = .ok (.aload_n 0, 1) := by decide +kernel
theorem d_M_init_1 : decode b_M_init 1 = .ok (.invokespecial 1, 3) := by decide +kernel
theorem d_M_init_4 : decode b_M_init 4 = .ok (.aload_n 0, 1) := by decide +kernel
theorem d_M_init_5 : decode b_M_init 5 = .ok (.sipush 176, 3) := by decide +kernel
theorem d_M_init_8 : decode b_M_init 8 = .ok (.newarray .int, 2) := by decide +kernel
theorem d_M_init_10 : decode b_M_init 10 = .ok (.putfield 7, 3) := by decide +kernel
theorem d_M_init_13 : decode b_M_init 13 = .ok (.aload_n 0, 1) := by decide +kernel
theorem d_M_init_14 : decode b_M_init 14 = .ok (.sipush 176, 3) := by decide +kernel
theorem d_M_init_17 : decode b_M_init 17 = .ok (.newarray .int, 2) := by decide +kernel
theorem d_M_init_19 : decode b_M_init 19 = .ok (.putfield 13, 3) := by decide +kernel
theorem d_M_init_22 : decode b_M_init 22 = .ok (.aload_n 0, 1) := by decide +kernel
theorem d_M_init_23 : decode b_M_init 23 = .ok (.sipush 704, 3) := by decide +kernel
theorem d_M_init_26 : decode b_M_init 26 = .ok (.newarray .int, 2) := by decide +kernel
theorem d_M_init_28 : decode b_M_init 28 = .ok (.putfield 16, 3) := by decide +kernel
theorem d_M_init_31 : decode b_M_init 31 = .ok (.aload_n 0, 1) := by decide +kernel
theorem d_M_init_32 : decode b_M_init 32 = .ok (.sipush 176, 3) := by decide +kernel
theorem d_M_init_35 : decode b_M_init 35 = .ok (.newarray .int, 2) := by decide +kernel
theorem d_M_init_37 : decode b_M_init 37 = .ok (.putfield 19, 3) := by decide +kernel
theorem d_M_init_40 : decode b_M_init 40 = .ok (.aload_n 0, 1) := by decide +kernel
theorem d_M_init_41 : decode b_M_init 41 = .ok (.sipush 3341, 3) := by decide +kernel
theorem d_M_init_44 : decode b_M_init 44 = .ok (.newarray .int, 2) := by decide +kernel
theorem d_M_init_46 : decode b_M_init 46 = .ok (.putfield 22, 3) := by decide +kernel
theorem d_M_init_49 : decode b_M_init 49 = .ok (.aload_n 0, 1) := by decide +kernel
theorem d_M_init_50 : decode b_M_init 50 = .ok (.iconst 5, 1) := by decide +kernel
theorem d_M_init_51 : decode b_M_init 51 = .ok (.newarray .int, 2) := by decide +kernel
theorem d_M_init_53 : decode b_M_init 53 = .ok (.putfield 25, 3) := by decide +kernel
theorem d_M_init_56 : decode b_M_init 56 = .ok (.aload_n 0, 1) := by decide +kernel
theorem d_M_init_57 : decode b_M_init 57 = .ok (.bipush 9, 2) := by decide +kernel
theorem d_M_init_59 : decode b_M_init 59 = .ok (.newarray .int, 2) := by decide +kernel
theorem d_M_init_61 : decode b_M_init 61 = .ok (.putfield 28, 3) := by decide +kernel
theorem d_M_init_64 : decode b_M_init 64 = .ok (.aload_n 0, 1) := by decide +kernel
theorem d_M_init_65 : decode b_M_init 65 = .ok (.bipush 16, 2) := by decide +kernel
theorem d_M_init_67 : decode b_M_init 67 = .ok (.newarray .int, 2) := by decide +kernel
theorem d_M_init_69 : decode b_M_init 69 = .ok (.putfield 31, 3) := by decide +kernel
theorem d_M_init_72 : decode b_M_init 72 = .ok (.aload_n 0, 1) := by decide +kernel
theorem d_M_init_73 : decode b_M_init 73 = .ok (.sipush 16705, 3) := by decide +kernel
theorem d_M_init_76 : decode b_M_init 76 = .ok (.newarray .int, 2) := by decide +kernel
theorem d_M_init_78 : decode b_M_init 78 = .ok (.putfield 34, 3) := by decide +kernel
theorem d_M_init_81 : decode b_M_init 81 = .ok (.aload_n 0, 1) := by decide +kernel
theorem d_M_init_82 : decode b_M_init 82 = .ok (.sipush 165, 3) := by decide +kernel
theorem d_M_init_85 : decode b_M_init 85 = .ok (.newarray .int, 2) := by decide +kernel
theorem d_M_init_87 : decode b_M_init 87 = .ok (.putfield 37, 3) := by decide +kernel
theorem d_M_init_90 : decode b_M_init 90 = .ok (.aload_n 0, 1) := by decide +kernel
theorem d_M_init_91 : decode b_M_init 91 = .ok (.bipush 12, 2) := by decide +kernel
theorem d_M_init_93 : decode b_M_init 93 = .ok (.newarray .int, 2) := by decide +kernel
theorem d_M_init_95 : decode b_M_init 95 = .ok (.putfield 40, 3) := by decide +kernel
theorem d_M_init_98 : decode b_M_init 98 = .ok (.aload_n 0, 1) := by decide +kernel
theorem d_M_init_99 : decode b_M_init 99 = .ok (.bipush 60, 2) := by decide +kernel
theorem d_M_init_101 : decode b_M_init 101 = .ok (.newarray .int, 2) := by decide +kernel
theorem d_M_init_103 : decode b_M_init 103 = .ok (.putfield 43, 3) := by decide +kernel
theorem d_M_init_106 : decode b_M_init 106 = .ok (.aload_n 0, 1) := by decide +kernel
theorem d_M_init_107 : decode b_M_init 107 = .ok (.sipush 660, 3) := by decide +kernel
theorem d_M_init_110 : decode b_M_init 110 = .ok (.newarray .int, 2) := by decide +kernel
theorem d_M_init_112 : decode b_M_init 112 = .ok (.putfield 46, 3) := by decide +kernel
theorem d_M_init_115 : decode b_M_init 115 = .ok (.aload_n 0, 1) := by decide +kernel
theorem d_M_init_116 : decode b_M_init 116 = .ok (.iconst 5, 1) := by decide +kernel
theorem d_M_init_117 : decode b_M_init 117 = .ok (.newarray .int, 2) := by decide +kernel
theorem d_M_init_119 : decode b_M_init 119 = .ok (.putfield 49, 3) := by decide +kernel
theorem d_M_init_122 : decode b_M_init 122 = .ok (.aload_n 0, 1) := by decide +kernel
theorem d_M_init_123 : decode b_M_init 123 = .ok (.getfield 7, 3) := by decide +kernel
theorem d_M_init_126 : decode b_M_init 126 = .ok (.iconst 0, 1) := by decide +kernel
theorem d_M_init_127 : decode b_M_init 127 = .ok (.iconst 2, 1) := by decide +kernel
theorem d_M_init_128 : decode b_M_init 128 = .ok (.iastore, 1) := by decide +kernel
theorem d_M_init_129 : decode b_M_init 129 = .ok (.iconst 0, 1) := by decide +kernel
theorem d_M_init_130 : decode b_M_init 130 = .ok (.istore_n 1, 1) := by decide +kernel
theorem d_M_init_131 : decode b_M_init 131 = .ok (.iconst 1, 1) := by decide +kernel
theorem d_M_init_132 : decode b_M_init 132 = .ok (.istore_n 2, 1) := by decide +kernel
theorem d_M_init_133 : decode b_M_init 133 = .ok (.iload_n 2, 1) := by decide +kernel
theorem d_M_init_134 : decode b_M_init 134 = .ok (.iconst 3, 1) := by decide +kernel
theorem d_M_init_135 : decode b_M_init 135 = .ok (.if_icmp .gt 52, 3) := by decide +kernel
theorem d_M_init_138 : decode b_M_init 138 = .ok (.aload_n 0, 1) := by decide +kernel
theorem d_M_init_139 : decode b_M_init 139 = .ok (.getfield 25, 3) := by decide +kernel
theorem d_M_init_142 : decode b_M_init 142 = .ok (.iload_n 2, 1) := by decide +kernel
theorem d_M_init_143 : decode b_M_init 143 = .ok (.iload_n 1, 1) := by decide +kernel
theorem d_M_init_144 : decode b_M_init 144 = .ok (.iastore, 1) := by decide +kernel
theorem d_M_init_145 : decode b_M_init 145 = .ok (.iconst 0, 1) := by decide +kernel
theorem d_M_init_146 : decode b_M_init 146 = .ok (.istore_n 3, 1) := by decide +kernel
theorem d_M_init_147 : decode b_M_init 147 = .ok (.iload_n 3, 1) := by decide +kernel
theorem d_M_init_148 : decode b_M_init 148 = .ok (.iload_n 2, 1) := by decide +kernel
theorem d_M_init_149 : decode b_M_init 149 = .ok (.invokestatic 52, 3) := by decide +kernel
theorem d_M_init_152 : decode b_M_init 152 = .ok (.if_icmp .ge 29, 3) := by decide +kernel
theorem d_M_init_155 : decode b_M_init 155 = .ok (.aload_n 0, 1) := by decide +kernel
theorem d_M_init_156 : decode b_M_init 156 = .ok (.iload_n 2, 1) := by decide +kernel
theorem d_M_init_157 : decode b_M_init 157 = .ok (.iload_n 3, 1) := by decide +kernel
theorem d_M_init_158 : decode b_M_init 158 = .ok (.invokevirtual 56, 3) := by decide +kernel
theorem d_M_init_161 : decode b_M_init 161 = .ok (.iload_n 3, 1) := by decide +kernel
theorem d_M_init_162 : decode b_M_init 162 = .ok (.if_icmp .ne 13, 3) := by decide +kernel
theorem d_M_init_165 : decode b_M_init 165 = .ok (.aload_n 0, 1) := by decide +kernel
theorem d_M_init_166 : decode b_M_init 166 = .ok (.getfield 22, 3) := by decide +kernel
theorem d_M_init_169 : decode b_M_init 169 = .ok (.iload_n 1, 1) := by decide +kernel
theorem d_M_init_170 : decode b_M_init 170 = .ok (.iload_n 3, 1) := by decide +kernel
theorem d_M_init_171 : decode b_M_init 171 = .ok (.iastore, 1) := by decide +kernel
theorem d_M_init_172 : decode b_M_init 172 = .ok (.iinc 1 1, 3) := by decide +kernel
theorem d_M_init_175 : decode b_M_init 175 = .ok (.iinc 3 1, 3) := by decide +kernel
theorem d_M_init_178 : decode b_M_init 178 = .ok (.goto (-31), 3) := by decide +kernel
theorem d_M_init_181 : decode b_M_init 181 = .ok (.iinc 2 1, 3) := by decide +kernel
theorem d_M_init_184 : decode b_M_init 184 = .ok (.goto (-51), 3) := by decide +kernel
theorem d_M_init_187 : decode b_M_init 187 = .ok (.aload_n 0, 1) := by decide +kernel
theorem d_M_init_188 : decode b_M_init 188 = .ok (.getfield 25, 3) := by decide +kernel
theorem d_M_init_191 : decode b_M_init 191 = .ok (.iconst 4, 1) := by decide +kernel
theorem d_M_init_192 : decode b_M_init 192 = .ok (.iload_n 1, 1) := by decide +kernel
theorem d_M_init_193 : decode b_M_init 193 = .ok (.iastore, 1) := by decide +kernel
theorem d_M_init_194 : decode b_M_init 194 = .ok (.return_, 1) := by decide +kernel
theorem d_M_in_0 : decode b_M_in 0 = .ok (.lload_n 0, 1) := by decide +kernel
theorem d_M_in_1 : decode b_M_in 1 = .ok (.lload_n 2, 1) := by decide +kernel
theorem d_M_in_2 : decode b_M_in 2 = .ok (.lcmp, 1) := by decide +kernel
theorem d_M_in_3 : decode b_M_in 3 = .ok (.ifCond .lt 14, 3) := by decide +kernel
theorem d_M_in_6 : decode b_M_in 6 = .ok (.lload_n 0, 1) := by decide +kernel
theorem d_M_in_7 : decode b_M_in 7 = .ok (.lload 4, 2) := by decide +kernel
theorem d_M_in_9 : decode b_M_in 9 = .ok (.lcmp, 1) := by decide +kernel
theorem d_M_in_10 : decode b_M_in 10 = .ok (.ifCond .gt 7, 3) := by decide +kernel
theorem d_M_in_13 : decode b_M_in 13 = .ok (.iconst 1, 1) := by decide +kernel
theorem d_M_in_14 : decode b_M_in 14 = .ok (.goto 4, 3) := by decide +kernel
theorem d_M_in_17 : decode b_M_in 17 = .ok (.iconst 0, 1) := by decide +kernel
theorem d_M_in_18 : decode b_M_in 18 = .ok (.ireturn, 1) := by decide +kernel
theorem d_M_isWorld_0 : decode b_M_isWorld 0 = .ok (.iload_n 0, 1) := by decide +kernel
theorem d_M_isWorld_1 : decode b_M_isWorld 1 = .ok (.i2l, 1) := by decide +kernel
theorem d_M_isWorld_2 : decode b_M_isWorld 2 = .ok (.lconst 1, 1) := by decide +kernel
theorem d_M_isWorld_3 : decode b_M_isWorld 3 = .ok (.ldc2_w 67, 3) := by decide +kernel
theorem d_M_isWorld_6 : decode b_M_isWorld 6 = .ok (.invokestatic 69, 3) := by decide +kernel
theorem d_M_isWorld_9 : decode b_M_isWorld 9 = .ok (.ifCond .eq 23, 3) := by decide +kernel
theorem d_M_isWorld_12 : decode b_M_isWorld 12 = .ok (.iload_n 1, 1) := by decide +kernel
theorem d_M_isWorld_13 : decode b_M_isWorld 13 = .ok (.i2l, 1) := by decide +kernel
theorem d_M_isWorld_14 : decode b_M_isWorld 14 = .ok (.lconst 0, 1) := by decide +kernel
theorem d_M_isWorld_15 : decode b_M_isWorld 15 = .ok (.iload_n 0, 1) := by decide +kernel
theorem d_M_isWorld_16 : decode b_M_isWorld 16 = .ok (.invokestatic 52, 3) := by decide +kernel
theorem d_M_isWorld_19 : decode b_M_isWorld 19 = .ok (.i2l, 1) := by decide +kernel
theorem d_M_isWorld_20 : decode b_M_isWorld 20 = .ok (.lconst 1, 1) := by decide +kernel
theorem d_M_isWorld_21 : decode b_M_isWorld 21 = .ok (.lsub, 1) := by decide +kernel
theorem d_M_isWorld_22 : decode b_M_isWorld 22 = .ok (.invokestatic 69, 3) := by decide +kernel
theorem d_M_isWorld_25 : decode b_M_isWorld 25 = .ok (.ifCond .eq 7, 3) := by decide +kernel
theorem d_M_isWorld_28 : decode b_M_isWorld 28 = .ok (.iconst 1, 1) := by decide +kernel
theorem d_M_isWorld_29 : decode b_M_isWorld 29 = .ok (.goto 4, 3) := by decide +kernel
theorem d_M_isWorld_32 : decode b_M_isWorld 32 = .ok (.iconst 0, 1) := by decide +kernel
theorem d_M_isWorld_33 : decode b_M_isWorld 33 = .ok (.ireturn, 1) := by decide +kernel
theorem d_M_remember_0 : decode b_M_remember 0 = .ok (.iconst 0, 1) := by decide +kernel
theorem d_M_remember_1 : decode b_M_remember 1 = .ok (.istore_n 1, 1) := by decide +kernel
theorem d_M_remember_2 : decode b_M_remember 2 = .ok (.iload_n 1, 1) := by decide +kernel
theorem d_M_remember_3 : decode b_M_remember 3 = .ok (.sipush 176, 3) := by decide +kernel
theorem d_M_remember_6 : decode b_M_remember 6 = .ok (.if_icmp .ge 21, 3) := by decide +kernel
theorem d_M_remember_9 : decode b_M_remember 9 = .ok (.aload_n 0, 1) := by decide +kernel
theorem d_M_remember_10 : decode b_M_remember 10 = .ok (.getfield 13, 3) := by decide +kernel
theorem d_M_remember_13 : decode b_M_remember 13 = .ok (.iload_n 1, 1) := by decide +kernel
theorem d_M_remember_14 : decode b_M_remember 14 = .ok (.aload_n 0, 1) := by decide +kernel
theorem d_M_remember_15 : decode b_M_remember 15 = .ok (.getfield 7, 3) := by decide +kernel
theorem d_M_remember_18 : decode b_M_remember 18 = .ok (.iload_n 1, 1) := by decide +kernel
theorem d_M_remember_19 : decode b_M_remember 19 = .ok (.iaload, 1) := by decide +kernel
theorem d_M_remember_20 : decode b_M_remember 20 = .ok (.iastore, 1) := by decide +kernel
theorem d_M_remember_21 : decode b_M_remember 21 = .ok (.iinc 1 1, 3) := by decide +kernel
theorem d_M_remember_24 : decode b_M_remember 24 = .ok (.goto (-22), 3) := by decide +kernel
theorem d_M_remember_27 : decode b_M_remember 27 = .ok (.return_, 1) := by decide +kernel
theorem d_M_acted_0 : decode b_M_acted 0 = .ok (.aload_n 0, 1) := by decide +kernel
theorem d_M_acted_1 : decode b_M_acted 1 = .ok (.getfield 60, 3) := by decide +kernel
theorem d_M_acted_4 : decode b_M_acted 4 = .ok (.iconst 4, 1) := by decide +kernel
theorem d_M_acted_5 : decode b_M_acted 5 = .ok (.if_icmp .ne 44, 3) := by decide +kernel
theorem d_M_acted_8 : decode b_M_acted 8 = .ok (.iconst 0, 1) := by decide +kernel
theorem d_M_acted_9 : decode b_M_acted 9 = .ok (.istore_n 2, 1) := by decide +kernel
theorem d_M_acted_10 : decode b_M_acted 10 = .ok (.iload_n 2, 1) := by decide +kernel
theorem d_M_acted_11 : decode b_M_acted 11 = .ok (.sipush 528, 3) := by decide +kernel
theorem d_M_acted_14 : decode b_M_acted 14 = .ok (.if_icmp .ge 25, 3) := by decide +kernel
theorem d_M_acted_17 : decode b_M_acted 17 = .ok (.aload_n 0, 1) := by decide +kernel
theorem d_M_acted_18 : decode b_M_acted 18 = .ok (.getfield 16, 3) := by decide +kernel
theorem d_M_acted_21 : decode b_M_acted 21 = .ok (.iload_n 2, 1) := by decide +kernel
theorem d_M_acted_22 : decode b_M_acted 22 = .ok (.aload_n 0, 1) := by decide +kernel
theorem d_M_acted_23 : decode b_M_acted 23 = .ok (.getfield 16, 3) := by decide +kernel
theorem d_M_acted_26 : decode b_M_acted 26 = .ok (.iload_n 2, 1) := by decide +kernel
theorem d_M_acted_27 : decode b_M_acted 27 = .ok (.sipush 176, 3) := by decide +kernel
theorem d_M_acted_30 : decode b_M_acted 30 = .ok (.iadd, 1) := by decide +kernel
theorem d_M_acted_31 : decode b_M_acted 31 = .ok (.iaload, 1) := by decide +kernel
theorem d_M_acted_32 : decode b_M_acted 32 = .ok (.iastore, 1) := by decide +kernel
theorem d_M_acted_33 : decode b_M_acted 33 = .ok (.iinc 2 1, 3) := by decide +kernel
theorem d_M_acted_36 : decode b_M_acted 36 = .ok (.goto (-26), 3) := by decide +kernel
theorem d_M_acted_39 : decode b_M_acted 39 = .ok (.aload_n 0, 1) := by decide +kernel
theorem d_M_acted_40 : decode b_M_acted 40 = .ok (.dup, 1) := by decide +kernel
theorem d_M_acted_41 : decode b_M_acted 41 = .ok (.getfield 60, 3) := by decide +kernel
theorem d_M_acted_44 : decode b_M_acted 44 = .ok (.iconst 1, 1) := by decide +kernel
theorem d_M_acted_45 : decode b_M_acted 45 = .ok (.isub, 1) := by decide +kernel
theorem d_M_acted_46 : decode b_M_acted 46 = .ok (.putfield 60, 3) := by decide +kernel
theorem d_M_acted_49 : decode b_M_acted 49 = .ok (.iconst 0, 1) := by decide +kernel
theorem d_M_acted_50 : decode b_M_acted 50 = .ok (.istore_n 2, 1) := by decide +kernel
theorem d_M_acted_51 : decode b_M_acted 51 = .ok (.iload_n 2, 1) := by decide +kernel
theorem d_M_acted_52 : decode b_M_acted 52 = .ok (.sipush 176, 3) := by decide +kernel
theorem d_M_acted_55 : decode b_M_acted 55 = .ok (.if_icmp .ge 30, 3) := by decide +kernel
theorem d_M_acted_58 : decode b_M_acted 58 = .ok (.aload_n 0, 1) := by decide +kernel
theorem d_M_acted_59 : decode b_M_acted 59 = .ok (.getfield 16, 3) := by decide +kernel
theorem d_M_acted_62 : decode b_M_acted 62 = .ok (.sipush 176, 3) := by decide +kernel
theorem d_M_acted_65 : decode b_M_acted 65 = .ok (.aload_n 0, 1) := by decide +kernel
theorem d_M_acted_66 : decode b_M_acted 66 = .ok (.getfield 60, 3) := by decide +kernel
theorem d_M_acted_69 : decode b_M_acted 69 = .ok (.imul, 1) := by decide +kernel
theorem d_M_acted_70 : decode b_M_acted 70 = .ok (.iload_n 2, 1) := by decide +kernel
theorem d_M_acted_71 : decode b_M_acted 71 = .ok (.iadd, 1) := by decide +kernel
theorem d_M_acted_72 : decode b_M_acted 72 = .ok (.aload_n 0, 1) := by decide +kernel
theorem d_M_acted_73 : decode b_M_acted 73 = .ok (.getfield 13, 3) := by decide +kernel
theorem d_M_acted_76 : decode b_M_acted 76 = .ok (.iload_n 2, 1) := by decide +kernel
theorem d_M_acted_77 : decode b_M_acted 77 = .ok (.iaload, 1) := by decide +kernel
theorem d_M_acted_78 : decode b_M_acted 78 = .ok (.iastore, 1) := by decide +kernel
theorem d_M_acted_79 : decode b_M_acted 79 = .ok (.iinc 2 1, 3) := by decide +kernel
theorem d_M_acted_82 : decode b_M_acted 82 = .ok (.goto (-31), 3) := by decide +kernel
theorem d_M_acted_85 : decode b_M_acted 85 = .ok (.aload_n 0, 1) := by decide +kernel
theorem d_M_acted_86 : decode b_M_acted 86 = .ok (.dup, 1) := by decide +kernel
theorem d_M_acted_87 : decode b_M_acted 87 = .ok (.getfield 60, 3) := by decide +kernel
theorem d_M_acted_90 : decode b_M_acted 90 = .ok (.iconst 1, 1) := by decide +kernel
theorem d_M_acted_91 : decode b_M_acted 91 = .ok (.iadd, 1) := by decide +kernel
theorem d_M_acted_92 : decode b_M_acted 92 = .ok (.putfield 60, 3) := by decide +kernel
theorem d_M_acted_95 : decode b_M_acted 95 = .ok (.iload_n 1, 1) := by decide +kernel
theorem d_M_acted_96 : decode b_M_acted 96 = .ok (.ireturn, 1) := by decide +kernel
theorem d_M_take_0 : decode b_M_take 0 = .ok (.iload_n 1, 1) := by decide +kernel
theorem d_M_take_1 : decode b_M_take 1 = .ok (.iload_n 2, 1) := by decide +kernel
theorem d_M_take_2 : decode b_M_take 2 = .ok (.invokestatic 134, 3) := by decide +kernel
theorem d_M_take_5 : decode b_M_take 5 = .ok (.ifCond .ne 6, 3) := by decide +kernel
theorem d_M_take_8 : decode b_M_take 8 = .ok (.bipush (-2), 2) := by decide +kernel
theorem d_M_take_10 : decode b_M_take 10 = .ok (.ireturn, 1) := by decide +kernel
theorem d_M_take_11 : decode b_M_take 11 = .ok (.aload_n 0, 1) := by decide +kernel
theorem d_M_take_12 : decode b_M_take 12 = .ok (.getfield 7, 3) := by decide +kernel
theorem d_M_take_15 : decode b_M_take 15 = .ok (.iconst 0, 1) := by decide +kernel
theorem d_M_take_16 : decode b_M_take 16 = .ok (.iaload, 1) := by decide +kernel
theorem d_M_take_17 : decode b_M_take 17 = .ok (.iload_n 1, 1) := by decide +kernel
theorem d_M_take_18 : decode b_M_take 18 = .ok (.if_icmp .ne 16, 3) := by decide +kernel
theorem d_M_take_21 : decode b_M_take 21 = .ok (.aload_n 0, 1) := by decide +kernel
theorem d_M_take_22 : decode b_M_take 22 = .ok (.getfield 7, 3) := by decide +kernel
theorem d_M_take_25 : decode b_M_take 25 = .ok (.iconst 1, 1) := by decide +kernel
theorem d_M_take_26 : decode b_M_take 26 = .ok (.iaload, 1) := by decide +kernel
theorem d_M_take_27 : decode b_M_take 27 = .ok (.iload_n 2, 1) := by decide +kernel
theorem d_M_take_28 : decode b_M_take 28 = .ok (.if_icmp .ne 6, 3) := by decide +kernel
theorem d_M_take_31 : decode b_M_take 31 = .ok (.bipush (-5), 2) := by decide +kernel
theorem d_M_take_33 : decode b_M_take 33 = .ok (.ireturn, 1) := by decide +kernel
theorem d_M_take_34 : decode b_M_take 34 = .ok (.aload_n 0, 1) := by decide +kernel
theorem d_M_take_35 : decode b_M_take 35 = .ok (.invokevirtual 128, 3) := by decide +kernel
theorem d_M_take_38 : decode b_M_take 38 = .ok (.aload_n 0, 1) := by decide +kernel
theorem d_M_take_39 : decode b_M_take 39 = .ok (.getfield 7, 3) := by decide +kernel
theorem d_M_take_42 : decode b_M_take 42 = .ok (.iconst 0, 1) := by decide +kernel
theorem d_M_take_43 : decode b_M_take 43 = .ok (.iload_n 1, 1) := by decide +kernel
theorem d_M_take_44 : decode b_M_take 44 = .ok (.iastore, 1) := by decide +kernel
theorem d_M_take_45 : decode b_M_take 45 = .ok (.aload_n 0, 1) := by decide +kernel
theorem d_M_take_46 : decode b_M_take 46 = .ok (.getfield 7, 3) := by decide +kernel
theorem d_M_take_49 : decode b_M_take 49 = .ok (.iconst 1, 1) := by decide +kernel
theorem d_M_take_50 : decode b_M_take 50 = .ok (.iload_n 2, 1) := by decide +kernel
theorem d_M_take_51 : decode b_M_take 51 = .ok (.iastore, 1) := by decide +kernel
theorem d_M_take_52 : decode b_M_take 52 = .ok (.aload_n 0, 1) := by decide +kernel
theorem d_M_take_53 : decode b_M_take 53 = .ok (.aload_n 0, 1) := by decide +kernel
theorem d_M_take_54 : decode b_M_take 54 = .ok (.getfield 13, 3) := by decide +kernel
theorem d_M_take_57 : decode b_M_take 57 = .ok (.iconst 1, 1) := by decide +kernel
theorem d_M_take_58 : decode b_M_take 58 = .ok (.iaload, 1) := by decide +kernel
theorem d_M_take_59 : decode b_M_take 59 = .ok (.invokevirtual 131, 3) := by decide +kernel
theorem d_M_take_62 : decode b_M_take 62 = .ok (.ireturn, 1) := by decide +kernel
theorem d_M_isThing_0 : decode b_M_isThing 0 = .ok (.iload_n 1, 1) := by decide +kernel
theorem d_M_isThing_1 : decode b_M_isThing 1 = .ok (.i2l, 1) := by decide +kernel
theorem d_M_isThing_2 : decode b_M_isThing 2 = .ok (.lconst 0, 1) := by decide +kernel
theorem d_M_isThing_3 : decode b_M_isThing 3 = .ok (.aload_n 0, 1) := by decide +kernel
theorem d_M_isThing_4 : decode b_M_isThing 4 = .ok (.getfield 7, 3) := by decide +kernel
theorem d_M_isThing_7 : decode b_M_isThing 7 = .ok (.iconst 0, 1) := by decide +kernel
theorem d_M_isThing_8 : decode b_M_isThing 8 = .ok (.iaload, 1) := by decide +kernel
theorem d_M_isThing_9 : decode b_M_isThing 9 = .ok (.i2l, 1) := by decide +kernel
theorem d_M_isThing_10 : decode b_M_isThing 10 = .ok (.lconst 1, 1) := by decide +kernel
theorem d_M_isThing_11 : decode b_M_isThing 11 = .ok (.lsub, 1) := by decide +kernel
theorem d_M_isThing_12 : decode b_M_isThing 12 = .ok (.invokestatic 69, 3) := by decide +kernel
theorem d_M_isThing_15 : decode b_M_isThing 15 = .ok (.ireturn, 1) := by decide +kernel
theorem d_M_comes_0 : decode b_M_comes 0 = .ok (.iload_n 1, 1) := by decide +kernel
theorem d_M_comes_1 : decode b_M_comes 1 = .ok (.iload_n 0, 1) := by decide +kernel
theorem d_M_comes_2 : decode b_M_comes 2 = .ok (.iload_n 0, 1) := by decide +kernel
theorem d_M_comes_3 : decode b_M_comes 3 = .ok (.iload_n 2, 1) := by decide +kernel
theorem d_M_comes_4 : decode b_M_comes 4 = .ok (.imul, 1) := by decide +kernel
theorem d_M_comes_5 : decode b_M_comes 5 = .ok (.iload_n 3, 1) := by decide +kernel
theorem d_M_comes_6 : decode b_M_comes 6 = .ok (.iadd, 1) := by decide +kernel
theorem d_M_comes_7 : decode b_M_comes 7 = .ok (.invokestatic 64, 3) := by decide +kernel
theorem d_M_comes_10 : decode b_M_comes 10 = .ok (.idiv, 1) := by decide +kernel
theorem d_M_comes_11 : decode b_M_comes 11 = .ok (.iload_n 0, 1) := by decide +kernel
theorem d_M_comes_12 : decode b_M_comes 12 = .ok (.irem, 1) := by decide +kernel
theorem d_M_comes_13 : decode b_M_comes 13 = .ok (.ireturn, 1) := by decide +kernel
theorem d_M_becomes_0 : decode b_M_becomes 0 = .ok (.aload_n 0, 1) := by decide +kernel
theorem d_M_becomes_1 : decode b_M_becomes 1 = .ok (.invokevirtual 128, 3) := by decide +kernel
theorem d_M_becomes_4 : decode b_M_becomes 4 = .ok (.aload_n 0, 1) := by decide +kernel
theorem d_M_becomes_5 : decode b_M_becomes 5 = .ok (.getfield 7, 3) := by decide +kernel
theorem d_M_becomes_8 : decode b_M_becomes 8 = .ok (.iconst 1, 1) := by decide +kernel
theorem d_M_becomes_9 : decode b_M_becomes 9 = .ok (.iload_n 1, 1) := by decide +kernel
theorem d_M_becomes_10 : decode b_M_becomes 10 = .ok (.iastore, 1) := by decide +kernel
theorem d_M_becomes_11 : decode b_M_becomes 11 = .ok (.aload_n 0, 1) := by decide +kernel
theorem d_M_becomes_12 : decode b_M_becomes 12 = .ok (.iload_n 1, 1) := by decide +kernel
theorem d_M_becomes_13 : decode b_M_becomes 13 = .ok (.invokevirtual 131, 3) := by decide +kernel
theorem d_M_becomes_16 : decode b_M_becomes 16 = .ok (.ireturn, 1) := by decide +kernel
theorem d_M_put_0 : decode b_M_put 0 = .ok (.aload_n 0, 1) := by decide +kernel
theorem d_M_put_1 : decode b_M_put 1 = .ok (.iload_n 1, 1) := by decide +kernel
theorem d_M_put_2 : decode b_M_put 2 = .ok (.invokevirtual 137, 3) := by decide +kernel
theorem d_M_put_5 : decode b_M_put 5 = .ok (.ifCond .eq 19, 3) := by decide +kernel
theorem d_M_put_8 : decode b_M_put 8 = .ok (.aload_n 0, 1) := by decide +kernel
theorem d_M_put_9 : decode b_M_put 9 = .ok (.iload_n 2, 1) := by decide +kernel
theorem d_M_put_10 : decode b_M_put 10 = .ok (.invokevirtual 137, 3) := by decide +kernel
theorem d_M_put_13 : decode b_M_put 13 = .ok (.ifCond .eq 11, 3) := by decide +kernel
theorem d_M_put_16 : decode b_M_put 16 = .ok (.aload_n 0, 1) := by decide +kernel
theorem d_M_put_17 : decode b_M_put 17 = .ok (.iload_n 3, 1) := by decide +kernel
theorem d_M_put_18 : decode b_M_put 18 = .ok (.invokevirtual 137, 3) := by decide +kernel
theorem d_M_put_21 : decode b_M_put 21 = .ok (.ifCond .ne 5, 3) := by decide +kernel
theorem d_M_put_24 : decode b_M_put 24 = .ok (.iconst (-1), 1) := by decide +kernel
theorem d_M_put_25 : decode b_M_put 25 = .ok (.ireturn, 1) := by decide +kernel
theorem d_M_put_26 : decode b_M_put 26 = .ok (.aload_n 0, 1) := by decide +kernel
theorem d_M_put_27 : decode b_M_put 27 = .ok (.getfield 7, 3) := by decide +kernel
theorem d_M_put_30 : decode b_M_put 30 = .ok (.iconst 0, 1) := by decide +kernel
theorem d_M_put_31 : decode b_M_put 31 = .ok (.iaload, 1) := by decide +kernel
theorem d_M_put_32 : decode b_M_put 32 = .ok (.aload_n 0, 1) := by decide +kernel
theorem d_M_put_33 : decode b_M_put 33 = .ok (.getfield 7, 3) := by decide +kernel
theorem d_M_put_36 : decode b_M_put 36 = .ok (.iconst 1, 1) := by decide +kernel
theorem d_M_put_37 : decode b_M_put 37 = .ok (.iaload, 1) := by decide +kernel
theorem d_M_put_38 : decode b_M_put 38 = .ok (.iload_n 1, 1) := by decide +kernel
theorem d_M_put_39 : decode b_M_put 39 = .ok (.iload_n 2, 1) := by decide +kernel
theorem d_M_put_40 : decode b_M_put 40 = .ok (.invokestatic 140, 3) := by decide +kernel
theorem d_M_put_43 : decode b_M_put 43 = .ok (.istore 4, 2) := by decide +kernel
theorem d_M_put_45 : decode b_M_put 45 = .ok (.iload 4, 2) := by decide +kernel
theorem d_M_put_47 : decode b_M_put 47 = .ok (.iload_n 3, 1) := by decide +kernel
theorem d_M_put_48 : decode b_M_put 48 = .ok (.if_icmp .ne 6, 3) := by decide +kernel
theorem d_M_put_51 : decode b_M_put 51 = .ok (.bipush (-5), 2) := by decide +kernel
theorem d_M_put_53 : decode b_M_put 53 = .ok (.ireturn, 1) := by decide +kernel
theorem d_M_put_54 : decode b_M_put 54 = .ok (.aload_n 0, 1) := by decide +kernel
theorem d_M_put_55 : decode b_M_put 55 = .ok (.aload_n 0, 1) := by decide +kernel
theorem d_M_put_56 : decode b_M_put 56 = .ok (.getfield 7, 3) := by decide +kernel
theorem d_M_put_59 : decode b_M_put 59 = .ok (.iconst 1, 1) := by decide +kernel
theorem d_M_put_60 : decode b_M_put 60 = .ok (.iaload, 1) := by decide +kernel
theorem d_M_put_61 : decode b_M_put 61 = .ok (.iload_n 3, 1) := by decide +kernel
theorem d_M_put_62 : decode b_M_put 62 = .ok (.iload 4, 2) := by decide +kernel
theorem d_M_put_64 : decode b_M_put 64 = .ok (.isub, 1) := by decide +kernel
theorem d_M_put_65 : decode b_M_put 65 = .ok (.aload_n 0, 1) := by decide +kernel
theorem d_M_put_66 : decode b_M_put 66 = .ok (.getfield 7, 3) := by decide +kernel
theorem d_M_put_69 : decode b_M_put 69 = .ok (.iconst 0, 1) := by decide +kernel
theorem d_M_put_70 : decode b_M_put 70 = .ok (.iaload, 1) := by decide +kernel
theorem d_M_put_71 : decode b_M_put 71 = .ok (.aload_n 0, 1) := by decide +kernel
theorem d_M_put_72 : decode b_M_put 72 = .ok (.getfield 7, 3) := by decide +kernel
theorem d_M_put_75 : decode b_M_put 75 = .ok (.iconst 0, 1) := by decide +kernel
theorem d_M_put_76 : decode b_M_put 76 = .ok (.iaload, 1) := by decide +kernel
theorem d_M_put_77 : decode b_M_put 77 = .ok (.iload_n 1, 1) := by decide +kernel
theorem d_M_put_78 : decode b_M_put 78 = .ok (.imul, 1) := by decide +kernel
theorem d_M_put_79 : decode b_M_put 79 = .ok (.iload_n 2, 1) := by decide +kernel
theorem d_M_put_80 : decode b_M_put 80 = .ok (.iadd, 1) := by decide +kernel
theorem d_M_put_81 : decode b_M_put 81 = .ok (.invokestatic 64, 3) := by decide +kernel
theorem d_M_put_84 : decode b_M_put 84 = .ok (.imul, 1) := by decide +kernel
theorem d_M_put_85 : decode b_M_put 85 = .ok (.iadd, 1) := by decide +kernel
theorem d_M_put_86 : decode b_M_put 86 = .ok (.invokevirtual 144, 3) := by decide +kernel
theorem d_M_put_89 : decode b_M_put 89 = .ok (.ireturn, 1) := by decide +kernel
theorem d_M_exchanged_0 : decode b_M_exchanged 0 = .ok (.iload_n 0, 1) := by decide +kernel
theorem d_M_exchanged_1 : decode b_M_exchanged 1 = .ok (.iload_n 1, 1) := by decide +kernel
theorem d_M_exchanged_2 : decode b_M_exchanged 2 = .ok (.if_icmp .ne 7, 3) := by decide +kernel
theorem d_M_exchanged_5 : decode b_M_exchanged 5 = .ok (.iload_n 2, 1) := by decide +kernel
theorem d_M_exchanged_6 : decode b_M_exchanged 6 = .ok (.goto 13, 3) := by decide +kernel
theorem d_M_exchanged_9 : decode b_M_exchanged 9 = .ok (.iload_n 0, 1) := by decide +kernel
theorem d_M_exchanged_10 : decode b_M_exchanged 10 = .ok (.iload_n 2, 1) := by decide +kernel
theorem d_M_exchanged_11 : decode b_M_exchanged 11 = .ok (.if_icmp .ne 7, 3) := by decide +kernel
theorem d_M_exchanged_14 : decode b_M_exchanged 14 = .ok (.iload_n 1, 1) := by decide +kernel
theorem d_M_exchanged_15 : decode b_M_exchanged 15 = .ok (.goto 4, 3) := by decide +kernel
theorem d_M_exchanged_18 : decode b_M_exchanged 18 = .ok (.iload_n 0, 1) := by decide +kernel
theorem d_M_exchanged_19 : decode b_M_exchanged 19 = .ok (.ireturn, 1) := by decide +kernel
theorem d_M_rename_0 : decode b_M_rename 0 = .ok (.aload_n 0, 1) := by decide +kernel
theorem d_M_rename_1 : decode b_M_rename 1 = .ok (.iload_n 1, 1) := by decide +kernel
theorem d_M_rename_2 : decode b_M_rename 2 = .ok (.invokevirtual 137, 3) := by decide +kernel
theorem d_M_rename_5 : decode b_M_rename 5 = .ok (.ifCond .eq 11, 3) := by decide +kernel
theorem d_M_rename_8 : decode b_M_rename 8 = .ok (.aload_n 0, 1) := by decide +kernel
theorem d_M_rename_9 : decode b_M_rename 9 = .ok (.iload_n 2, 1) := by decide +kernel
theorem d_M_rename_10 : decode b_M_rename 10 = .ok (.invokevirtual 137, 3) := by decide +kernel
theorem d_M_rename_13 : decode b_M_rename 13 = .ok (.ifCond .ne 5, 3) := by decide +kernel
theorem d_M_rename_16 : decode b_M_rename 16 = .ok (.iconst (-1), 1) := by decide +kernel
theorem d_M_rename_17 : decode b_M_rename 17 = .ok (.ireturn, 1) := by decide +kernel
theorem d_M_rename_18 : decode b_M_rename 18 = .ok (.iload_n 1, 1) := by decide +kernel
theorem d_M_rename_19 : decode b_M_rename 19 = .ok (.iload_n 2, 1) := by decide +kernel
theorem d_M_rename_20 : decode b_M_rename 20 = .ok (.if_icmp .ne 6, 3) := by decide +kernel
theorem d_M_rename_23 : decode b_M_rename 23 = .ok (.bipush (-2), 2) := by decide +kernel
theorem d_M_rename_25 : decode b_M_rename 25 = .ok (.ireturn, 1) := by decide +kernel
theorem d_M_rename_26 : decode b_M_rename 26 = .ok (.aload_n 0, 1) := by decide +kernel
theorem d_M_rename_27 : decode b_M_rename 27 = .ok (.getfield 7, 3) := by decide +kernel
theorem d_M_rename_30 : decode b_M_rename 30 = .ok (.iconst 0, 1) := by decide +kernel
theorem d_M_rename_31 : decode b_M_rename 31 = .ok (.iaload, 1) := by decide +kernel
theorem d_M_rename_32 : decode b_M_rename 32 = .ok (.istore_n 3, 1) := by decide +kernel
theorem d_M_rename_33 : decode b_M_rename 33 = .ok (.iconst 0, 1) := by decide +kernel
theorem d_M_rename_34 : decode b_M_rename 34 = .ok (.istore 4, 2) := by decide +kernel
theorem d_M_rename_36 : decode b_M_rename 36 = .ok (.aload_n 0, 1) := by decide +kernel
theorem d_M_rename_37 : decode b_M_rename 37 = .ok (.iload_n 3, 1) := by decide +kernel
theorem d_M_rename_38 : decode b_M_rename 38 = .ok (.aload_n 0, 1) := by decide +kernel
theorem d_M_rename_39 : decode b_M_rename 39 = .ok (.getfield 7, 3) := by decide +kernel
theorem d_M_rename_42 : decode b_M_rename 42 = .ok (.iconst 1, 1) := by decide +kernel
theorem d_M_rename_43 : decode b_M_rename 43 = .ok (.iaload, 1) := by decide +kernel
theorem d_M_rename_44 : decode b_M_rename 44 = .ok (.invokevirtual 76, 3) := by decide +kernel
theorem d_M_rename_47 : decode b_M_rename 47 = .ok (.iconst 0, 1) := by decide +kernel
theorem d_M_rename_48 : decode b_M_rename 48 = .ok (.istore 5, 2) := by decide +kernel
theorem d_M_rename_50 : decode b_M_rename 50 = .ok (.iload 5, 2) := by decide +kernel
theorem d_M_rename_52 : decode b_M_rename 52 = .ok (.iload_n 3, 1) := by decide +kernel
theorem d_M_rename_53 : decode b_M_rename 53 = .ok (.iload_n 3, 1) := by decide +kernel
theorem d_M_rename_54 : decode b_M_rename 54 = .ok (.imul, 1) := by decide +kernel
theorem d_M_rename_55 : decode b_M_rename 55 = .ok (.if_icmp .ge 52, 3) := by decide +kernel
theorem d_M_rename_58 : decode b_M_rename 58 = .ok (.iload 4, 2) := by decide +kernel
theorem d_M_rename_60 : decode b_M_rename 60 = .ok (.aload_n 0, 1) := by decide +kernel
theorem d_M_rename_61 : decode b_M_rename 61 = .ok (.getfield 28, 3) := by decide +kernel
theorem d_M_rename_64 : decode b_M_rename 64 = .ok (.iload 5, 2) := by decide +kernel
theorem d_M_rename_66 : decode b_M_rename 66 = .ok (.iaload, 1) := by decide +kernel
theorem d_M_rename_67 : decode b_M_rename 67 = .ok (.iload_n 1, 1) := by decide +kernel
theorem d_M_rename_68 : decode b_M_rename 68 = .ok (.iload_n 2, 1) := by decide +kernel
theorem d_M_rename_69 : decode b_M_rename 69 = .ok (.invokestatic 147, 3) := by decide +kernel
theorem d_M_rename_72 : decode b_M_rename 72 = .ok (.iload_n 3, 1) := by decide +kernel
theorem d_M_rename_73 : decode b_M_rename 73 = .ok (.iload_n 3, 1) := by decide +kernel
theorem d_M_rename_74 : decode b_M_rename 74 = .ok (.iload 5, 2) := by decide +kernel
theorem d_M_rename_76 : decode b_M_rename 76 = .ok (.iload_n 3, 1) := by decide +kernel
theorem d_M_rename_77 : decode b_M_rename 77 = .ok (.idiv, 1) := by decide +kernel
theorem d_M_rename_78 : decode b_M_rename 78 = .ok (.iload_n 1, 1) := by decide +kernel
theorem d_M_rename_79 : decode b_M_rename 79 = .ok (.iload_n 2, 1) := by decide +kernel
theorem d_M_rename_80 : decode b_M_rename 80 = .ok (.invokestatic 147, 3) := by decide +kernel
theorem d_M_rename_83 : decode b_M_rename 83 = .ok (.imul, 1) := by decide +kernel
theorem d_M_rename_84 : decode b_M_rename 84 = .ok (.iload 5, 2) := by decide +kernel
theorem d_M_rename_86 : decode b_M_rename 86 = .ok (.iload_n 3, 1) := by decide +kernel
theorem d_M_rename_87 : decode b_M_rename 87 = .ok (.irem, 1) := by decide +kernel
theorem d_M_rename_88 : decode b_M_rename 88 = .ok (.iload_n 1, 1) := by decide +kernel
theorem d_M_rename_89 : decode b_M_rename 89 = .ok (.iload_n 2, 1) := by decide +kernel
theorem d_M_rename_90 : decode b_M_rename 90 = .ok (.invokestatic 147, 3) := by decide +kernel
theorem d_M_rename_93 : decode b_M_rename 93 = .ok (.iadd, 1) := by decide +kernel
theorem d_M_rename_94 : decode b_M_rename 94 = .ok (.invokestatic 64, 3) := by decide +kernel
theorem d_M_rename_97 : decode b_M_rename 97 = .ok (.imul, 1) := by decide +kernel
theorem d_M_rename_98 : decode b_M_rename 98 = .ok (.iadd, 1) := by decide +kernel
theorem d_M_rename_99 : decode b_M_rename 99 = .ok (.istore 4, 2) := by decide +kernel
theorem d_M_rename_101 : decode b_M_rename 101 = .ok (.iinc 5 1, 3) := by decide +kernel
theorem d_M_rename_104 : decode b_M_rename 104 = .ok (.goto (-54), 3) := by decide +kernel
theorem d_M_rename_107 : decode b_M_rename 107 = .ok (.iload 4, 2) := by decide +kernel
theorem d_M_rename_109 : decode b_M_rename 109 = .ok (.aload_n 0, 1) := by decide +kernel
theorem d_M_rename_110 : decode b_M_rename 110 = .ok (.getfield 7, 3) := by decide +kernel
theorem d_M_rename_113 : decode b_M_rename 113 = .ok (.iconst 1, 1) := by decide +kernel
theorem d_M_rename_114 : decode b_M_rename 114 = .ok (.iaload, 1) := by decide +kernel
theorem d_M_rename_115 : decode b_M_rename 115 = .ok (.if_icmp .ne 8, 3) := by decide +kernel
theorem d_M_rename_118 : decode b_M_rename 118 = .ok (.bipush (-5), 2) := by decide +kernel
theorem d_M_rename_120 : decode b_M_rename 120 = .ok (.goto 9, 3) := by decide +kernel
theorem d_M_rename_123 : decode b_M_rename 123 = .ok (.aload_n 0, 1) := by decide +kernel
theorem d_M_rename_124 : decode b_M_rename 124 = .ok (.iload 4, 2) := by decide +kernel
theorem d_M_rename_126 : decode b_M_rename 126 = .ok (.invokevirtual 144, 3) := by decide +kernel
theorem d_M_rename_129 : decode b_M_rename 129 = .ok (.ireturn, 1) := by decide +kernel
theorem d_M_mirror_0 : decode b_M_mirror 0 = .ok (.aload_n 0, 1) := by decide +kernel
theorem d_M_mirror_1 : decode b_M_mirror 1 = .ok (.getfield 7, 3) := by decide +kernel
theorem d_M_mirror_4 : decode b_M_mirror 4 = .ok (.iconst 0, 1) := by decide +kernel
theorem d_M_mirror_5 : decode b_M_mirror 5 = .ok (.iaload, 1) := by decide +kernel
theorem d_M_mirror_6 : decode b_M_mirror 6 = .ok (.istore_n 1, 1) := by decide +kernel
theorem d_M_mirror_7 : decode b_M_mirror 7 = .ok (.iconst 0, 1) := by decide +kernel
theorem d_M_mirror_8 : decode b_M_mirror 8 = .ok (.istore_n 2, 1) := by decide +kernel
theorem d_M_mirror_9 : decode b_M_mirror 9 = .ok (.aload_n 0, 1) := by decide +kernel
theorem d_M_mirror_10 : decode b_M_mirror 10 = .ok (.iload_n 1, 1) := by decide +kernel
theorem d_M_mirror_11 : decode b_M_mirror 11 = .ok (.aload_n 0, 1) := by decide +kernel
theorem d_M_mirror_12 : decode b_M_mirror 12 = .ok (.getfield 7, 3) := by decide +kernel
theorem d_M_mirror_15 : decode b_M_mirror 15 = .ok (.iconst 1, 1) := by decide +kernel
theorem d_M_mirror_16 : decode b_M_mirror 16 = .ok (.iaload, 1) := by decide +kernel
theorem d_M_mirror_17 : decode b_M_mirror 17 = .ok (.invokevirtual 76, 3) := by decide +kernel
theorem d_M_mirror_20 : decode b_M_mirror 20 = .ok (.iconst 0, 1) := by decide +kernel
theorem d_M_mirror_21 : decode b_M_mirror 21 = .ok (.istore_n 3, 1) := by decide +kernel
theorem d_M_mirror_22 : decode b_M_mirror 22 = .ok (.iload_n 3, 1) := by decide +kernel
theorem d_M_mirror_23 : decode b_M_mirror 23 = .ok (.iload_n 1, 1) := by decide +kernel
theorem d_M_mirror_24 : decode b_M_mirror 24 = .ok (.iload_n 1, 1) := by decide +kernel
theorem d_M_mirror_25 : decode b_M_mirror 25 = .ok (.imul, 1) := by decide +kernel
theorem d_M_mirror_26 : decode b_M_mirror 26 = .ok (.if_icmp .ge 32, 3) := by decide +kernel
theorem d_M_mirror_29 : decode b_M_mirror 29 = .ok (.iload_n 2, 1) := by decide +kernel
theorem d_M_mirror_30 : decode b_M_mirror 30 = .ok (.aload_n 0, 1) := by decide +kernel
theorem d_M_mirror_31 : decode b_M_mirror 31 = .ok (.getfield 28, 3) := by decide +kernel
theorem d_M_mirror_34 : decode b_M_mirror 34 = .ok (.iload_n 3, 1) := by decide +kernel
theorem d_M_mirror_35 : decode b_M_mirror 35 = .ok (.iaload, 1) := by decide +kernel
theorem d_M_mirror_36 : decode b_M_mirror 36 = .ok (.iload_n 1, 1) := by decide +kernel
theorem d_M_mirror_37 : decode b_M_mirror 37 = .ok (.iload_n 1, 1) := by decide +kernel
theorem d_M_mirror_38 : decode b_M_mirror 38 = .ok (.iload_n 3, 1) := by decide +kernel
theorem d_M_mirror_39 : decode b_M_mirror 39 = .ok (.iload_n 1, 1) := by decide +kernel
theorem d_M_mirror_40 : decode b_M_mirror 40 = .ok (.irem, 1) := by decide +kernel
theorem d_M_mirror_41 : decode b_M_mirror 41 = .ok (.imul, 1) := by decide +kernel
theorem d_M_mirror_42 : decode b_M_mirror 42 = .ok (.iload_n 3, 1) := by decide +kernel
theorem d_M_mirror_43 : decode b_M_mirror 43 = .ok (.iload_n 1, 1) := by decide +kernel
theorem d_M_mirror_44 : decode b_M_mirror 44 = .ok (.idiv, 1) := by decide +kernel
theorem d_M_mirror_45 : decode b_M_mirror 45 = .ok (.iadd, 1) := by decide +kernel
theorem d_M_mirror_46 : decode b_M_mirror 46 = .ok (.invokestatic 64, 3) := by decide +kernel
theorem d_M_mirror_49 : decode b_M_mirror 49 = .ok (.imul, 1) := by decide +kernel
theorem d_M_mirror_50 : decode b_M_mirror 50 = .ok (.iadd, 1) := by decide +kernel
theorem d_M_mirror_51 : decode b_M_mirror 51 = .ok (.istore_n 2, 1) := by decide +kernel
theorem d_M_mirror_52 : decode b_M_mirror 52 = .ok (.iinc 3 1, 3) := by decide +kernel
theorem d_M_mirror_55 : decode b_M_mirror 55 = .ok (.goto (-33), 3) := by decide +kernel
theorem d_M_mirror_58 : decode b_M_mirror 58 = .ok (.iload_n 2, 1) := by decide +kernel
theorem d_M_mirror_59 : decode b_M_mirror 59 = .ok (.aload_n 0, 1) := by decide +kernel
theorem d_M_mirror_60 : decode b_M_mirror 60 = .ok (.getfield 7, 3) := by decide +kernel
theorem d_M_mirror_63 : decode b_M_mirror 63 = .ok (.iconst 1, 1) := by decide +kernel
theorem d_M_mirror_64 : decode b_M_mirror 64 = .ok (.iaload, 1) := by decide +kernel
theorem d_M_mirror_65 : decode b_M_mirror 65 = .ok (.if_icmp .ne 8, 3) := by decide +kernel
theorem d_M_mirror_68 : decode b_M_mirror 68 = .ok (.bipush (-5), 2) := by decide +kernel
theorem d_M_mirror_70 : decode b_M_mirror 70 = .ok (.goto 8, 3) := by decide +kernel
theorem d_M_mirror_73 : decode b_M_mirror 73 = .ok (.aload_n 0, 1) := by decide +kernel
theorem d_M_mirror_74 : decode b_M_mirror 74 = .ok (.iload_n 2, 1) := by decide +kernel
theorem d_M_mirror_75 : decode b_M_mirror 75 = .ok (.invokevirtual 144, 3) := by decide +kernel
theorem d_M_mirror_78 : decode b_M_mirror 78 = .ok (.ireturn, 1) := by decide +kernel
theorem d_M_type_0 : decode b_M_type 0 = .ok (.aload_n 0, 1) := by decide +kernel
theorem d_M_type_1 : decode b_M_type 1 = .ok (.getfield 150, 3) := by decide +kernel
theorem d_M_type_4 : decode b_M_type 4 = .ok (.bipush 60, 2) := by decide +kernel
theorem d_M_type_6 : decode b_M_type 6 = .ok (.if_icmp .ne 6, 3) := by decide +kernel
theorem d_M_type_9 : decode b_M_type 9 = .ok (.bipush (-3), 2) := by decide +kernel
theorem d_M_type_11 : decode b_M_type 11 = .ok (.ireturn, 1) := by decide +kernel
theorem d_M_type_12 : decode b_M_type 12 = .ok (.aload_n 0, 1) := by decide +kernel
theorem d_M_type_13 : decode b_M_type 13 = .ok (.getfield 43, 3) := by decide +kernel
theorem d_M_type_16 : decode b_M_type 16 = .ok (.aload_n 0, 1) := by decide +kernel
theorem d_M_type_17 : decode b_M_type 17 = .ok (.getfield 150, 3) := by decide +kernel
theorem d_M_type_20 : decode b_M_type 20 = .ok (.iload_n 1, 1) := by decide +kernel
theorem d_M_type_21 : decode b_M_type 21 = .ok (.iastore, 1) := by decide +kernel
theorem d_M_type_22 : decode b_M_type 22 = .ok (.aload_n 0, 1) := by decide +kernel
theorem d_M_type_23 : decode b_M_type 23 = .ok (.dup, 1) := by decide +kernel
theorem d_M_type_24 : decode b_M_type 24 = .ok (.getfield 150, 3) := by decide +kernel
theorem d_M_type_27 : decode b_M_type 27 = .ok (.iconst 1, 1) := by decide +kernel
theorem d_M_type_28 : decode b_M_type 28 = .ok (.iadd, 1) := by decide +kernel
theorem d_M_type_29 : decode b_M_type 29 = .ok (.putfield 150, 3) := by decide +kernel
theorem d_M_type_32 : decode b_M_type 32 = .ok (.aload_n 0, 1) := by decide +kernel
theorem d_M_type_33 : decode b_M_type 33 = .ok (.getfield 150, 3) := by decide +kernel
theorem d_M_type_36 : decode b_M_type 36 = .ok (.ireturn, 1) := by decide +kernel
theorem d_M_clearText_0 : decode b_M_clearText 0 = .ok (.aload_n 0, 1) := by decide +kernel
theorem d_M_clearText_1 : decode b_M_clearText 1 = .ok (.getfield 150, 3) := by decide +kernel
theorem d_M_clearText_4 : decode b_M_clearText 4 = .ok (.istore_n 1, 1) := by decide +kernel
theorem d_M_clearText_5 : decode b_M_clearText 5 = .ok (.aload_n 0, 1) := by decide +kernel
theorem d_M_clearText_6 : decode b_M_clearText 6 = .ok (.iconst 0, 1) := by decide +kernel
theorem d_M_clearText_7 : decode b_M_clearText 7 = .ok (.putfield 150, 3) := by decide +kernel
theorem d_M_clearText_10 : decode b_M_clearText 10 = .ok (.iload_n 1, 1) := by decide +kernel
theorem d_M_clearText_11 : decode b_M_clearText 11 = .ok (.ireturn, 1) := by decide +kernel
theorem d_M_beginsSide_0 : decode b_M_beginsSide 0 = .ok (.aload_n 0, 1) := by decide +kernel
theorem d_M_beginsSide_1 : decode b_M_beginsSide 1 = .ok (.iload_n 1, 1) := by decide +kernel
theorem d_M_beginsSide_2 : decode b_M_beginsSide 2 = .ok (.putfield 153, 3) := by decide +kernel
theorem d_M_beginsSide_5 : decode b_M_beginsSide 5 = .ok (.aload_n 0, 1) := by decide +kernel
theorem d_M_beginsSide_6 : decode b_M_beginsSide 6 = .ok (.getfield 46, 3) := by decide +kernel
theorem d_M_beginsSide_9 : decode b_M_beginsSide 9 = .ok (.iload_n 1, 1) := by decide +kernel
theorem d_M_beginsSide_10 : decode b_M_beginsSide 10 = .ok (.iconst 0, 1) := by decide +kernel
theorem d_M_beginsSide_11 : decode b_M_beginsSide 11 = .ok (.iastore, 1) := by decide +kernel
theorem d_M_beginsSide_12 : decode b_M_beginsSide 12 = .ok (.aload_n 0, 1) := by decide +kernel
theorem d_M_beginsSide_13 : decode b_M_beginsSide 13 = .ok (.iconst 0, 1) := by decide +kernel
theorem d_M_beginsSide_14 : decode b_M_beginsSide 14 = .ok (.putfield 156, 3) := by decide +kernel
theorem d_M_beginsSide_17 : decode b_M_beginsSide 17 = .ok (.aload_n 0, 1) := by decide +kernel
theorem d_M_beginsSide_18 : decode b_M_beginsSide 18 = .ok (.iconst 0, 1) := by decide +kernel
theorem d_M_beginsSide_19 : decode b_M_beginsSide 19 = .ok (.putfield 159, 3) := by decide +kernel
theorem d_M_beginsSide_22 : decode b_M_beginsSide 22 = .ok (.aload_n 0, 1) := by decide +kernel
theorem d_M_beginsSide_23 : decode b_M_beginsSide 23 = .ok (.getfield 49, 3) := by decide +kernel
theorem d_M_beginsSide_26 : decode b_M_beginsSide 26 = .ok (.iconst 0, 1) := by decide +kernel
theorem d_M_beginsSide_27 : decode b_M_beginsSide 27 = .ok (.iconst 0, 1) := by decide +kernel
theorem d_M_beginsSide_28 : decode b_M_beginsSide 28 = .ok (.iastore, 1) := by decide +kernel
theorem d_M_beginsSide_29 : decode b_M_beginsSide 29 = .ok (.return_, 1) := by decide +kernel
theorem d_M_isWhole_0 : decode b_M_isWhole 0 = .ok (.aload_n 0, 1) := by decide +kernel
theorem d_M_isWhole_1 : decode b_M_isWhole 1 = .ok (.getfield 159, 3) := by decide +kernel
theorem d_M_isWhole_4 : decode b_M_isWhole 4 = .ok (.ifCond .ne 17, 3) := by decide +kernel
theorem d_M_isWhole_7 : decode b_M_isWhole 7 = .ok (.aload_n 0, 1) := by decide +kernel
theorem d_M_isWhole_8 : decode b_M_isWhole 8 = .ok (.getfield 49, 3) := by decide +kernel
theorem d_M_isWhole_11 : decode b_M_isWhole 11 = .ok (.iconst 0, 1) := by decide +kernel
theorem d_M_isWhole_12 : decode b_M_isWhole 12 = .ok (.iaload, 1) := by decide +kernel
theorem d_M_isWhole_13 : decode b_M_isWhole 13 = .ok (.iconst 1, 1) := by decide +kernel
theorem d_M_isWhole_14 : decode b_M_isWhole 14 = .ok (.if_icmp .ne 7, 3) := by decide +kernel
theorem d_M_isWhole_17 : decode b_M_isWhole 17 = .ok (.iconst 1, 1) := by decide +kernel
theorem d_M_isWhole_18 : decode b_M_isWhole 18 = .ok (.goto 4, 3) := by decide +kernel
theorem d_M_isWhole_21 : decode b_M_isWhole 21 = .ok (.iconst 0, 1) := by decide +kernel
theorem d_M_isWhole_22 : decode b_M_isWhole 22 = .ok (.ireturn, 1) := by decide +kernel
theorem d_M_adds_0 : decode b_M_adds 0 = .ok (.aload_n 0, 1) := by decide +kernel
theorem d_M_adds_1 : decode b_M_adds 1 = .ok (.getfield 46, 3) := by decide +kernel
theorem d_M_adds_4 : decode b_M_adds 4 = .ok (.aload_n 0, 1) := by decide +kernel
theorem d_M_adds_5 : decode b_M_adds 5 = .ok (.getfield 153, 3) := by decide +kernel
theorem d_M_adds_8 : decode b_M_adds 8 = .ok (.dup2, 1) := by decide +kernel
theorem d_M_adds_9 : decode b_M_adds 9 = .ok (.iaload, 1) := by decide +kernel
theorem d_M_adds_10 : decode b_M_adds 10 = .ok (.iconst 1, 1) := by decide +kernel
theorem d_M_adds_11 : decode b_M_adds 11 = .ok (.iadd, 1) := by decide +kernel
theorem d_M_adds_12 : decode b_M_adds 12 = .ok (.iastore, 1) := by decide +kernel
theorem d_M_adds_13 : decode b_M_adds 13 = .ok (.aload_n 0, 1) := by decide +kernel
theorem d_M_adds_14 : decode b_M_adds 14 = .ok (.getfield 46, 3) := by decide +kernel
theorem d_M_adds_17 : decode b_M_adds 17 = .ok (.aload_n 0, 1) := by decide +kernel
theorem d_M_adds_18 : decode b_M_adds 18 = .ok (.getfield 153, 3) := by decide +kernel
theorem d_M_adds_21 : decode b_M_adds 21 = .ok (.aload_n 0, 1) := by decide +kernel
theorem d_M_adds_22 : decode b_M_adds 22 = .ok (.getfield 46, 3) := by decide +kernel
theorem d_M_adds_25 : decode b_M_adds 25 = .ok (.aload_n 0, 1) := by decide +kernel
theorem d_M_adds_26 : decode b_M_adds 26 = .ok (.getfield 153, 3) := by decide +kernel
theorem d_M_adds_29 : decode b_M_adds 29 = .ok (.iaload, 1) := by decide +kernel
theorem d_M_adds_30 : decode b_M_adds 30 = .ok (.iadd, 1) := by decide +kernel
theorem d_M_adds_31 : decode b_M_adds 31 = .ok (.iload_n 1, 1) := by decide +kernel
theorem d_M_adds_32 : decode b_M_adds 32 = .ok (.iastore, 1) := by decide +kernel
theorem d_M_adds_33 : decode b_M_adds 33 = .ok (.return_, 1) := by decide +kernel
theorem d_M_hasPart_0 : decode b_M_hasPart 0 = .ok (.aload_n 0, 1) := by decide +kernel
theorem d_M_hasPart_1 : decode b_M_hasPart 1 = .ok (.getfield 49, 3) := by decide +kernel
theorem d_M_hasPart_4 : decode b_M_hasPart 4 = .ok (.aload_n 0, 1) := by decide +kernel
theorem d_M_hasPart_5 : decode b_M_hasPart 5 = .ok (.getfield 159, 3) := by decide +kernel
theorem d_M_hasPart_8 : decode b_M_hasPart 8 = .ok (.iaload, 1) := by decide +kernel
theorem d_M_hasPart_9 : decode b_M_hasPart 9 = .ok (.iconst 1, 1) := by decide +kernel
theorem d_M_hasPart_10 : decode b_M_hasPart 10 = .ok (.if_icmp .ne 8, 3) := by decide +kernel
theorem d_M_hasPart_13 : decode b_M_hasPart 13 = .ok (.aload_n 0, 1) := by decide +kernel
theorem d_M_hasPart_14 : decode b_M_hasPart 14 = .ok (.iconst 3, 1) := by decide +kernel
theorem d_M_hasPart_15 : decode b_M_hasPart 15 = .ok (.invokevirtual 162, 3) := by decide +kernel
theorem d_M_hasPart_18 : decode b_M_hasPart 18 = .ok (.aload_n 0, 1) := by decide +kernel
theorem d_M_hasPart_19 : decode b_M_hasPart 19 = .ok (.getfield 49, 3) := by decide +kernel
theorem d_M_hasPart_22 : decode b_M_hasPart 22 = .ok (.aload_n 0, 1) := by decide +kernel
theorem d_M_hasPart_23 : decode b_M_hasPart 23 = .ok (.getfield 159, 3) := by decide +kernel
theorem d_M_hasPart_26 : decode b_M_hasPart 26 = .ok (.iconst 1, 1) := by decide +kernel
theorem d_M_hasPart_27 : decode b_M_hasPart 27 = .ok (.iastore, 1) := by decide +kernel
theorem d_M_hasPart_28 : decode b_M_hasPart 28 = .ok (.return_, 1) := by decide +kernel
theorem d_M_takesInSide_0 : decode b_M_takesInSide 0 = .ok (.iload_n 1, 1) := by decide +kernel
theorem d_M_takesInSide_1 : decode b_M_takesInSide 1 = .ok (.i2l, 1) := by decide +kernel
theorem d_M_takesInSide_2 : decode b_M_takesInSide 2 = .ok (.ldc2_w 165, 3) := by decide +kernel
theorem d_M_takesInSide_5 : decode b_M_takesInSide 5 = .ok (.ldc2_w 167, 3) := by decide +kernel
theorem d_M_takesInSide_8 : decode b_M_takesInSide 8 = .ok (.invokestatic 69, 3) := by decide +kernel
theorem d_M_takesInSide_11 : decode b_M_takesInSide 11 = .ok (.ifCond .eq 38, 3) := by decide +kernel
theorem d_M_takesInSide_14 : decode b_M_takesInSide 14 = .ok (.aload_n 0, 1) := by decide +kernel
theorem d_M_takesInSide_15 : decode b_M_takesInSide 15 = .ok (.getfield 156, 3) := by decide +kernel
theorem d_M_takesInSide_18 : decode b_M_takesInSide 18 = .ok (.bipush 8, 2) := by decide +kernel
theorem d_M_takesInSide_20 : decode b_M_takesInSide 20 = .ok (.if_icmp .ne 5, 3) := by decide +kernel
theorem d_M_takesInSide_23 : decode b_M_takesInSide 23 = .ok (.iconst 0, 1) := by decide +kernel
theorem d_M_takesInSide_24 : decode b_M_takesInSide 24 = .ok (.ireturn, 1) := by decide +kernel
theorem d_M_takesInSide_25 : decode b_M_takesInSide 25 = .ok (.aload_n 0, 1) := by decide +kernel
theorem d_M_takesInSide_26 : decode b_M_takesInSide 26 = .ok (.dup, 1) := by decide +kernel
theorem d_M_takesInSide_27 : decode b_M_takesInSide 27 = .ok (.getfield 156, 3) := by decide +kernel
theorem d_M_takesInSide_30 : decode b_M_takesInSide 30 = .ok (.iconst 1, 1) := by decide +kernel
theorem d_M_takesInSide_31 : decode b_M_takesInSide 31 = .ok (.iadd, 1) := by decide +kernel
theorem d_M_takesInSide_32 : decode b_M_takesInSide 32 = .ok (.putfield 156, 3) := by decide +kernel
theorem d_M_takesInSide_35 : decode b_M_takesInSide 35 = .ok (.aload_n 0, 1) := by decide +kernel
theorem d_M_takesInSide_36 : decode b_M_takesInSide 36 = .ok (.iload_n 1, 1) := by decide +kernel
theorem d_M_takesInSide_37 : decode b_M_takesInSide 37 = .ok (.bipush 120, 2) := by decide +kernel
theorem d_M_takesInSide_39 : decode b_M_takesInSide 39 = .ok (.isub, 1) := by decide +kernel
theorem d_M_takesInSide_40 : decode b_M_takesInSide 40 = .ok (.invokevirtual 162, 3) := by decide +kernel
theorem d_M_takesInSide_43 : decode b_M_takesInSide 43 = .ok (.aload_n 0, 1) := by decide +kernel
theorem d_M_takesInSide_44 : decode b_M_takesInSide 44 = .ok (.invokevirtual 169, 3) := by decide +kernel
theorem d_M_takesInSide_47 : decode b_M_takesInSide 47 = .ok (.iconst 1, 1) := by decide +kernel
theorem d_M_takesInSide_48 : decode b_M_takesInSide 48 = .ok (.ireturn, 1) := by decide +kernel
theorem d_M_takesInSide_49 : decode b_M_takesInSide 49 = .ok (.iload_n 1, 1) := by decide +kernel
theorem d_M_takesInSide_50 : decode b_M_takesInSide 50 = .ok (.bipush 40, 2) := by decide +kernel
theorem d_M_takesInSide_52 : decode b_M_takesInSide 52 = .ok (.if_icmp .ne 33, 3) := by decide +kernel
theorem d_M_takesInSide_55 : decode b_M_takesInSide 55 = .ok (.aload_n 0, 1) := by decide +kernel
theorem d_M_takesInSide_56 : decode b_M_takesInSide 56 = .ok (.getfield 159, 3) := by decide +kernel
theorem d_M_takesInSide_59 : decode b_M_takesInSide 59 = .ok (.iconst 3, 1) := by decide +kernel
theorem d_M_takesInSide_60 : decode b_M_takesInSide 60 = .ok (.if_icmp .ge 25, 3) := by decide +kernel
theorem d_M_takesInSide_63 : decode b_M_takesInSide 63 = .ok (.aload_n 0, 1) := by decide +kernel
theorem d_M_takesInSide_64 : decode b_M_takesInSide 64 = .ok (.dup, 1) := by decide +kernel
theorem d_M_takesInSide_65 : decode b_M_takesInSide 65 = .ok (.getfield 159, 3) := by decide +kernel
theorem d_M_takesInSide_68 : decode b_M_takesInSide 68 = .ok (.iconst 1, 1) := by decide +kernel
theorem d_M_takesInSide_69 : decode b_M_takesInSide 69 = .ok (.iadd, 1) := by decide +kernel
theorem d_M_takesInSide_70 : decode b_M_takesInSide 70 = .ok (.putfield 159, 3) := by decide +kernel
theorem d_M_takesInSide_73 : decode b_M_takesInSide 73 = .ok (.aload_n 0, 1) := by decide +kernel
theorem d_M_takesInSide_74 : decode b_M_takesInSide 74 = .ok (.getfield 49, 3) := by decide +kernel
theorem d_M_takesInSide_77 : decode b_M_takesInSide 77 = .ok (.aload_n 0, 1) := by decide +kernel
theorem d_M_takesInSide_78 : decode b_M_takesInSide 78 = .ok (.getfield 159, 3) := by decide +kernel
theorem d_M_takesInSide_81 : decode b_M_takesInSide 81 = .ok (.iconst 0, 1) := by decide +kernel
theorem d_M_takesInSide_82 : decode b_M_takesInSide 82 = .ok (.iastore, 1) := by decide +kernel
theorem d_M_takesInSide_83 : decode b_M_takesInSide 83 = .ok (.iconst 1, 1) := by decide +kernel
theorem d_M_takesInSide_84 : decode b_M_takesInSide 84 = .ok (.ireturn, 1) := by decide +kernel
theorem d_M_takesInSide_85 : decode b_M_takesInSide 85 = .ok (.iload_n 1, 1) := by decide +kernel
theorem d_M_takesInSide_86 : decode b_M_takesInSide 86 = .ok (.bipush 41, 2) := by decide +kernel
theorem d_M_takesInSide_88 : decode b_M_takesInSide 88 = .ok (.if_icmp .ne 39, 3) := by decide +kernel
theorem d_M_takesInSide_91 : decode b_M_takesInSide 91 = .ok (.aload_n 0, 1) := by decide +kernel
theorem d_M_takesInSide_92 : decode b_M_takesInSide 92 = .ok (.getfield 159, 3) := by decide +kernel
theorem d_M_takesInSide_95 : decode b_M_takesInSide 95 = .ok (.ifCond .le 32, 3) := by decide +kernel
theorem d_M_takesInSide_98 : decode b_M_takesInSide 98 = .ok (.aload_n 0, 1) := by decide +kernel
theorem d_M_takesInSide_99 : decode b_M_takesInSide 99 = .ok (.getfield 49, 3) := by decide +kernel
theorem d_M_takesInSide_102 : decode b_M_takesInSide 102 = .ok (.aload_n 0, 1) := by decide +kernel
theorem d_M_takesInSide_103 : decode b_M_takesInSide 103 = .ok (.getfield 159, 3) := by decide +kernel
theorem d_M_takesInSide_106 : decode b_M_takesInSide 106 = .ok (.iaload, 1) := by decide +kernel
theorem d_M_takesInSide_107 : decode b_M_takesInSide 107 = .ok (.iconst 1, 1) := by decide +kernel
theorem d_M_takesInSide_108 : decode b_M_takesInSide 108 = .ok (.if_icmp .ne 19, 3) := by decide +kernel
theorem d_M_takesInSide_111 : decode b_M_takesInSide 111 = .ok (.aload_n 0, 1) := by decide +kernel
theorem d_M_takesInSide_112 : decode b_M_takesInSide 112 = .ok (.dup, 1) := by decide +kernel
theorem d_M_takesInSide_113 : decode b_M_takesInSide 113 = .ok (.getfield 159, 3) := by decide +kernel
theorem d_M_takesInSide_116 : decode b_M_takesInSide 116 = .ok (.iconst 1, 1) := by decide +kernel
theorem d_M_takesInSide_117 : decode b_M_takesInSide 117 = .ok (.isub, 1) := by decide +kernel
theorem d_M_takesInSide_118 : decode b_M_takesInSide 118 = .ok (.putfield 159, 3) := by decide +kernel
theorem d_M_takesInSide_121 : decode b_M_takesInSide 121 = .ok (.aload_n 0, 1) := by decide +kernel
theorem d_M_takesInSide_122 : decode b_M_takesInSide 122 = .ok (.invokevirtual 169, 3) := by decide +kernel
theorem d_M_takesInSide_125 : decode b_M_takesInSide 125 = .ok (.iconst 1, 1) := by decide +kernel
theorem d_M_takesInSide_126 : decode b_M_takesInSide 126 = .ok (.ireturn, 1) := by decide +kernel
theorem d_M_takesInSide_127 : decode b_M_takesInSide 127 = .ok (.iconst 0, 1) := by decide +kernel
theorem d_M_takesInSide_128 : decode b_M_takesInSide 128 = .ok (.ireturn, 1) := by decide +kernel
theorem d_M_fault_0 : decode b_M_fault 0 = .ok (.aload_n 0, 1) := by decide +kernel
theorem d_M_fault_1 : decode b_M_fault 1 = .ok (.iconst 0, 1) := by decide +kernel
theorem d_M_fault_2 : decode b_M_fault 2 = .ok (.putfield 172, 3) := by decide +kernel
theorem d_M_fault_5 : decode b_M_fault 5 = .ok (.aload_n 0, 1) := by decide +kernel
theorem d_M_fault_6 : decode b_M_fault 6 = .ok (.getfield 46, 3) := by decide +kernel
theorem d_M_fault_9 : decode b_M_fault 9 = .ok (.iconst 0, 1) := by decide +kernel
theorem d_M_fault_10 : decode b_M_fault 10 = .ok (.iconst 1, 1) := by decide +kernel
theorem d_M_fault_11 : decode b_M_fault 11 = .ok (.iastore, 1) := by decide +kernel
theorem d_M_fault_12 : decode b_M_fault 12 = .ok (.aload_n 0, 1) := by decide +kernel
theorem d_M_fault_13 : decode b_M_fault 13 = .ok (.iconst 1, 1) := by decide +kernel
theorem d_M_fault_14 : decode b_M_fault 14 = .ok (.invokevirtual 175, 3) := by decide +kernel
theorem d_M_fault_17 : decode b_M_fault 17 = .ok (.iconst 0, 1) := by decide +kernel
theorem d_M_fault_18 : decode b_M_fault 18 = .ok (.istore_n 1, 1) := by decide +kernel
theorem d_M_fault_19 : decode b_M_fault 19 = .ok (.iconst 0, 1) := by decide +kernel
theorem d_M_fault_20 : decode b_M_fault 20 = .ok (.istore_n 2, 1) := by decide +kernel
theorem d_M_fault_21 : decode b_M_fault 21 = .ok (.iload_n 2, 1) := by decide +kernel
theorem d_M_fault_22 : decode b_M_fault 22 = .ok (.aload_n 0, 1) := by decide +kernel
theorem d_M_fault_23 : decode b_M_fault 23 = .ok (.getfield 150, 3) := by decide +kernel
theorem d_M_fault_26 : decode b_M_fault 26 = .ok (.if_icmp .ge 120, 3) := by decide +kernel
theorem d_M_fault_29 : decode b_M_fault 29 = .ok (.aload_n 0, 1) := by decide +kernel
theorem d_M_fault_30 : decode b_M_fault 30 = .ok (.getfield 43, 3) := by decide +kernel
theorem d_M_fault_33 : decode b_M_fault 33 = .ok (.iload_n 2, 1) := by decide +kernel
theorem d_M_fault_34 : decode b_M_fault 34 = .ok (.iaload, 1) := by decide +kernel
theorem d_M_fault_35 : decode b_M_fault 35 = .ok (.istore_n 3, 1) := by decide +kernel
theorem d_M_fault_36 : decode b_M_fault 36 = .ok (.iload_n 1, 1) := by decide +kernel
theorem d_M_fault_37 : decode b_M_fault 37 = .ok (.ifCond .ne 35, 3) := by decide +kernel
theorem d_M_fault_40 : decode b_M_fault 40 = .ok (.iload_n 3, 1) := by decide +kernel
theorem d_M_fault_41 : decode b_M_fault 41 = .ok (.bipush 61, 2) := by decide +kernel
theorem d_M_fault_43 : decode b_M_fault 43 = .ok (.if_icmp .ne 29, 3) := by decide +kernel
theorem d_M_fault_46 : decode b_M_fault 46 = .ok (.aload_n 0, 1) := by decide +kernel
theorem d_M_fault_47 : decode b_M_fault 47 = .ok (.invokevirtual 178, 3) := by decide +kernel
theorem d_M_fault_50 : decode b_M_fault 50 = .ok (.ifCond .eq 22, 3) := by decide +kernel
theorem d_M_fault_53 : decode b_M_fault 53 = .ok (.iconst 1, 1) := by decide +kernel
theorem d_M_fault_54 : decode b_M_fault 54 = .ok (.istore_n 1, 1) := by decide +kernel
theorem d_M_fault_55 : decode b_M_fault 55 = .ok (.aload_n 0, 1) := by decide +kernel
theorem d_M_fault_56 : decode b_M_fault 56 = .ok (.bipush 33, 2) := by decide +kernel
theorem d_M_fault_58 : decode b_M_fault 58 = .ok (.aload_n 0, 1) := by decide +kernel
theorem d_M_fault_59 : decode b_M_fault 59 = .ok (.getfield 172, 3) := by decide +kernel
theorem d_M_fault_62 : decode b_M_fault 62 = .ok (.imul, 1) := by decide +kernel
theorem d_M_fault_63 : decode b_M_fault 63 = .ok (.bipush 17, 2) := by decide +kernel
theorem d_M_fault_65 : decode b_M_fault 65 = .ok (.iadd, 1) := by decide +kernel
theorem d_M_fault_66 : decode b_M_fault 66 = .ok (.invokevirtual 175, 3) := by decide +kernel
theorem d_M_fault_69 : decode b_M_fault 69 = .ok (.goto 71, 3) := by decide +kernel
theorem d_M_fault_72 : decode b_M_fault 72 = .ok (.iload_n 1, 1) := by decide +kernel
theorem d_M_fault_73 : decode b_M_fault 73 = .ok (.ifCond .eq 57, 3) := by decide +kernel
theorem d_M_fault_76 : decode b_M_fault 76 = .ok (.iload_n 3, 1) := by decide +kernel
theorem d_M_fault_77 : decode b_M_fault 77 = .ok (.bipush 59, 2) := by decide +kernel
theorem d_M_fault_79 : decode b_M_fault 79 = .ok (.if_icmp .ne 51, 3) := by decide +kernel
theorem d_M_fault_82 : decode b_M_fault 82 = .ok (.aload_n 0, 1) := by decide +kernel
theorem d_M_fault_83 : decode b_M_fault 83 = .ok (.invokevirtual 178, 3) := by decide +kernel
theorem d_M_fault_86 : decode b_M_fault 86 = .ok (.ifCond .eq 44, 3) := by decide +kernel
theorem d_M_fault_89 : decode b_M_fault 89 = .ok (.iconst 0, 1) := by decide +kernel
theorem d_M_fault_90 : decode b_M_fault 90 = .ok (.istore_n 1, 1) := by decide +kernel
theorem d_M_fault_91 : decode b_M_fault 91 = .ok (.aload_n 0, 1) := by decide +kernel
theorem d_M_fault_92 : decode b_M_fault 92 = .ok (.dup, 1) := by decide +kernel
theorem d_M_fault_93 : decode b_M_fault 93 = .ok (.getfield 172, 3) := by decide +kernel
theorem d_M_fault_96 : decode b_M_fault 96 = .ok (.iconst 1, 1) := by decide +kernel
theorem d_M_fault_97 : decode b_M_fault 97 = .ok (.iadd, 1) := by decide +kernel
theorem d_M_fault_98 : decode b_M_fault 98 = .ok (.putfield 172, 3) := by decide +kernel
theorem d_M_fault_101 : decode b_M_fault 101 = .ok (.aload_n 0, 1) := by decide +kernel
theorem d_M_fault_102 : decode b_M_fault 102 = .ok (.getfield 46, 3) := by decide +kernel
theorem d_M_fault_105 : decode b_M_fault 105 = .ok (.bipush 33, 2) := by decide +kernel
theorem d_M_fault_107 : decode b_M_fault 107 = .ok (.aload_n 0, 1) := by decide +kernel
theorem d_M_fault_108 : decode b_M_fault 108 = .ok (.getfield 172, 3) := by decide +kernel
theorem d_M_fault_111 : decode b_M_fault 111 = .ok (.imul, 1) := by decide +kernel
theorem d_M_fault_112 : decode b_M_fault 112 = .ok (.iconst 1, 1) := by decide +kernel
theorem d_M_fault_113 : decode b_M_fault 113 = .ok (.iastore, 1) := by decide +kernel
theorem d_M_fault_114 : decode b_M_fault 114 = .ok (.aload_n 0, 1) := by decide +kernel
theorem d_M_fault_115 : decode b_M_fault 115 = .ok (.bipush 33, 2) := by decide +kernel
theorem d_M_fault_117 : decode b_M_fault 117 = .ok (.aload_n 0, 1) := by decide +kernel
theorem d_M_fault_118 : decode b_M_fault 118 = .ok (.getfield 172, 3) := by decide +kernel
theorem d_M_fault_121 : decode b_M_fault 121 = .ok (.imul, 1) := by decide +kernel
theorem d_M_fault_122 : decode b_M_fault 122 = .ok (.iconst 1, 1) := by decide +kernel
theorem d_M_fault_123 : decode b_M_fault 123 = .ok (.iadd, 1) := by decide +kernel
theorem d_M_fault_124 : decode b_M_fault 124 = .ok (.invokevirtual 175, 3) := by decide +kernel
theorem d_M_fault_127 : decode b_M_fault 127 = .ok (.goto 13, 3) := by decide +kernel
theorem d_M_fault_130 : decode b_M_fault 130 = .ok (.aload_n 0, 1) := by decide +kernel
theorem d_M_fault_131 : decode b_M_fault 131 = .ok (.iload_n 3, 1) := by decide +kernel
theorem d_M_fault_132 : decode b_M_fault 132 = .ok (.invokevirtual 182, 3) := by decide +kernel
theorem d_M_fault_135 : decode b_M_fault 135 = .ok (.ifCond .ne 5, 3) := by decide +kernel
theorem d_M_fault_138 : decode b_M_fault 138 = .ok (.iload_n 2, 1) := by decide +kernel
theorem d_M_fault_139 : decode b_M_fault 139 = .ok (.ireturn, 1) := by decide +kernel
theorem d_M_fault_140 : decode b_M_fault 140 = .ok (.iinc 2 1, 3) := by decide +kernel
theorem d_M_fault_143 : decode b_M_fault 143 = .ok (.goto (-122), 3) := by decide +kernel
theorem d_M_fault_146 : decode b_M_fault 146 = .ok (.iload_n 1, 1) := by decide +kernel
theorem d_M_fault_147 : decode b_M_fault 147 = .ok (.ifCond .eq 10, 3) := by decide +kernel
theorem d_M_fault_150 : decode b_M_fault 150 = .ok (.aload_n 0, 1) := by decide +kernel
theorem d_M_fault_151 : decode b_M_fault 151 = .ok (.invokevirtual 178, 3) := by decide +kernel
theorem d_M_fault_154 : decode b_M_fault 154 = .ok (.ifCond .ne 8, 3) := by decide +kernel
theorem d_M_fault_157 : decode b_M_fault 157 = .ok (.aload_n 0, 1) := by decide +kernel
theorem d_M_fault_158 : decode b_M_fault 158 = .ok (.getfield 150, 3) := by decide +kernel
theorem d_M_fault_161 : decode b_M_fault 161 = .ok (.ireturn, 1) := by decide +kernel
theorem d_M_fault_162 : decode b_M_fault 162 = .ok (.aload_n 0, 1) := by decide +kernel
theorem d_M_fault_163 : decode b_M_fault 163 = .ok (.dup, 1) := by decide +kernel
theorem d_M_fault_164 : decode b_M_fault 164 = .ok (.getfield 172, 3) := by decide +kernel
theorem d_M_fault_167 : decode b_M_fault 167 = .ok (.iconst 1, 1) := by decide +kernel
theorem d_M_fault_168 : decode b_M_fault 168 = .ok (.iadd, 1) := by decide +kernel
theorem d_M_fault_169 : decode b_M_fault 169 = .ok (.putfield 172, 3) := by decide +kernel
theorem d_M_fault_172 : decode b_M_fault 172 = .ok (.bipush (-5), 2) := by decide +kernel
theorem d_M_fault_174 : decode b_M_fault 174 = .ok (.ireturn, 1) := by decide +kernel
theorem d_M_lawAt_0 : decode b_M_lawAt 0 = .ok (.iconst 3, 1) := by decide +kernel
theorem d_M_lawAt_1 : decode b_M_lawAt 1 = .ok (.bipush 33, 2) := by decide +kernel
theorem d_M_lawAt_3 : decode b_M_lawAt 3 = .ok (.iload_n 0, 1) := by decide +kernel
theorem d_M_lawAt_4 : decode b_M_lawAt 4 = .ok (.imul, 1) := by decide +kernel
theorem d_M_lawAt_5 : decode b_M_lawAt 5 = .ok (.iadd, 1) := by decide +kernel
theorem d_M_lawAt_6 : decode b_M_lawAt 6 = .ok (.ireturn, 1) := by decide +kernel
theorem d_M_addLaws_0 : decode b_M_addLaws 0 = .ok (.aload_n 0, 1) := by decide +kernel
theorem d_M_addLaws_1 : decode b_M_addLaws 1 = .ok (.invokevirtual 185, 3) := by decide +kernel
theorem d_M_addLaws_4 : decode b_M_addLaws 4 = .ok (.istore_n 1, 1) := by decide +kernel
theorem d_M_addLaws_5 : decode b_M_addLaws 5 = .ok (.iload_n 1, 1) := by decide +kernel
theorem d_M_addLaws_6 : decode b_M_addLaws 6 = .ok (.bipush (-5), 2) := by decide +kernel
theorem d_M_addLaws_8 : decode b_M_addLaws 8 = .ok (.if_icmp .eq 8, 3) := by decide +kernel
theorem d_M_addLaws_11 : decode b_M_addLaws 11 = .ok (.bipush (-100), 2) := by decide +kernel
theorem d_M_addLaws_13 : decode b_M_addLaws 13 = .ok (.iload_n 1, 1) := by decide +kernel
theorem d_M_addLaws_14 : decode b_M_addLaws 14 = .ok (.isub, 1) := by decide +kernel
theorem d_M_addLaws_15 : decode b_M_addLaws 15 = .ok (.ireturn, 1) := by decide +kernel
theorem d_M_addLaws_16 : decode b_M_addLaws 16 = .ok (.aload_n 0, 1) := by decide +kernel
theorem d_M_addLaws_17 : decode b_M_addLaws 17 = .ok (.getfield 7, 3) := by decide +kernel
theorem d_M_addLaws_20 : decode b_M_addLaws 20 = .ok (.iconst 2, 1) := by decide +kernel
theorem d_M_addLaws_21 : decode b_M_addLaws 21 = .ok (.iaload, 1) := by decide +kernel
theorem d_M_addLaws_22 : decode b_M_addLaws 22 = .ok (.aload_n 0, 1) := by decide +kernel
theorem d_M_addLaws_23 : decode b_M_addLaws 23 = .ok (.getfield 172, 3) := by decide +kernel
theorem d_M_addLaws_26 : decode b_M_addLaws 26 = .ok (.iadd, 1) := by decide +kernel
theorem d_M_addLaws_27 : decode b_M_addLaws 27 = .ok (.iconst 5, 1) := by decide +kernel
theorem d_M_addLaws_28 : decode b_M_addLaws 28 = .ok (.if_icmp .le 6, 3) := by decide +kernel
theorem d_M_addLaws_31 : decode b_M_addLaws 31 = .ok (.bipush (-3), 2) := by decide +kernel
theorem d_M_addLaws_33 : decode b_M_addLaws 33 = .ok (.ireturn, 1) := by decide +kernel
theorem d_M_addLaws_34 : decode b_M_addLaws 34 = .ok (.aload_n 0, 1) := by decide +kernel
theorem d_M_addLaws_35 : decode b_M_addLaws 35 = .ok (.invokevirtual 128, 3) := by decide +kernel
theorem d_M_addLaws_38 : decode b_M_addLaws 38 = .ok (.iconst 0, 1) := by decide +kernel
theorem d_M_addLaws_39 : decode b_M_addLaws 39 = .ok (.istore_n 2, 1) := by decide +kernel
theorem d_M_addLaws_40 : decode b_M_addLaws 40 = .ok (.iload_n 2, 1) := by decide +kernel
theorem d_M_addLaws_41 : decode b_M_addLaws 41 = .ok (.bipush 33, 2) := by decide +kernel
theorem d_M_addLaws_43 : decode b_M_addLaws 43 = .ok (.aload_n 0, 1) := by decide +kernel
theorem d_M_addLaws_44 : decode b_M_addLaws 44 = .ok (.getfield 172, 3) := by decide +kernel
theorem d_M_addLaws_47 : decode b_M_addLaws 47 = .ok (.imul, 1) := by decide +kernel
theorem d_M_addLaws_48 : decode b_M_addLaws 48 = .ok (.if_icmp .ge 31, 3) := by decide +kernel
theorem d_M_addLaws_51 : decode b_M_addLaws 51 = .ok (.aload_n 0, 1) := by decide +kernel
theorem d_M_addLaws_52 : decode b_M_addLaws 52 = .ok (.getfield 7, 3) := by decide +kernel
theorem d_M_addLaws_55 : decode b_M_addLaws 55 = .ok (.aload_n 0, 1) := by decide +kernel
theorem d_M_addLaws_56 : decode b_M_addLaws 56 = .ok (.getfield 7, 3) := by decide +kernel
theorem d_M_addLaws_59 : decode b_M_addLaws 59 = .ok (.iconst 2, 1) := by decide +kernel
theorem d_M_addLaws_60 : decode b_M_addLaws 60 = .ok (.iaload, 1) := by decide +kernel
theorem d_M_addLaws_61 : decode b_M_addLaws 61 = .ok (.invokestatic 86, 3) := by decide +kernel
theorem d_M_addLaws_64 : decode b_M_addLaws 64 = .ok (.iload_n 2, 1) := by decide +kernel
theorem d_M_addLaws_65 : decode b_M_addLaws 65 = .ok (.iadd, 1) := by decide +kernel
theorem d_M_addLaws_66 : decode b_M_addLaws 66 = .ok (.aload_n 0, 1) := by decide +kernel
theorem d_M_addLaws_67 : decode b_M_addLaws 67 = .ok (.getfield 46, 3) := by decide +kernel
theorem d_M_addLaws_70 : decode b_M_addLaws 70 = .ok (.iload_n 2, 1) := by decide +kernel
theorem d_M_addLaws_71 : decode b_M_addLaws 71 = .ok (.iaload, 1) := by decide +kernel
theorem d_M_addLaws_72 : decode b_M_addLaws 72 = .ok (.iastore, 1) := by decide +kernel
theorem d_M_addLaws_73 : decode b_M_addLaws 73 = .ok (.iinc 2 1, 3) := by decide +kernel
theorem d_M_addLaws_76 : decode b_M_addLaws 76 = .ok (.goto (-36), 3) := by decide +kernel
theorem d_M_addLaws_79 : decode b_M_addLaws 79 = .ok (.aload_n 0, 1) := by decide +kernel
theorem d_M_addLaws_80 : decode b_M_addLaws 80 = .ok (.getfield 7, 3) := by decide +kernel
theorem d_M_addLaws_83 : decode b_M_addLaws 83 = .ok (.iconst 2, 1) := by decide +kernel
theorem d_M_addLaws_84 : decode b_M_addLaws 84 = .ok (.dup2, 1) := by decide +kernel
theorem d_M_addLaws_85 : decode b_M_addLaws 85 = .ok (.iaload, 1) := by decide +kernel
theorem d_M_addLaws_86 : decode b_M_addLaws 86 = .ok (.aload_n 0, 1) := by decide +kernel
theorem d_M_addLaws_87 : decode b_M_addLaws 87 = .ok (.getfield 172, 3) := by decide +kernel
theorem d_M_addLaws_90 : decode b_M_addLaws 90 = .ok (.iadd, 1) := by decide +kernel
theorem d_M_addLaws_91 : decode b_M_addLaws 91 = .ok (.iastore, 1) := by decide +kernel
theorem d_M_addLaws_92 : decode b_M_addLaws 92 = .ok (.aload_n 0, 1) := by decide +kernel
theorem d_M_addLaws_93 : decode b_M_addLaws 93 = .ok (.aload_n 0, 1) := by decide +kernel
theorem d_M_addLaws_94 : decode b_M_addLaws 94 = .ok (.getfield 172, 3) := by decide +kernel
theorem d_M_addLaws_97 : decode b_M_addLaws 97 = .ok (.invokevirtual 131, 3) := by decide +kernel
theorem d_M_addLaws_100 : decode b_M_addLaws 100 = .ok (.ireturn, 1) := by decide +kernel
theorem d_M_isLaw_0 : decode b_M_isLaw 0 = .ok (.iload_n 1, 1) := by decide +kernel
theorem d_M_isLaw_1 : decode b_M_isLaw 1 = .ok (.i2l, 1) := by decide +kernel
theorem d_M_isLaw_2 : decode b_M_isLaw 2 = .ok (.lconst 0, 1) := by decide +kernel
theorem d_M_isLaw_3 : decode b_M_isLaw 3 = .ok (.aload_n 0, 1) := by decide +kernel
theorem d_M_isLaw_4 : decode b_M_isLaw 4 = .ok (.getfield 7, 3) := by decide +kernel
theorem d_M_isLaw_7 : decode b_M_isLaw 7 = .ok (.iconst 2, 1) := by decide +kernel
theorem d_M_isLaw_8 : decode b_M_isLaw 8 = .ok (.iaload, 1) := by decide +kernel
theorem d_M_isLaw_9 : decode b_M_isLaw 9 = .ok (.i2l, 1) := by decide +kernel
theorem d_M_isLaw_10 : decode b_M_isLaw 10 = .ok (.lconst 1, 1) := by decide +kernel
theorem d_M_isLaw_11 : decode b_M_isLaw 11 = .ok (.lsub, 1) := by decide +kernel
theorem d_M_isLaw_12 : decode b_M_isLaw 12 = .ok (.invokestatic 69, 3) := by decide +kernel
theorem d_M_isLaw_15 : decode b_M_isLaw 15 = .ok (.ireturn, 1) := by decide +kernel
theorem d_M_removeLaw_0 : decode b_M_removeLaw 0 = .ok (.aload_n 0, 1) := by decide +kernel
theorem d_M_removeLaw_1 : decode b_M_removeLaw 1 = .ok (.iload_n 1, 1) := by decide +kernel
theorem d_M_removeLaw_2 : decode b_M_removeLaw 2 = .ok (.invokevirtual 189, 3) := by decide +kernel
theorem d_M_removeLaw_5 : decode b_M_removeLaw 5 = .ok (.ifCond .ne 5, 3) := by decide +kernel
theorem d_M_removeLaw_8 : decode b_M_removeLaw 8 = .ok (.iconst (-1), 1) := by decide +kernel
theorem d_M_removeLaw_9 : decode b_M_removeLaw 9 = .ok (.ireturn, 1) := by decide +kernel
theorem d_M_removeLaw_10 : decode b_M_removeLaw 10 = .ok (.aload_n 0, 1) := by decide +kernel
theorem d_M_removeLaw_11 : decode b_M_removeLaw 11 = .ok (.invokevirtual 128, 3) := by decide +kernel
theorem d_M_removeLaw_14 : decode b_M_removeLaw 14 = .ok (.aload_n 0, 1) := by decide +kernel
theorem d_M_removeLaw_15 : decode b_M_removeLaw 15 = .ok (.getfield 7, 3) := by decide +kernel
theorem d_M_removeLaw_18 : decode b_M_removeLaw 18 = .ok (.iconst 2, 1) := by decide +kernel
theorem d_M_removeLaw_19 : decode b_M_removeLaw 19 = .ok (.dup2, 1) := by decide +kernel
theorem d_M_removeLaw_20 : decode b_M_removeLaw 20 = .ok (.iaload, 1) := by decide +kernel
theorem d_M_removeLaw_21 : decode b_M_removeLaw 21 = .ok (.iconst 1, 1) := by decide +kernel
theorem d_M_removeLaw_22 : decode b_M_removeLaw 22 = .ok (.isub, 1) := by decide +kernel
theorem d_M_removeLaw_23 : decode b_M_removeLaw 23 = .ok (.iastore, 1) := by decide +kernel
theorem d_M_removeLaw_24 : decode b_M_removeLaw 24 = .ok (.iload_n 1, 1) := by decide +kernel
theorem d_M_removeLaw_25 : decode b_M_removeLaw 25 = .ok (.invokestatic 86, 3) := by decide +kernel
theorem d_M_removeLaw_28 : decode b_M_removeLaw 28 = .ok (.istore_n 2, 1) := by decide +kernel
theorem d_M_removeLaw_29 : decode b_M_removeLaw 29 = .ok (.iload_n 2, 1) := by decide +kernel
theorem d_M_removeLaw_30 : decode b_M_removeLaw 30 = .ok (.aload_n 0, 1) := by decide +kernel
theorem d_M_removeLaw_31 : decode b_M_removeLaw 31 = .ok (.getfield 7, 3) := by decide +kernel
theorem d_M_removeLaw_34 : decode b_M_removeLaw 34 = .ok (.iconst 2, 1) := by decide +kernel
theorem d_M_removeLaw_35 : decode b_M_removeLaw 35 = .ok (.iaload, 1) := by decide +kernel
theorem d_M_removeLaw_36 : decode b_M_removeLaw 36 = .ok (.invokestatic 86, 3) := by decide +kernel
theorem d_M_removeLaw_39 : decode b_M_removeLaw 39 = .ok (.if_icmp .ge 24, 3) := by decide +kernel
theorem d_M_removeLaw_42 : decode b_M_removeLaw 42 = .ok (.aload_n 0, 1) := by decide +kernel
theorem d_M_removeLaw_43 : decode b_M_removeLaw 43 = .ok (.getfield 7, 3) := by decide +kernel
theorem d_M_removeLaw_46 : decode b_M_removeLaw 46 = .ok (.iload_n 2, 1) := by decide +kernel
theorem d_M_removeLaw_47 : decode b_M_removeLaw 47 = .ok (.aload_n 0, 1) := by decide +kernel
theorem d_M_removeLaw_48 : decode b_M_removeLaw 48 = .ok (.getfield 7, 3) := by decide +kernel
theorem d_M_removeLaw_51 : decode b_M_removeLaw 51 = .ok (.iload_n 2, 1) := by decide +kernel
theorem d_M_removeLaw_52 : decode b_M_removeLaw 52 = .ok (.bipush 33, 2) := by decide +kernel
theorem d_M_removeLaw_54 : decode b_M_removeLaw 54 = .ok (.iadd, 1) := by decide +kernel
theorem d_M_removeLaw_55 : decode b_M_removeLaw 55 = .ok (.iaload, 1) := by decide +kernel
theorem d_M_removeLaw_56 : decode b_M_removeLaw 56 = .ok (.iastore, 1) := by decide +kernel
theorem d_M_removeLaw_57 : decode b_M_removeLaw 57 = .ok (.iinc 2 1, 3) := by decide +kernel
theorem d_M_removeLaw_60 : decode b_M_removeLaw 60 = .ok (.goto (-31), 3) := by decide +kernel
theorem d_M_removeLaw_63 : decode b_M_removeLaw 63 = .ok (.aload_n 0, 1) := by decide +kernel
theorem d_M_removeLaw_64 : decode b_M_removeLaw 64 = .ok (.aload_n 0, 1) := by decide +kernel
theorem d_M_removeLaw_65 : decode b_M_removeLaw 65 = .ok (.getfield 7, 3) := by decide +kernel
theorem d_M_removeLaw_68 : decode b_M_removeLaw 68 = .ok (.iconst 2, 1) := by decide +kernel
theorem d_M_removeLaw_69 : decode b_M_removeLaw 69 = .ok (.iaload, 1) := by decide +kernel
theorem d_M_removeLaw_70 : decode b_M_removeLaw 70 = .ok (.invokevirtual 131, 3) := by decide +kernel
theorem d_M_removeLaw_73 : decode b_M_removeLaw 73 = .ok (.ireturn, 1) := by decide +kernel
theorem d_M_isOn_0 : decode b_M_isOn 0 = .ok (.aload_n 0, 1) := by decide +kernel
theorem d_M_isOn_1 : decode b_M_isOn 1 = .ok (.getfield 7, 3) := by decide +kernel
theorem d_M_isOn_4 : decode b_M_isOn 4 = .ok (.iload_n 1, 1) := by decide +kernel
theorem d_M_isOn_5 : decode b_M_isOn 5 = .ok (.invokestatic 86, 3) := by decide +kernel
theorem d_M_isOn_8 : decode b_M_isOn 8 = .ok (.iaload, 1) := by decide +kernel
theorem d_M_isOn_9 : decode b_M_isOn 9 = .ok (.iconst 1, 1) := by decide +kernel
theorem d_M_isOn_10 : decode b_M_isOn 10 = .ok (.if_icmp .ne 7, 3) := by decide +kernel
theorem d_M_isOn_13 : decode b_M_isOn 13 = .ok (.iconst 1, 1) := by decide +kernel
theorem d_M_isOn_14 : decode b_M_isOn 14 = .ok (.goto 4, 3) := by decide +kernel
theorem d_M_isOn_17 : decode b_M_isOn 17 = .ok (.iconst 0, 1) := by decide +kernel
theorem d_M_isOn_18 : decode b_M_isOn 18 = .ok (.ireturn, 1) := by decide +kernel
