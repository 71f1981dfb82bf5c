theorem d_C_isSize_0 : decode b_C_isSize 0 = .ok (.iload_n 0, 1) := by decide +kernel
theorem d_C_isSize_1 : decode b_C_isSize 1 = .ok (.iconst 1, 1) := by decide +kernel
theorem d_C_isSize_2 : decode b_C_isSize 2 = .ok (.if_icmp .lt 12, 3) := by decide +kernel
theorem d_C_isSize_5 : decode b_C_isSize 5 = .ok (.iload_n 0, 1) := by decide +kernel
theorem d_C_isSize_6 : decode b_C_isSize 6 = .ok (.iconst 3, 1) := by decide +kernel
theorem d_C_isSize_7 : decode b_C_isSize 7 = .ok (.if_icmp .gt 7, 3) := by decide +kernel
theorem d_C_isSize_10 : decode b_C_isSize 10 = .ok (.iconst 1, 1) := by decide +kernel
theorem d_C_isSize_11 : decode b_C_isSize 11 = .ok (.goto 4, 3) := by decide +kernel
theorem d_C_isSize_14 : decode b_C_isSize 14 = .ok (.iconst 0, 1) := by decide +kernel
theorem d_C_isSize_15 : decode b_C_isSize 15 = .ok (.ireturn, 1) := by decide +kernel
theorem d_C_worldCount_0 : decode b_C_worldCount 0 = .ok (.iload_n 0, 1) := by decide +kernel
theorem d_C_worldCount_1 : decode b_C_worldCount 1 = .ok (.iconst 3, 1) := by decide +kernel
theorem d_C_worldCount_2 : decode b_C_worldCount 2 = .ok (.if_icmp .ne 9, 3) := by decide +kernel
theorem d_C_worldCount_5 : decode b_C_worldCount 5 = .ok (.sipush 19683, 3) := by decide +kernel
theorem d_C_worldCount_8 : decode b_C_worldCount 8 = .ok (.goto 14, 3) := by decide +kernel
theorem d_C_worldCount_11 : decode b_C_worldCount 11 = .ok (.iload_n 0, 1) := by decide +kernel
theorem d_C_worldCount_12 : decode b_C_worldCount 12 = .ok (.iconst 2, 1) := by decide +kernel
theorem d_C_worldCount_13 : decode b_C_worldCount 13 = .ok (.if_icmp .ne 8, 3) := by decide +kernel
theorem d_C_worldCount_16 : decode b_C_worldCount 16 = .ok (.bipush 16, 2) := by decide +kernel
theorem d_C_worldCount_18 : decode b_C_worldCount 18 = .ok (.goto 4, 3) := by decide +kernel
theorem d_C_worldCount_21 : decode b_C_worldCount 21 = .ok (.iconst 1, 1) := by decide +kernel
theorem d_C_worldCount_22 : decode b_C_worldCount 22 = .ok (.ireturn, 1) := by decide +kernel
theorem d_C_isCode_0 : decode b_C_isCode 0 = .ok (.iload_n 0, 1) := by decide +kernel
theorem d_C_isCode_1 : decode b_C_isCode 1 = .ok (.invokestatic 9, 3) := by decide +kernel
theorem d_C_isCode_4 : decode b_C_isCode 4 = .ok (.ifCond .eq 19, 3) := by decide +kernel
theorem d_C_isCode_7 : decode b_C_isCode 7 = .ok (.iload_n 1, 1) := by decide +kernel
theorem d_C_isCode_8 : decode b_C_isCode 8 = .ok (.ifCond .lt 15, 3) := by decide +kernel
theorem d_C_isCode_11 : decode b_C_isCode 11 = .ok (.iload_n 1, 1) := by decide +kernel
theorem d_C_isCode_12 : decode b_C_isCode 12 = .ok (.iload_n 0, 1) := by decide +kernel
theorem d_C_isCode_13 : decode b_C_isCode 13 = .ok (.invokestatic 15, 3) := by decide +kernel
theorem d_C_isCode_16 : decode b_C_isCode 16 = .ok (.if_icmp .ge 7, 3) := by decide +kernel
theorem d_C_isCode_19 : decode b_C_isCode 19 = .ok (.iconst 1, 1) := by decide +kernel
theorem d_C_isCode_20 : decode b_C_isCode 20 = .ok (.goto 4, 3) := by decide +kernel
theorem d_C_isCode_23 : decode b_C_isCode 23 = .ok (.iconst 0, 1) := by decide +kernel
theorem d_C_isCode_24 : decode b_C_isCode 24 = .ok (.ireturn, 1) := by decide +kernel
theorem d_C_power_0 : decode b_C_power 0 = .ok (.iload_n 1, 1) := by decide +kernel
theorem d_C_power_1 : decode b_C_power 1 = .ok (.ifCond .lt 11, 3) := by decide +kernel
theorem d_C_power_4 : decode b_C_power 4 = .ok (.iload_n 1, 1) := by decide +kernel
theorem d_C_power_5 : decode b_C_power 5 = .ok (.getstatic 19, 3) := by decide +kernel
theorem d_C_power_8 : decode b_C_power 8 = .ok (.arraylength, 1) := by decide +kernel
theorem d_C_power_9 : decode b_C_power 9 = .ok (.if_icmp .lt 5, 3) := by decide +kernel
theorem d_C_power_12 : decode b_C_power 12 = .ok (.iconst 1, 1) := by decide +kernel
theorem d_C_power_13 : decode b_C_power 13 = .ok (.ireturn, 1) := by decide +kernel
theorem d_C_power_14 : decode b_C_power 14 = .ok (.iload_n 0, 1) := by decide +kernel
theorem d_C_power_15 : decode b_C_power 15 = .ok (.iconst 3, 1) := by decide +kernel
theorem d_C_power_16 : decode b_C_power 16 = .ok (.if_icmp .ne 11, 3) := by decide +kernel
theorem d_C_power_19 : decode b_C_power 19 = .ok (.getstatic 19, 3) := by decide +kernel
theorem d_C_power_22 : decode b_C_power 22 = .ok (.iload_n 1, 1) := by decide +kernel
theorem d_C_power_23 : decode b_C_power 23 = .ok (.iaload, 1) := by decide +kernel
theorem d_C_power_24 : decode b_C_power 24 = .ok (.goto 15, 3) := by decide +kernel
theorem d_C_power_27 : decode b_C_power 27 = .ok (.iload_n 0, 1) := by decide +kernel
theorem d_C_power_28 : decode b_C_power 28 = .ok (.iconst 2, 1) := by decide +kernel
theorem d_C_power_29 : decode b_C_power 29 = .ok (.if_icmp .ne 9, 3) := by decide +kernel
theorem d_C_power_32 : decode b_C_power 32 = .ok (.iconst 1, 1) := by decide +kernel
theorem d_C_power_33 : decode b_C_power 33 = .ok (.iload_n 1, 1) := by decide +kernel
theorem d_C_power_34 : decode b_C_power 34 = .ok (.ishl, 1) := by decide +kernel
theorem d_C_power_35 : decode b_C_power 35 = .ok (.goto 4, 3) := by decide +kernel
theorem d_C_power_38 : decode b_C_power 38 = .ok (.iconst 1, 1) := by decide +kernel
theorem d_C_power_39 : decode b_C_power 39 = .ok (.ireturn, 1) := by decide +kernel
theorem d_C_product_0 : decode b_C_product 0 = .ok (.iload_n 0, 1) := by decide +kernel
theorem d_C_product_1 : decode b_C_product 1 = .ok (.invokestatic 9, 3) := by decide +kernel
theorem d_C_product_4 : decode b_C_product 4 = .ok (.ifCond .ne 5, 3) := by decide +kernel
theorem d_C_product_7 : decode b_C_product 7 = .ok (.iconst 0, 1) := by decide +kernel
theorem d_C_product_8 : decode b_C_product 8 = .ok (.ireturn, 1) := by decide +kernel
theorem d_C_product_9 : decode b_C_product 9 = .ok (.iload_n 0, 1) := by decide +kernel
theorem d_C_product_10 : decode b_C_product 10 = .ok (.iload_n 0, 1) := by decide +kernel
theorem d_C_product_11 : decode b_C_product 11 = .ok (.iload_n 2, 1) := by decide +kernel
theorem d_C_product_12 : decode b_C_product 12 = .ok (.imul, 1) := by decide +kernel
theorem d_C_product_13 : decode b_C_product 13 = .ok (.iload_n 3, 1) := by decide +kernel
theorem d_C_product_14 : decode b_C_product 14 = .ok (.iadd, 1) := by decide +kernel
theorem d_C_product_15 : decode b_C_product 15 = .ok (.invokestatic 23, 3) := by decide +kernel
theorem d_C_product_18 : decode b_C_product 18 = .ok (.istore 4, 2) := by decide +kernel
theorem d_C_product_20 : decode b_C_product 20 = .ok (.iload 4, 2) := by decide +kernel
theorem d_C_product_22 : decode b_C_product 22 = .ok (.ifCond .ne 7, 3) := by decide +kernel
theorem d_C_product_25 : decode b_C_product 25 = .ok (.iconst 0, 1) := by decide +kernel
theorem d_C_product_26 : decode b_C_product 26 = .ok (.goto 9, 3) := by decide +kernel
theorem d_C_product_29 : decode b_C_product 29 = .ok (.iload_n 1, 1) := by decide +kernel
theorem d_C_product_30 : decode b_C_product 30 = .ok (.iload 4, 2) := by decide +kernel
theorem d_C_product_32 : decode b_C_product 32 = .ok (.idiv, 1) := by decide +kernel
theorem d_C_product_33 : decode b_C_product 33 = .ok (.iload_n 0, 1) := by decide +kernel
theorem d_C_product_34 : decode b_C_product 34 = .ok (.irem, 1) := by decide +kernel
theorem d_C_product_35 : decode b_C_product 35 = .ok (.ireturn, 1) := by decide +kernel
theorem d_C_exchange_0 : decode b_C_exchange 0 = .ok (.iload_n 0, 1) := by decide +kernel
theorem d_C_exchange_1 : decode b_C_exchange 1 = .ok (.iload_n 1, 1) := by decide +kernel
theorem d_C_exchange_2 : decode b_C_exchange 2 = .ok (.iadd, 1) := by decide +kernel
theorem d_C_exchange_3 : decode b_C_exchange 3 = .ok (.ireturn, 1) := by decide +kernel
theorem d_C_newName_0 : decode b_C_newName 0 = .ok (.iconst 3, 1) := by decide +kernel
theorem d_C_newName_1 : decode b_C_newName 1 = .ok (.iload_n 0, 1) := by decide +kernel
theorem d_C_newName_2 : decode b_C_newName 2 = .ok (.imul, 1) := by decide +kernel
theorem d_C_newName_3 : decode b_C_newName 3 = .ok (.iload_n 1, 1) := by decide +kernel
theorem d_C_newName_4 : decode b_C_newName 4 = .ok (.iadd, 1) := by decide +kernel
theorem d_C_newName_5 : decode b_C_newName 5 = .ok (.istore_n 2, 1) := by decide +kernel
theorem d_C_newName_6 : decode b_C_newName 6 = .ok (.iload_n 2, 1) := by decide +kernel
theorem d_C_newName_7 : decode b_C_newName 7 = .ok (.ifCond .lt 19, 3) := by decide +kernel
theorem d_C_newName_10 : decode b_C_newName 10 = .ok (.iload_n 2, 1) := by decide +kernel
theorem d_C_newName_11 : decode b_C_newName 11 = .ok (.getstatic 27, 3) := by decide +kernel
theorem d_C_newName_14 : decode b_C_newName 14 = .ok (.arraylength, 1) := by decide +kernel
theorem d_C_newName_15 : decode b_C_newName 15 = .ok (.if_icmp .ge 11, 3) := by decide +kernel
theorem d_C_newName_18 : decode b_C_newName 18 = .ok (.getstatic 27, 3) := by decide +kernel
theorem d_C_newName_21 : decode b_C_newName 21 = .ok (.iload_n 2, 1) := by decide +kernel
theorem d_C_newName_22 : decode b_C_newName 22 = .ok (.iaload, 1) := by decide +kernel
theorem d_C_newName_23 : decode b_C_newName 23 = .ok (.goto 4, 3) := by decide +kernel
theorem d_C_newName_26 : decode b_C_newName 26 = .ok (.iload_n 1, 1) := by decide +kernel
theorem d_C_newName_27 : decode b_C_newName 27 = .ok (.ireturn, 1) := by decide +kernel
theorem d_C_renamed_0 : decode b_C_renamed 0 = .ok (.iload_n 0, 1) := by decide +kernel
theorem d_C_renamed_1 : decode b_C_renamed 1 = .ok (.invokestatic 9, 3) := by decide +kernel
theorem d_C_renamed_4 : decode b_C_renamed 4 = .ok (.ifCond .ne 5, 3) := by decide +kernel
theorem d_C_renamed_7 : decode b_C_renamed 7 = .ok (.iload_n 1, 1) := by decide +kernel
theorem d_C_renamed_8 : decode b_C_renamed 8 = .ok (.ireturn, 1) := by decide +kernel
theorem d_C_renamed_9 : decode b_C_renamed 9 = .ok (.iconst 0, 1) := by decide +kernel
theorem d_C_renamed_10 : decode b_C_renamed 10 = .ok (.istore_n 3, 1) := by decide +kernel
theorem d_C_renamed_11 : decode b_C_renamed 11 = .ok (.iload_n 1, 1) := by decide +kernel
theorem d_C_renamed_12 : decode b_C_renamed 12 = .ok (.istore 4, 2) := by decide +kernel
theorem d_C_renamed_14 : decode b_C_renamed 14 = .ok (.iconst 0, 1) := by decide +kernel
theorem d_C_renamed_15 : decode b_C_renamed 15 = .ok (.istore 5, 2) := by decide +kernel
theorem d_C_renamed_17 : decode b_C_renamed 17 = .ok (.iload 5, 2) := by decide +kernel
theorem d_C_renamed_19 : decode b_C_renamed 19 = .ok (.iload_n 0, 1) := by decide +kernel
theorem d_C_renamed_20 : decode b_C_renamed 20 = .ok (.if_icmp .ge 69, 3) := by decide +kernel
theorem d_C_renamed_23 : decode b_C_renamed 23 = .ok (.iload_n 0, 1) := by decide +kernel
theorem d_C_renamed_24 : decode b_C_renamed 24 = .ok (.iload_n 2, 1) := by decide +kernel
theorem d_C_renamed_25 : decode b_C_renamed 25 = .ok (.iload 5, 2) := by decide +kernel
theorem d_C_renamed_27 : decode b_C_renamed 27 = .ok (.invokestatic 30, 3) := by decide +kernel
theorem d_C_renamed_30 : decode b_C_renamed 30 = .ok (.imul, 1) := by decide +kernel
theorem d_C_renamed_31 : decode b_C_renamed 31 = .ok (.istore 6, 2) := by decide +kernel
theorem d_C_renamed_33 : decode b_C_renamed 33 = .ok (.iconst 0, 1) := by decide +kernel
theorem d_C_renamed_34 : decode b_C_renamed 34 = .ok (.istore 7, 2) := by decide +kernel
theorem d_C_renamed_36 : decode b_C_renamed 36 = .ok (.iload 7, 2) := by decide +kernel
theorem d_C_renamed_38 : decode b_C_renamed 38 = .ok (.iload_n 0, 1) := by decide +kernel
theorem d_C_renamed_39 : decode b_C_renamed 39 = .ok (.if_icmp .ge 44, 3) := by decide +kernel
theorem d_C_renamed_42 : decode b_C_renamed 42 = .ok (.iload_n 2, 1) := by decide +kernel
theorem d_C_renamed_43 : decode b_C_renamed 43 = .ok (.iload 4, 2) := by decide +kernel
theorem d_C_renamed_45 : decode b_C_renamed 45 = .ok (.iload_n 0, 1) := by decide +kernel
theorem d_C_renamed_46 : decode b_C_renamed 46 = .ok (.irem, 1) := by decide +kernel
theorem d_C_renamed_47 : decode b_C_renamed 47 = .ok (.invokestatic 30, 3) := by decide +kernel
theorem d_C_renamed_50 : decode b_C_renamed 50 = .ok (.istore 8, 2) := by decide +kernel
theorem d_C_renamed_52 : decode b_C_renamed 52 = .ok (.iload 4, 2) := by decide +kernel
theorem d_C_renamed_54 : decode b_C_renamed 54 = .ok (.iload_n 0, 1) := by decide +kernel
theorem d_C_renamed_55 : decode b_C_renamed 55 = .ok (.idiv, 1) := by decide +kernel
theorem d_C_renamed_56 : decode b_C_renamed 56 = .ok (.istore 4, 2) := by decide +kernel
theorem d_C_renamed_58 : decode b_C_renamed 58 = .ok (.iload_n 3, 1) := by decide +kernel
theorem d_C_renamed_59 : decode b_C_renamed 59 = .ok (.iload 8, 2) := by decide +kernel
theorem d_C_renamed_61 : decode b_C_renamed 61 = .ok (.iload_n 0, 1) := by decide +kernel
theorem d_C_renamed_62 : decode b_C_renamed 62 = .ok (.iload 6, 2) := by decide +kernel
theorem d_C_renamed_64 : decode b_C_renamed 64 = .ok (.iload_n 2, 1) := by decide +kernel
theorem d_C_renamed_65 : decode b_C_renamed 65 = .ok (.iload 7, 2) := by decide +kernel
theorem d_C_renamed_67 : decode b_C_renamed 67 = .ok (.invokestatic 30, 3) := by decide +kernel
theorem d_C_renamed_70 : decode b_C_renamed 70 = .ok (.iadd, 1) := by decide +kernel
theorem d_C_renamed_71 : decode b_C_renamed 71 = .ok (.invokestatic 23, 3) := by decide +kernel
theorem d_C_renamed_74 : decode b_C_renamed 74 = .ok (.imul, 1) := by decide +kernel
theorem d_C_renamed_75 : decode b_C_renamed 75 = .ok (.iadd, 1) := by decide +kernel
theorem d_C_renamed_76 : decode b_C_renamed 76 = .ok (.istore_n 3, 1) := by decide +kernel
theorem d_C_renamed_77 : decode b_C_renamed 77 = .ok (.iinc 7 1, 3) := by decide +kernel
theorem d_C_renamed_80 : decode b_C_renamed 80 = .ok (.goto (-44), 3) := by decide +kernel
theorem d_C_renamed_83 : decode b_C_renamed 83 = .ok (.iinc 5 1, 3) := by decide +kernel
theorem d_C_renamed_86 : decode b_C_renamed 86 = .ok (.goto (-69), 3) := by decide +kernel
theorem d_C_renamed_89 : decode b_C_renamed 89 = .ok (.iload_n 3, 1) := by decide +kernel
theorem d_C_renamed_90 : decode b_C_renamed 90 = .ok (.ireturn, 1) := by decide +kernel
theorem d_C_mirrored_0 : decode b_C_mirrored 0 = .ok (.iconst 0, 1) := by decide +kernel
theorem d_C_mirrored_1 : decode b_C_mirrored 1 = .ok (.istore_n 2, 1) := by decide +kernel
theorem d_C_mirrored_2 : decode b_C_mirrored 2 = .ok (.iconst 0, 1) := by decide +kernel
theorem d_C_mirrored_3 : decode b_C_mirrored 3 = .ok (.istore_n 3, 1) := by decide +kernel
theorem d_C_mirrored_4 : decode b_C_mirrored 4 = .ok (.iload_n 3, 1) := by decide +kernel
theorem d_C_mirrored_5 : decode b_C_mirrored 5 = .ok (.iload_n 0, 1) := by decide +kernel
theorem d_C_mirrored_6 : decode b_C_mirrored 6 = .ok (.if_icmp .ge 46, 3) := by decide +kernel
theorem d_C_mirrored_9 : decode b_C_mirrored 9 = .ok (.iconst 0, 1) := by decide +kernel
theorem d_C_mirrored_10 : decode b_C_mirrored 10 = .ok (.istore 4, 2) := by decide +kernel
theorem d_C_mirrored_12 : decode b_C_mirrored 12 = .ok (.iload 4, 2) := by decide +kernel
theorem d_C_mirrored_14 : decode b_C_mirrored 14 = .ok (.iload_n 0, 1) := by decide +kernel
theorem d_C_mirrored_15 : decode b_C_mirrored 15 = .ok (.if_icmp .ge 31, 3) := by decide +kernel
theorem d_C_mirrored_18 : decode b_C_mirrored 18 = .ok (.iload_n 2, 1) := by decide +kernel
theorem d_C_mirrored_19 : decode b_C_mirrored 19 = .ok (.iload_n 0, 1) := by decide +kernel
theorem d_C_mirrored_20 : decode b_C_mirrored 20 = .ok (.iload_n 1, 1) := by decide +kernel
theorem d_C_mirrored_21 : decode b_C_mirrored 21 = .ok (.iload_n 3, 1) := by decide +kernel
theorem d_C_mirrored_22 : decode b_C_mirrored 22 = .ok (.iload 4, 2) := by decide +kernel
theorem d_C_mirrored_24 : decode b_C_mirrored 24 = .ok (.invokestatic 33, 3) := by decide +kernel
theorem d_C_mirrored_27 : decode b_C_mirrored 27 = .ok (.iload_n 0, 1) := by decide +kernel
theorem d_C_mirrored_28 : decode b_C_mirrored 28 = .ok (.iload_n 0, 1) := by decide +kernel
theorem d_C_mirrored_29 : decode b_C_mirrored 29 = .ok (.iload 4, 2) := by decide +kernel
theorem d_C_mirrored_31 : decode b_C_mirrored 31 = .ok (.imul, 1) := by decide +kernel
theorem d_C_mirrored_32 : decode b_C_mirrored 32 = .ok (.iload_n 3, 1) := by decide +kernel
theorem d_C_mirrored_33 : decode b_C_mirrored 33 = .ok (.iadd, 1) := by decide +kernel
theorem d_C_mirrored_34 : decode b_C_mirrored 34 = .ok (.invokestatic 23, 3) := by decide +kernel
theorem d_C_mirrored_37 : decode b_C_mirrored 37 = .ok (.imul, 1) := by decide +kernel
theorem d_C_mirrored_38 : decode b_C_mirrored 38 = .ok (.iadd, 1) := by decide +kernel
theorem d_C_mirrored_39 : decode b_C_mirrored 39 = .ok (.istore_n 2, 1) := by decide +kernel
theorem d_C_mirrored_40 : decode b_C_mirrored 40 = .ok (.iinc 4 1, 3) := by decide +kernel
theorem d_C_mirrored_43 : decode b_C_mirrored 43 = .ok (.goto (-31), 3) := by decide +kernel
theorem d_C_mirrored_46 : decode b_C_mirrored 46 = .ok (.iinc 3 1, 3) := by decide +kernel
theorem d_C_mirrored_49 : decode b_C_mirrored 49 = .ok (.goto (-45), 3) := by decide +kernel
theorem d_C_mirrored_52 : decode b_C_mirrored 52 = .ok (.iload_n 2, 1) := by decide +kernel
theorem d_C_mirrored_53 : decode b_C_mirrored 53 = .ok (.ireturn, 1) := by decide +kernel
theorem d_C_renamingCount_0 : decode b_C_renamingCount 0 = .ok (.iload_n 0, 1) := by decide +kernel
theorem d_C_renamingCount_1 : decode b_C_renamingCount 1 = .ok (.iconst 3, 1) := by decide +kernel
theorem d_C_renamingCount_2 : decode b_C_renamingCount 2 = .ok (.if_icmp .ne 8, 3) := by decide +kernel
theorem d_C_renamingCount_5 : decode b_C_renamingCount 5 = .ok (.bipush 6, 2) := by decide +kernel
theorem d_C_renamingCount_7 : decode b_C_renamingCount 7 = .ok (.goto 13, 3) := by decide +kernel
theorem d_C_renamingCount_10 : decode b_C_renamingCount 10 = .ok (.iload_n 0, 1) := by decide +kernel
theorem d_C_renamingCount_11 : decode b_C_renamingCount 11 = .ok (.iconst 2, 1) := by decide +kernel
theorem d_C_renamingCount_12 : decode b_C_renamingCount 12 = .ok (.if_icmp .ne 7, 3) := by decide +kernel
theorem d_C_renamingCount_15 : decode b_C_renamingCount 15 = .ok (.iconst 2, 1) := by decide +kernel
theorem d_C_renamingCount_16 : decode b_C_renamingCount 16 = .ok (.goto 4, 3) := by decide +kernel
theorem d_C_renamingCount_19 : decode b_C_renamingCount 19 = .ok (.iconst 1, 1) := by decide +kernel
theorem d_C_renamingCount_20 : decode b_C_renamingCount 20 = .ok (.ireturn, 1) := by decide +kernel
theorem d_I_bitCount_0 : decode b_I_bitCount 0 = .ok (.iload_n 0, 1) := by decide +kernel
theorem d_I_bitCount_1 : decode b_I_bitCount 1 = .ok (.iload_n 0, 1) := by decide +kernel
theorem d_I_bitCount_2 : decode b_I_bitCount 2 = .ok (.iconst 1, 1) := by decide +kernel
theorem d_I_bitCount_3 : decode b_I_bitCount 3 = .ok (.iushr, 1) := by decide +kernel
theorem d_I_bitCount_4 : decode b_I_bitCount 4 = .ok (.ldc_w 265, 3) := by decide +kernel
theorem d_I_bitCount_7 : decode b_I_bitCount 7 = .ok (.iand, 1) := by decide +kernel
theorem d_I_bitCount_8 : decode b_I_bitCount 8 = .ok (.isub, 1) := by decide +kernel
theorem d_I_bitCount_9 : decode b_I_bitCount 9 = .ok (.istore_n 0, 1) := by decide +kernel
theorem d_I_bitCount_10 : decode b_I_bitCount 10 = .ok (.iload_n 0, 1) := by decide +kernel
theorem d_I_bitCount_11 : decode b_I_bitCount 11 = .ok (.ldc_w 266, 3) := by decide +kernel
theorem d_I_bitCount_14 : decode b_I_bitCount 14 = .ok (.iand, 1) := by decide +kernel
theorem d_I_bitCount_15 : decode b_I_bitCount 15 = .ok (.iload_n 0, 1) := by decide +kernel
theorem d_I_bitCount_16 : decode b_I_bitCount 16 = .ok (.iconst 2, 1) := by decide +kernel
theorem d_I_bitCount_17 : decode b_I_bitCount 17 = .ok (.iushr, 1) := by decide +kernel
theorem d_I_bitCount_18 : decode b_I_bitCount 18 = .ok (.ldc_w 266, 3) := by decide +kernel
theorem d_I_bitCount_21 : decode b_I_bitCount 21 = .ok (.iand, 1) := by decide +kernel
theorem d_I_bitCount_22 : decode b_I_bitCount 22 = .ok (.iadd, 1) := by decide +kernel
theorem d_I_bitCount_23 : decode b_I_bitCount 23 = .ok (.istore_n 0, 1) := by decide +kernel
theorem d_I_bitCount_24 : decode b_I_bitCount 24 = .ok (.iload_n 0, 1) := by decide +kernel
theorem d_I_bitCount_25 : decode b_I_bitCount 25 = .ok (.iload_n 0, 1) := by decide +kernel
theorem d_I_bitCount_26 : decode b_I_bitCount 26 = .ok (.iconst 4, 1) := by decide +kernel
theorem d_I_bitCount_27 : decode b_I_bitCount 27 = .ok (.iushr, 1) := by decide +kernel
theorem d_I_bitCount_28 : decode b_I_bitCount 28 = .ok (.iadd, 1) := by decide +kernel
theorem d_I_bitCount_29 : decode b_I_bitCount 29 = .ok (.ldc_w 267, 3) := by decide +kernel
theorem d_I_bitCount_32 : decode b_I_bitCount 32 = .ok (.iand, 1) := by decide +kernel
theorem d_I_bitCount_33 : decode b_I_bitCount 33 = .ok (.istore_n 0, 1) := by decide +kernel
theorem d_I_bitCount_34 : decode b_I_bitCount 34 = .ok (.iload_n 0, 1) := by decide +kernel
theorem d_I_bitCount_35 : decode b_I_bitCount 35 = .ok (.iload_n 0, 1) := by decide +kernel
theorem d_I_bitCount_36 : decode b_I_bitCount 36 = .ok (.bipush 8, 2) := by decide +kernel
theorem d_I_bitCount_38 : decode b_I_bitCount 38 = .ok (.iushr, 1) := by decide +kernel
theorem d_I_bitCount_39 : decode b_I_bitCount 39 = .ok (.iadd, 1) := by decide +kernel
theorem d_I_bitCount_40 : decode b_I_bitCount 40 = .ok (.istore_n 0, 1) := by decide +kernel
theorem d_I_bitCount_41 : decode b_I_bitCount 41 = .ok (.iload_n 0, 1) := by decide +kernel
theorem d_I_bitCount_42 : decode b_I_bitCount 42 = .ok (.iload_n 0, 1) := by decide +kernel
theorem d_I_bitCount_43 : decode b_I_bitCount 43 = .ok (.bipush 16, 2) := by decide +kernel
theorem d_I_bitCount_45 : decode b_I_bitCount 45 = .ok (.iushr, 1) := by decide +kernel
theorem d_I_bitCount_46 : decode b_I_bitCount 46 = .ok (.iadd, 1) := by decide +kernel
theorem d_I_bitCount_47 : decode b_I_bitCount 47 = .ok (.istore_n 0, 1) := by decide +kernel
theorem d_I_bitCount_48 : decode b_I_bitCount 48 = .ok (.iload_n 0, 1) := by decide +kernel
theorem d_I_bitCount_49 : decode b_I_bitCount 49 = .ok (.bipush 63, 2) := by decide +kernel
theorem d_I_bitCount_51 : decode b_I_bitCount 51 = .ok (.iand, 1) := by decide +kernel
theorem d_I_bitCount_52 : decode b_I_bitCount 52 = .ok (.ireturn, 1) := by decide +kernel
theorem d_C_plainCode_0 : decode b_C_plainCode 0 = .ok (.iload_n 1, 1) := by decide +kernel
theorem d_C_plainCode_1 : decode b_C_plainCode 1 = .ok (.istore_n 2, 1) := by decide +kernel
theorem d_C_plainCode_2 : decode b_C_plainCode 2 = .ok (.iconst 1, 1) := by decide +kernel
theorem d_C_plainCode_3 : decode b_C_plainCode 3 = .ok (.istore_n 3, 1) := by decide +kernel
theorem d_C_plainCode_4 : decode b_C_plainCode 4 = .ok (.iload_n 3, 1) := by decide +kernel
theorem d_C_plainCode_5 : decode b_C_plainCode 5 = .ok (.iload_n 0, 1) := by decide +kernel
theorem d_C_plainCode_6 : decode b_C_plainCode 6 = .ok (.invokestatic 37, 3) := by decide +kernel
theorem d_C_plainCode_9 : decode b_C_plainCode 9 = .ok (.if_icmp .ge 20, 3) := by decide +kernel
theorem d_C_plainCode_12 : decode b_C_plainCode 12 = .ok (.iload_n 2, 1) := by decide +kernel
theorem d_C_plainCode_13 : decode b_C_plainCode 13 = .ok (.iload_n 0, 1) := by decide +kernel
theorem d_C_plainCode_14 : decode b_C_plainCode 14 = .ok (.iload_n 1, 1) := by decide +kernel
theorem d_C_plainCode_15 : decode b_C_plainCode 15 = .ok (.iload_n 3, 1) := by decide +kernel
theorem d_C_plainCode_16 : decode b_C_plainCode 16 = .ok (.invokestatic 40, 3) := by decide +kernel
theorem d_C_plainCode_19 : decode b_C_plainCode 19 = .ok (.invokestatic 44, 3) := by decide +kernel
theorem d_C_plainCode_22 : decode b_C_plainCode 22 = .ok (.istore_n 2, 1) := by decide +kernel
theorem d_C_plainCode_23 : decode b_C_plainCode 23 = .ok (.iinc 3 1, 3) := by decide +kernel
theorem d_C_plainCode_26 : decode b_C_plainCode 26 = .ok (.goto (-22), 3) := by decide +kernel
theorem d_C_plainCode_29 : decode b_C_plainCode 29 = .ok (.iload_n 2, 1) := by decide +kernel
theorem d_C_plainCode_30 : decode b_C_plainCode 30 = .ok (.ireturn, 1) := by decide +kernel
theorem d_C_alikeCount_0 : decode b_C_alikeCount 0 = .ok (.iconst 1, 1) := by decide +kernel
theorem d_C_alikeCount_1 : decode b_C_alikeCount 1 = .ok (.istore_n 2, 1) := by decide +kernel
theorem d_C_alikeCount_2 : decode b_C_alikeCount 2 = .ok (.iconst 1, 1) := by decide +kernel
theorem d_C_alikeCount_3 : decode b_C_alikeCount 3 = .ok (.istore_n 3, 1) := by decide +kernel
theorem d_C_alikeCount_4 : decode b_C_alikeCount 4 = .ok (.iload_n 3, 1) := by decide +kernel
theorem d_C_alikeCount_5 : decode b_C_alikeCount 5 = .ok (.iload_n 0, 1) := by decide +kernel
theorem d_C_alikeCount_6 : decode b_C_alikeCount 6 = .ok (.invokestatic 37, 3) := by decide +kernel
theorem d_C_alikeCount_9 : decode b_C_alikeCount 9 = .ok (.if_icmp .ge 22, 3) := by decide +kernel
theorem d_C_alikeCount_12 : decode b_C_alikeCount 12 = .ok (.iload_n 0, 1) := by decide +kernel
theorem d_C_alikeCount_13 : decode b_C_alikeCount 13 = .ok (.iload_n 1, 1) := by decide +kernel
theorem d_C_alikeCount_14 : decode b_C_alikeCount 14 = .ok (.iload_n 3, 1) := by decide +kernel
theorem d_C_alikeCount_15 : decode b_C_alikeCount 15 = .ok (.invokestatic 40, 3) := by decide +kernel
theorem d_C_alikeCount_18 : decode b_C_alikeCount 18 = .ok (.iload_n 1, 1) := by decide +kernel
theorem d_C_alikeCount_19 : decode b_C_alikeCount 19 = .ok (.if_icmp .ne 6, 3) := by decide +kernel
theorem d_C_alikeCount_22 : decode b_C_alikeCount 22 = .ok (.iinc 2 1, 3) := by decide +kernel
theorem d_C_alikeCount_25 : decode b_C_alikeCount 25 = .ok (.iinc 3 1, 3) := by decide +kernel
theorem d_C_alikeCount_28 : decode b_C_alikeCount 28 = .ok (.goto (-24), 3) := by decide +kernel
theorem d_C_alikeCount_31 : decode b_C_alikeCount 31 = .ok (.iload_n 2, 1) := by decide +kernel
theorem d_C_alikeCount_32 : decode b_C_alikeCount 32 = .ok (.ifCond .ne 7, 3) := by decide +kernel
theorem d_C_alikeCount_35 : decode b_C_alikeCount 35 = .ok (.iconst 0, 1) := by decide +kernel
theorem d_C_alikeCount_36 : decode b_C_alikeCount 36 = .ok (.goto 9, 3) := by decide +kernel
theorem d_C_alikeCount_39 : decode b_C_alikeCount 39 = .ok (.iload_n 0, 1) := by decide +kernel
theorem d_C_alikeCount_40 : decode b_C_alikeCount 40 = .ok (.invokestatic 37, 3) := by decide +kernel
theorem d_C_alikeCount_43 : decode b_C_alikeCount 43 = .ok (.iload_n 2, 1) := by decide +kernel
theorem d_C_alikeCount_44 : decode b_C_alikeCount 44 = .ok (.idiv, 1) := by decide +kernel
theorem d_C_alikeCount_45 : decode b_C_alikeCount 45 = .ok (.ireturn, 1) := by decide +kernel
theorem d_C_stayingThings_0 : decode b_C_stayingThings 0 = .ok (.iconst 0, 1) := by decide +kernel
theorem d_C_stayingThings_1 : decode b_C_stayingThings 1 = .ok (.istore_n 2, 1) := by decide +kernel
theorem d_C_stayingThings_2 : decode b_C_stayingThings 2 = .ok (.iconst 0, 1) := by decide +kernel
theorem d_C_stayingThings_3 : decode b_C_stayingThings 3 = .ok (.istore_n 3, 1) := by decide +kernel
theorem d_C_stayingThings_4 : decode b_C_stayingThings 4 = .ok (.iload_n 3, 1) := by decide +kernel
theorem d_C_stayingThings_5 : decode b_C_stayingThings 5 = .ok (.iload_n 0, 1) := by decide +kernel
theorem d_C_stayingThings_6 : decode b_C_stayingThings 6 = .ok (.if_icmp .ge 26, 3) := by decide +kernel
theorem d_C_stayingThings_9 : decode b_C_stayingThings 9 = .ok (.iload_n 0, 1) := by decide +kernel
theorem d_C_stayingThings_10 : decode b_C_stayingThings 10 = .ok (.iload_n 1, 1) := by decide +kernel
theorem d_C_stayingThings_11 : decode b_C_stayingThings 11 = .ok (.iload_n 3, 1) := by decide +kernel
theorem d_C_stayingThings_12 : decode b_C_stayingThings 12 = .ok (.iload_n 3, 1) := by decide +kernel
theorem d_C_stayingThings_13 : decode b_C_stayingThings 13 = .ok (.invokestatic 33, 3) := by decide +kernel
theorem d_C_stayingThings_16 : decode b_C_stayingThings 16 = .ok (.iload_n 3, 1) := by decide +kernel
theorem d_C_stayingThings_17 : decode b_C_stayingThings 17 = .ok (.if_icmp .ne 9, 3) := by decide +kernel
theorem d_C_stayingThings_20 : decode b_C_stayingThings 20 = .ok (.iload_n 2, 1) := by decide +kernel
theorem d_C_stayingThings_21 : decode b_C_stayingThings 21 = .ok (.iconst 1, 1) := by decide +kernel
theorem d_C_stayingThings_22 : decode b_C_stayingThings 22 = .ok (.iload_n 3, 1) := by decide +kernel
theorem d_C_stayingThings_23 : decode b_C_stayingThings 23 = .ok (.ishl, 1) := by decide +kernel
theorem d_C_stayingThings_24 : decode b_C_stayingThings 24 = .ok (.ior, 1) := by decide +kernel
theorem d_C_stayingThings_25 : decode b_C_stayingThings 25 = .ok (.istore_n 2, 1) := by decide +kernel
theorem d_C_stayingThings_26 : decode b_C_stayingThings 26 = .ok (.iinc 3 1, 3) := by decide +kernel
theorem d_C_stayingThings_29 : decode b_C_stayingThings 29 = .ok (.goto (-25), 3) := by decide +kernel
theorem d_C_stayingThings_32 : decode b_C_stayingThings 32 = .ok (.iload_n 2, 1) := by decide +kernel
theorem d_C_stayingThings_33 : decode b_C_stayingThings 33 = .ok (.ireturn, 1) := by decide +kernel
theorem d_C_leftLeavers_0 : decode b_C_leftLeavers 0 = .ok (.iconst 0, 1) := by decide +kernel
theorem d_C_leftLeavers_1 : decode b_C_leftLeavers 1 = .ok (.istore_n 2, 1) := by decide +kernel
theorem d_C_leftLeavers_2 : decode b_C_leftLeavers 2 = .ok (.iconst 0, 1) := by decide +kernel
theorem d_C_leftLeavers_3 : decode b_C_leftLeavers 3 = .ok (.istore_n 3, 1) := by decide +kernel
theorem d_C_leftLeavers_4 : decode b_C_leftLeavers 4 = .ok (.iload_n 3, 1) := by decide +kernel
theorem d_C_leftLeavers_5 : decode b_C_leftLeavers 5 = .ok (.iload_n 0, 1) := by decide +kernel
theorem d_C_leftLeavers_6 : decode b_C_leftLeavers 6 = .ok (.if_icmp .ge 55, 3) := by decide +kernel
theorem d_C_leftLeavers_9 : decode b_C_leftLeavers 9 = .ok (.iconst 0, 1) := by decide +kernel
theorem d_C_leftLeavers_10 : decode b_C_leftLeavers 10 = .ok (.istore 4, 2) := by decide +kernel
theorem d_C_leftLeavers_12 : decode b_C_leftLeavers 12 = .ok (.iconst 0, 1) := by decide +kernel
theorem d_C_leftLeavers_13 : decode b_C_leftLeavers 13 = .ok (.istore 5, 2) := by decide +kernel
theorem d_C_leftLeavers_15 : decode b_C_leftLeavers 15 = .ok (.iload 5, 2) := by decide +kernel
theorem d_C_leftLeavers_17 : decode b_C_leftLeavers 17 = .ok (.iload_n 0, 1) := by decide +kernel
theorem d_C_leftLeavers_18 : decode b_C_leftLeavers 18 = .ok (.if_icmp .ge 25, 3) := by decide +kernel
theorem d_C_leftLeavers_21 : decode b_C_leftLeavers 21 = .ok (.iload_n 0, 1) := by decide +kernel
theorem d_C_leftLeavers_22 : decode b_C_leftLeavers 22 = .ok (.iload_n 1, 1) := by decide +kernel
theorem d_C_leftLeavers_23 : decode b_C_leftLeavers 23 = .ok (.iload_n 3, 1) := by decide +kernel
theorem d_C_leftLeavers_24 : decode b_C_leftLeavers 24 = .ok (.iload 5, 2) := by decide +kernel
theorem d_C_leftLeavers_26 : decode b_C_leftLeavers 26 = .ok (.invokestatic 33, 3) := by decide +kernel
theorem d_C_leftLeavers_29 : decode b_C_leftLeavers 29 = .ok (.iload 5, 2) := by decide +kernel
theorem d_C_leftLeavers_31 : decode b_C_leftLeavers 31 = .ok (.if_icmp .ne 6, 3) := by decide +kernel
theorem d_C_leftLeavers_34 : decode b_C_leftLeavers 34 = .ok (.iinc 4 1, 3) := by decide +kernel
theorem d_C_leftLeavers_37 : decode b_C_leftLeavers 37 = .ok (.iinc 5 1, 3) := by decide +kernel
theorem d_C_leftLeavers_40 : decode b_C_leftLeavers 40 = .ok (.goto (-25), 3) := by decide +kernel
theorem d_C_leftLeavers_43 : decode b_C_leftLeavers 43 = .ok (.iload 4, 2) := by decide +kernel
theorem d_C_leftLeavers_45 : decode b_C_leftLeavers 45 = .ok (.iload_n 0, 1) := by decide +kernel
theorem d_C_leftLeavers_46 : decode b_C_leftLeavers 46 = .ok (.if_icmp .ne 9, 3) := by decide +kernel
theorem d_C_leftLeavers_49 : decode b_C_leftLeavers 49 = .ok (.iload_n 2, 1) := by decide +kernel
theorem d_C_leftLeavers_50 : decode b_C_leftLeavers 50 = .ok (.iconst 1, 1) := by decide +kernel
theorem d_C_leftLeavers_51 : decode b_C_leftLeavers 51 = .ok (.iload_n 3, 1) := by decide +kernel
theorem d_C_leftLeavers_52 : decode b_C_leftLeavers 52 = .ok (.ishl, 1) := by decide +kernel
theorem d_C_leftLeavers_53 : decode b_C_leftLeavers 53 = .ok (.ior, 1) := by decide +kernel
theorem d_C_leftLeavers_54 : decode b_C_leftLeavers 54 = .ok (.istore_n 2, 1) := by decide +kernel
theorem d_C_leftLeavers_55 : decode b_C_leftLeavers 55 = .ok (.iinc 3 1, 3) := by decide +kernel
theorem d_C_leftLeavers_58 : decode b_C_leftLeavers 58 = .ok (.goto (-54), 3) := by decide +kernel
theorem d_C_leftLeavers_61 : decode b_C_leftLeavers 61 = .ok (.iload_n 2, 1) := by decide +kernel
theorem d_C_leftLeavers_62 : decode b_C_leftLeavers 62 = .ok (.ireturn, 1) := by decide +kernel
theorem d_C_isIn_0 : decode b_C_isIn 0 = .ok (.iload_n 0, 1) := by decide +kernel
theorem d_C_isIn_1 : decode b_C_isIn 1 = .ok (.iload_n 1, 1) := by decide +kernel
theorem d_C_isIn_2 : decode b_C_isIn 2 = .ok (.ishr, 1) := by decide +kernel
theorem d_C_isIn_3 : decode b_C_isIn 3 = .ok (.iconst 1, 1) := by decide +kernel
theorem d_C_isIn_4 : decode b_C_isIn 4 = .ok (.iand, 1) := by decide +kernel
theorem d_C_isIn_5 : decode b_C_isIn 5 = .ok (.iconst 1, 1) := by decide +kernel
theorem d_C_isIn_6 : decode b_C_isIn 6 = .ok (.if_icmp .ne 7, 3) := by decide +kernel
theorem d_C_isIn_9 : decode b_C_isIn 9 = .ok (.iconst 1, 1) := by decide +kernel
theorem d_C_isIn_10 : decode b_C_isIn 10 = .ok (.goto 4, 3) := by decide +kernel
theorem d_C_isIn_13 : decode b_C_isIn 13 = .ok (.iconst 0, 1) := by decide +kernel
theorem d_C_isIn_14 : decode b_C_isIn 14 = .ok (.ireturn, 1) := by decide +kernel
theorem d_C_withProducts_0 : decode b_C_withProducts 0 = .ok (.iload_n 2, 1) := by decide +kernel
theorem d_C_withProducts_1 : decode b_C_withProducts 1 = .ok (.istore_n 3, 1) := by decide +kernel
theorem d_C_withProducts_2 : decode b_C_withProducts 2 = .ok (.iconst 0, 1) := by decide +kernel
theorem d_C_withProducts_3 : decode b_C_withProducts 3 = .ok (.istore 4, 2) := by decide +kernel
theorem d_C_withProducts_5 : decode b_C_withProducts 5 = .ok (.iload 4, 2) := by decide +kernel
theorem d_C_withProducts_7 : decode b_C_withProducts 7 = .ok (.iload_n 0, 1) := by decide +kernel
theorem d_C_withProducts_8 : decode b_C_withProducts 8 = .ok (.if_icmp .ge 56, 3) := by decide +kernel
theorem d_C_withProducts_11 : decode b_C_withProducts 11 = .ok (.iconst 0, 1) := by decide +kernel
theorem d_C_withProducts_12 : decode b_C_withProducts 12 = .ok (.istore 5, 2) := by decide +kernel
theorem d_C_withProducts_14 : decode b_C_withProducts 14 = .ok (.iload 5, 2) := by decide +kernel
theorem d_C_withProducts_16 : decode b_C_withProducts 16 = .ok (.iload_n 0, 1) := by decide +kernel
theorem d_C_withProducts_17 : decode b_C_withProducts 17 = .ok (.if_icmp .ge 41, 3) := by decide +kernel
theorem d_C_withProducts_20 : decode b_C_withProducts 20 = .ok (.iload_n 2, 1) := by decide +kernel
theorem d_C_withProducts_21 : decode b_C_withProducts 21 = .ok (.iload 4, 2) := by decide +kernel
theorem d_C_withProducts_23 : decode b_C_withProducts 23 = .ok (.invokestatic 49, 3) := by decide +kernel
theorem d_C_withProducts_26 : decode b_C_withProducts 26 = .ok (.ifCond .eq 26, 3) := by decide +kernel
theorem d_C_withProducts_29 : decode b_C_withProducts 29 = .ok (.iload_n 2, 1) := by decide +kernel
theorem d_C_withProducts_30 : decode b_C_withProducts 30 = .ok (.iload 5, 2) := by decide +kernel
theorem d_C_withProducts_32 : decode b_C_withProducts 32 = .ok (.invokestatic 49, 3) := by decide +kernel
theorem d_C_withProducts_35 : decode b_C_withProducts 35 = .ok (.ifCond .eq 17, 3) := by decide +kernel
theorem d_C_withProducts_38 : decode b_C_withProducts 38 = .ok (.iload_n 3, 1) := by decide +kernel
theorem d_C_withProducts_39 : decode b_C_withProducts 39 = .ok (.iconst 1, 1) := by decide +kernel
theorem d_C_withProducts_40 : decode b_C_withProducts 40 = .ok (.iload_n 0, 1) := by decide +kernel
theorem d_C_withProducts_41 : decode b_C_withProducts 41 = .ok (.iload_n 1, 1) := by decide +kernel
theorem d_C_withProducts_42 : decode b_C_withProducts 42 = .ok (.iload 4, 2) := by decide +kernel
theorem d_C_withProducts_44 : decode b_C_withProducts 44 = .ok (.iload 5, 2) := by decide +kernel
theorem d_C_withProducts_46 : decode b_C_withProducts 46 = .ok (.invokestatic 33, 3) := by decide +kernel
theorem d_C_withProducts_49 : decode b_C_withProducts 49 = .ok (.ishl, 1) := by decide +kernel
theorem d_C_withProducts_50 : decode b_C_withProducts 50 = .ok (.ior, 1) := by decide +kernel
theorem d_C_withProducts_51 : decode b_C_withProducts 51 = .ok (.istore_n 3, 1) := by decide +kernel
theorem d_C_withProducts_52 : decode b_C_withProducts 52 = .ok (.iinc 5 1, 3) := by decide +kernel
theorem d_C_withProducts_55 : decode b_C_withProducts 55 = .ok (.goto (-41), 3) := by decide +kernel
theorem d_C_withProducts_58 : decode b_C_withProducts 58 = .ok (.iinc 4 1, 3) := by decide +kernel
theorem d_C_withProducts_61 : decode b_C_withProducts 61 = .ok (.goto (-56), 3) := by decide +kernel
theorem d_C_withProducts_64 : decode b_C_withProducts 64 = .ok (.iload_n 3, 1) := by decide +kernel
theorem d_C_withProducts_65 : decode b_C_withProducts 65 = .ok (.ireturn, 1) := by decide +kernel
