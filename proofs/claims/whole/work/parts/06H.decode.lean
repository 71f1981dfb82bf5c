theorem d_H_init_0 : decode b_H_init 0 = .ok (.aload_n 0, 1) := by decide +kernel
theorem d_H_init_1 : decode b_H_init 1 = .ok (.invokespecial 3, 3) := by decide +kernel
theorem d_H_init_4 : decode b_H_init 4 = .ok (.aload_n 0, 1) := by decide +kernel
theorem d_H_init_5 : decode b_H_init 5 = .ok (.iconst 4, 1) := by decide +kernel
theorem d_H_init_6 : decode b_H_init 6 = .ok (.anewarray 9, 3) := by decide +kernel
theorem d_H_init_9 : decode b_H_init 9 = .ok (.dup, 1) := by decide +kernel
theorem d_H_init_10 : decode b_H_init 10 = .ok (.iconst 0, 1) := by decide +kernel
theorem d_H_init_11 : decode b_H_init 11 = .ok (.new 9, 3) := by decide +kernel
theorem d_H_init_14 : decode b_H_init 14 = .ok (.dup, 1) := by decide +kernel
theorem d_H_init_15 : decode b_H_init 15 = .ok (.invokespecial 11, 3) := by decide +kernel
theorem d_H_init_18 : decode b_H_init 18 = .ok (.aastore, 1) := by decide +kernel
theorem d_H_init_19 : decode b_H_init 19 = .ok (.dup, 1) := by decide +kernel
theorem d_H_init_20 : decode b_H_init 20 = .ok (.iconst 1, 1) := by decide +kernel
theorem d_H_init_21 : decode b_H_init 21 = .ok (.new 9, 3) := by decide +kernel
theorem d_H_init_24 : decode b_H_init 24 = .ok (.dup, 1) := by decide +kernel
theorem d_H_init_25 : decode b_H_init 25 = .ok (.invokespecial 11, 3) := by decide +kernel
theorem d_H_init_28 : decode b_H_init 28 = .ok (.aastore, 1) := by decide +kernel
theorem d_H_init_29 : decode b_H_init 29 = .ok (.dup, 1) := by decide +kernel
theorem d_H_init_30 : decode b_H_init 30 = .ok (.iconst 2, 1) := by decide +kernel
theorem d_H_init_31 : decode b_H_init 31 = .ok (.new 9, 3) := by decide +kernel
theorem d_H_init_34 : decode b_H_init 34 = .ok (.dup, 1) := by decide +kernel
theorem d_H_init_35 : decode b_H_init 35 = .ok (.invokespecial 11, 3) := by decide +kernel
theorem d_H_init_38 : decode b_H_init 38 = .ok (.aastore, 1) := by decide +kernel
theorem d_H_init_39 : decode b_H_init 39 = .ok (.dup, 1) := by decide +kernel
theorem d_H_init_40 : decode b_H_init 40 = .ok (.iconst 3, 1) := by decide +kernel
theorem d_H_init_41 : decode b_H_init 41 = .ok (.new 9, 3) := by decide +kernel
theorem d_H_init_44 : decode b_H_init 44 = .ok (.dup, 1) := by decide +kernel
theorem d_H_init_45 : decode b_H_init 45 = .ok (.invokespecial 11, 3) := by decide +kernel
theorem d_H_init_48 : decode b_H_init 48 = .ok (.aastore, 1) := by decide +kernel
theorem d_H_init_49 : decode b_H_init 49 = .ok (.putfield 12, 3) := by decide +kernel
theorem d_H_init_52 : decode b_H_init 52 = .ok (.aload_n 0, 1) := by decide +kernel
theorem d_H_init_53 : decode b_H_init 53 = .ok (.new 9, 3) := by decide +kernel
theorem d_H_init_56 : decode b_H_init 56 = .ok (.dup, 1) := by decide +kernel
theorem d_H_init_57 : decode b_H_init 57 = .ok (.invokespecial 11, 3) := by decide +kernel
theorem d_H_init_60 : decode b_H_init 60 = .ok (.putfield 18, 3) := by decide +kernel
theorem d_H_init_63 : decode b_H_init 63 = .ok (.return_, 1) := by decide +kernel
theorem d_F_init_0 : decode b_F_init 0 = .ok (.aload_n 0, 1) := by decide +kernel
theorem d_F_init_1 : decode b_F_init 1 = .ok (.invokespecial 3, 3) := by decide +kernel
theorem d_F_init_4 : decode b_F_init 4 = .ok (.aload_n 0, 1) := by decide +kernel
theorem d_F_init_5 : decode b_F_init 5 = .ok (.bipush 30, 2) := by decide +kernel
theorem d_F_init_7 : decode b_F_init 7 = .ok (.anewarray 11, 3) := by decide +kernel
theorem d_F_init_10 : decode b_F_init 10 = .ok (.putfield 13, 3) := by decide +kernel
theorem d_F_init_13 : decode b_F_init 13 = .ok (.iconst 0, 1) := by decide +kernel
theorem d_F_init_14 : decode b_F_init 14 = .ok (.istore_n 1, 1) := by decide +kernel
theorem d_F_init_15 : decode b_F_init 15 = .ok (.iload_n 1, 1) := by decide +kernel
theorem d_F_init_16 : decode b_F_init 16 = .ok (.bipush 30, 2) := by decide +kernel
theorem d_F_init_18 : decode b_F_init 18 = .ok (.if_icmp .ge 22, 3) := by decide +kernel
theorem d_F_init_21 : decode b_F_init 21 = .ok (.aload_n 0, 1) := by decide +kernel
theorem d_F_init_22 : decode b_F_init 22 = .ok (.getfield 13, 3) := by decide +kernel
theorem d_F_init_25 : decode b_F_init 25 = .ok (.iload_n 1, 1) := by decide +kernel
theorem d_F_init_26 : decode b_F_init 26 = .ok (.new 11, 3) := by decide +kernel
theorem d_F_init_29 : decode b_F_init 29 = .ok (.dup, 1) := by decide +kernel
theorem d_F_init_30 : decode b_F_init 30 = .ok (.invokespecial 17, 3) := by decide +kernel
theorem d_F_init_33 : decode b_F_init 33 = .ok (.aastore, 1) := by decide +kernel
theorem d_F_init_34 : decode b_F_init 34 = .ok (.iinc 1 1, 3) := by decide +kernel
theorem d_F_init_37 : decode b_F_init 37 = .ok (.goto (-22), 3) := by decide +kernel
theorem d_F_init_40 : decode b_F_init 40 = .ok (.return_, 1) := by decide +kernel
theorem d_E_init_0 : decode b_E_init 0 = .ok (.aload_n 0, 1) := by decide +kernel
theorem d_E_init_1 : decode b_E_init 1 = .ok (.invokespecial 3, 3) := by decide +kernel
theorem d_E_init_4 : decode b_E_init 4 = .ok (.aload_n 0, 1) := by decide +kernel
theorem d_E_init_5 : decode b_E_init 5 = .ok (.new 9, 3) := by decide +kernel
theorem d_E_init_8 : decode b_E_init 8 = .ok (.dup, 1) := by decide +kernel
theorem d_E_init_9 : decode b_E_init 9 = .ok (.invokespecial 11, 3) := by decide +kernel
theorem d_E_init_12 : decode b_E_init 12 = .ok (.putfield 12, 3) := by decide +kernel
theorem d_E_init_15 : decode b_E_init 15 = .ok (.aload_n 0, 1) := by decide +kernel
theorem d_E_init_16 : decode b_E_init 16 = .ok (.new 18, 3) := by decide +kernel
theorem d_E_init_19 : decode b_E_init 19 = .ok (.dup, 1) := by decide +kernel
theorem d_E_init_20 : decode b_E_init 20 = .ok (.invokespecial 20, 3) := by decide +kernel
theorem d_E_init_23 : decode b_E_init 23 = .ok (.putfield 21, 3) := by decide +kernel
theorem d_E_init_26 : decode b_E_init 26 = .ok (.aload_n 0, 1) := by decide +kernel
theorem d_E_init_27 : decode b_E_init 27 = .ok (.iconst 5, 1) := by decide +kernel
theorem d_E_init_28 : decode b_E_init 28 = .ok (.anewarray 25, 3) := by decide +kernel
theorem d_E_init_31 : decode b_E_init 31 = .ok (.putfield 27, 3) := by decide +kernel
theorem d_E_init_34 : decode b_E_init 34 = .ok (.aload_n 0, 1) := by decide +kernel
theorem d_E_init_35 : decode b_E_init 35 = .ok (.bipush 12, 2) := by decide +kernel
theorem d_E_init_37 : decode b_E_init 37 = .ok (.newarray .int, 2) := by decide +kernel
theorem d_E_init_39 : decode b_E_init 39 = .ok (.putfield 31, 3) := by decide +kernel
theorem d_E_init_42 : decode b_E_init 42 = .ok (.aload_n 0, 1) := by decide +kernel
theorem d_E_init_43 : decode b_E_init 43 = .ok (.bipush 12, 2) := by decide +kernel
theorem d_E_init_45 : decode b_E_init 45 = .ok (.newarray .int, 2) := by decide +kernel
theorem d_E_init_47 : decode b_E_init 47 = .ok (.putfield 35, 3) := by decide +kernel
theorem d_E_init_50 : decode b_E_init 50 = .ok (.return_, 1) := by decide +kernel
theorem d_H_dropOldest_0 : decode b_H_dropOldest 0 = .ok (.aload_n 0, 1) := by decide +kernel
theorem d_H_dropOldest_1 : decode b_H_dropOldest 1 = .ok (.getfield 12, 3) := by decide +kernel
theorem d_H_dropOldest_4 : decode b_H_dropOldest 4 = .ok (.iconst 0, 1) := by decide +kernel
theorem d_H_dropOldest_5 : decode b_H_dropOldest 5 = .ok (.aaload, 1) := by decide +kernel
theorem d_H_dropOldest_6 : decode b_H_dropOldest 6 = .ok (.astore_n 1, 1) := by decide +kernel
theorem d_H_dropOldest_7 : decode b_H_dropOldest 7 = .ok (.iconst 1, 1) := by decide +kernel
theorem d_H_dropOldest_8 : decode b_H_dropOldest 8 = .ok (.istore_n 2, 1) := by decide +kernel
theorem d_H_dropOldest_9 : decode b_H_dropOldest 9 = .ok (.iload_n 2, 1) := by decide +kernel
theorem d_H_dropOldest_10 : decode b_H_dropOldest 10 = .ok (.iconst 4, 1) := by decide +kernel
theorem d_H_dropOldest_11 : decode b_H_dropOldest 11 = .ok (.if_icmp .ge 23, 3) := by decide +kernel
theorem d_H_dropOldest_14 : decode b_H_dropOldest 14 = .ok (.aload_n 0, 1) := by decide +kernel
theorem d_H_dropOldest_15 : decode b_H_dropOldest 15 = .ok (.getfield 12, 3) := by decide +kernel
theorem d_H_dropOldest_18 : decode b_H_dropOldest 18 = .ok (.iload_n 2, 1) := by decide +kernel
theorem d_H_dropOldest_19 : decode b_H_dropOldest 19 = .ok (.iconst 1, 1) := by decide +kernel
theorem d_H_dropOldest_20 : decode b_H_dropOldest 20 = .ok (.isub, 1) := by decide +kernel
theorem d_H_dropOldest_21 : decode b_H_dropOldest 21 = .ok (.aload_n 0, 1) := by decide +kernel
theorem d_H_dropOldest_22 : decode b_H_dropOldest 22 = .ok (.getfield 12, 3) := by decide +kernel
theorem d_H_dropOldest_25 : decode b_H_dropOldest 25 = .ok (.iload_n 2, 1) := by decide +kernel
theorem d_H_dropOldest_26 : decode b_H_dropOldest 26 = .ok (.aaload, 1) := by decide +kernel
theorem d_H_dropOldest_27 : decode b_H_dropOldest 27 = .ok (.aastore, 1) := by decide +kernel
theorem d_H_dropOldest_28 : decode b_H_dropOldest 28 = .ok (.iinc 2 1, 3) := by decide +kernel
theorem d_H_dropOldest_31 : decode b_H_dropOldest 31 = .ok (.goto (-22), 3) := by decide +kernel
theorem d_H_dropOldest_34 : decode b_H_dropOldest 34 = .ok (.aload_n 0, 1) := by decide +kernel
theorem d_H_dropOldest_35 : decode b_H_dropOldest 35 = .ok (.getfield 12, 3) := by decide +kernel
theorem d_H_dropOldest_38 : decode b_H_dropOldest 38 = .ok (.iconst 3, 1) := by decide +kernel
theorem d_H_dropOldest_39 : decode b_H_dropOldest 39 = .ok (.aload_n 1, 1) := by decide +kernel
theorem d_H_dropOldest_40 : decode b_H_dropOldest 40 = .ok (.aastore, 1) := by decide +kernel
theorem d_H_dropOldest_41 : decode b_H_dropOldest 41 = .ok (.aload_n 0, 1) := by decide +kernel
theorem d_H_dropOldest_42 : decode b_H_dropOldest 42 = .ok (.dup, 1) := by decide +kernel
theorem d_H_dropOldest_43 : decode b_H_dropOldest 43 = .ok (.getfield 22, 3) := by decide +kernel
theorem d_H_dropOldest_46 : decode b_H_dropOldest 46 = .ok (.iconst 1, 1) := by decide +kernel
theorem d_H_dropOldest_47 : decode b_H_dropOldest 47 = .ok (.isub, 1) := by decide +kernel
theorem d_H_dropOldest_48 : decode b_H_dropOldest 48 = .ok (.putfield 22, 3) := by decide +kernel
theorem d_H_dropOldest_51 : decode b_H_dropOldest 51 = .ok (.return_, 1) := by decide +kernel
theorem d_H_record_0 : decode b_H_record 0 = .ok (.aload_n 0, 1) := by decide +kernel
theorem d_H_record_1 : decode b_H_record 1 = .ok (.getfield 22, 3) := by decide +kernel
theorem d_H_record_4 : decode b_H_record 4 = .ok (.iconst 4, 1) := by decide +kernel
theorem d_H_record_5 : decode b_H_record 5 = .ok (.if_icmp .lt 7, 3) := by decide +kernel
theorem d_H_record_8 : decode b_H_record 8 = .ok (.aload_n 0, 1) := by decide +kernel
theorem d_H_record_9 : decode b_H_record 9 = .ok (.invokevirtual 26, 3) := by decide +kernel
theorem d_H_record_12 : decode b_H_record 12 = .ok (.aload_n 0, 1) := by decide +kernel
theorem d_H_record_13 : decode b_H_record 13 = .ok (.getfield 12, 3) := by decide +kernel
theorem d_H_record_16 : decode b_H_record 16 = .ok (.aload_n 0, 1) := by decide +kernel
theorem d_H_record_17 : decode b_H_record 17 = .ok (.getfield 22, 3) := by decide +kernel
theorem d_H_record_20 : decode b_H_record 20 = .ok (.aaload, 1) := by decide +kernel
theorem d_H_record_21 : decode b_H_record 21 = .ok (.aload_n 1, 1) := by decide +kernel
theorem d_H_record_22 : decode b_H_record 22 = .ok (.invokevirtual 29, 3) := by decide +kernel
theorem d_H_record_25 : decode b_H_record 25 = .ok (.aload_n 0, 1) := by decide +kernel
theorem d_H_record_26 : decode b_H_record 26 = .ok (.dup, 1) := by decide +kernel
theorem d_H_record_27 : decode b_H_record 27 = .ok (.getfield 22, 3) := by decide +kernel
theorem d_H_record_30 : decode b_H_record 30 = .ok (.iconst 1, 1) := by decide +kernel
theorem d_H_record_31 : decode b_H_record 31 = .ok (.iadd, 1) := by decide +kernel
theorem d_H_record_32 : decode b_H_record 32 = .ok (.putfield 22, 3) := by decide +kernel
theorem d_H_record_35 : decode b_H_record 35 = .ok (.return_, 1) := by decide +kernel
theorem d_H_uses_0 : decode b_H_uses 0 = .ok (.iconst 0, 1) := by decide +kernel
theorem d_H_uses_1 : decode b_H_uses 1 = .ok (.istore_n 2, 1) := by decide +kernel
theorem d_H_uses_2 : decode b_H_uses 2 = .ok (.iload_n 2, 1) := by decide +kernel
theorem d_H_uses_3 : decode b_H_uses 3 = .ok (.aload_n 0, 1) := by decide +kernel
theorem d_H_uses_4 : decode b_H_uses 4 = .ok (.getfield 22, 3) := by decide +kernel
theorem d_H_uses_7 : decode b_H_uses 7 = .ok (.if_icmp .ge 24, 3) := by decide +kernel
theorem d_H_uses_10 : decode b_H_uses 10 = .ok (.aload_n 0, 1) := by decide +kernel
theorem d_H_uses_11 : decode b_H_uses 11 = .ok (.getfield 12, 3) := by decide +kernel
theorem d_H_uses_14 : decode b_H_uses 14 = .ok (.iload_n 2, 1) := by decide +kernel
theorem d_H_uses_15 : decode b_H_uses 15 = .ok (.aaload, 1) := by decide +kernel
theorem d_H_uses_16 : decode b_H_uses 16 = .ok (.aload_n 1, 1) := by decide +kernel
theorem d_H_uses_17 : decode b_H_uses 17 = .ok (.invokevirtual 37, 3) := by decide +kernel
theorem d_H_uses_20 : decode b_H_uses 20 = .ok (.ifCond .eq 5, 3) := by decide +kernel
theorem d_H_uses_23 : decode b_H_uses 23 = .ok (.iconst 1, 1) := by decide +kernel
theorem d_H_uses_24 : decode b_H_uses 24 = .ok (.ireturn, 1) := by decide +kernel
theorem d_H_uses_25 : decode b_H_uses 25 = .ok (.iinc 2 1, 3) := by decide +kernel
theorem d_H_uses_28 : decode b_H_uses 28 = .ok (.goto (-26), 3) := by decide +kernel
theorem d_H_uses_31 : decode b_H_uses 31 = .ok (.aload_n 0, 1) := by decide +kernel
theorem d_H_uses_32 : decode b_H_uses 32 = .ok (.getfield 33, 3) := by decide +kernel
theorem d_H_uses_35 : decode b_H_uses 35 = .ok (.ifCond .eq 18, 3) := by decide +kernel
theorem d_H_uses_38 : decode b_H_uses 38 = .ok (.aload_n 0, 1) := by decide +kernel
theorem d_H_uses_39 : decode b_H_uses 39 = .ok (.getfield 18, 3) := by decide +kernel
theorem d_H_uses_42 : decode b_H_uses 42 = .ok (.aload_n 1, 1) := by decide +kernel
theorem d_H_uses_43 : decode b_H_uses 43 = .ok (.invokevirtual 37, 3) := by decide +kernel
theorem d_H_uses_46 : decode b_H_uses 46 = .ok (.ifCond .eq 7, 3) := by decide +kernel
theorem d_H_uses_49 : decode b_H_uses 49 = .ok (.iconst 1, 1) := by decide +kernel
theorem d_H_uses_50 : decode b_H_uses 50 = .ok (.goto 4, 3) := by decide +kernel
theorem d_H_uses_53 : decode b_H_uses 53 = .ok (.iconst 0, 1) := by decide +kernel
theorem d_H_uses_54 : decode b_H_uses 54 = .ok (.ireturn, 1) := by decide +kernel
theorem d_F_bring_0 : decode b_F_bring 0 = .ok (.aload_n 1, 1) := by decide +kernel
theorem d_F_bring_1 : decode b_F_bring 1 = .ok (.iload_n 2, 1) := by decide +kernel
theorem d_F_bring_2 : decode b_F_bring 2 = .ok (.invokevirtual 18, 3) := by decide +kernel
theorem d_F_bring_5 : decode b_F_bring 5 = .ok (.istore 5, 2) := by decide +kernel
theorem d_F_bring_7 : decode b_F_bring 7 = .ok (.aload_n 1, 1) := by decide +kernel
theorem d_F_bring_8 : decode b_F_bring 8 = .ok (.iload_n 2, 1) := by decide +kernel
theorem d_F_bring_9 : decode b_F_bring 9 = .ok (.invokevirtual 24, 3) := by decide +kernel
theorem d_F_bring_12 : decode b_F_bring 12 = .ok (.istore 6, 2) := by decide +kernel
theorem d_F_bring_14 : decode b_F_bring 14 = .ok (.iconst 0, 1) := by decide +kernel
theorem d_F_bring_15 : decode b_F_bring 15 = .ok (.istore 7, 2) := by decide +kernel
theorem d_F_bring_17 : decode b_F_bring 17 = .ok (.iload 7, 2) := by decide +kernel
theorem d_F_bring_19 : decode b_F_bring 19 = .ok (.bipush 30, 2) := by decide +kernel
theorem d_F_bring_21 : decode b_F_bring 21 = .ok (.if_icmp .ge 38, 3) := by decide +kernel
theorem d_F_bring_24 : decode b_F_bring 24 = .ok (.aload_n 0, 1) := by decide +kernel
theorem d_F_bring_25 : decode b_F_bring 25 = .ok (.getfield 13, 3) := by decide +kernel
theorem d_F_bring_28 : decode b_F_bring 28 = .ok (.iload 7, 2) := by decide +kernel
theorem d_F_bring_30 : decode b_F_bring 30 = .ok (.aaload, 1) := by decide +kernel
theorem d_F_bring_31 : decode b_F_bring 31 = .ok (.aload_n 1, 1) := by decide +kernel
theorem d_F_bring_32 : decode b_F_bring 32 = .ok (.getfield 27, 3) := by decide +kernel
theorem d_F_bring_35 : decode b_F_bring 35 = .ok (.iload 5, 2) := by decide +kernel
theorem d_F_bring_37 : decode b_F_bring 37 = .ok (.iload 6, 2) := by decide +kernel
theorem d_F_bring_39 : decode b_F_bring 39 = .ok (.invokevirtual 31, 3) := by decide +kernel
theorem d_F_bring_42 : decode b_F_bring 42 = .ok (.ifCond .eq 11, 3) := by decide +kernel
theorem d_F_bring_45 : decode b_F_bring 45 = .ok (.aload_n 0, 1) := by decide +kernel
theorem d_F_bring_46 : decode b_F_bring 46 = .ok (.getfield 13, 3) := by decide +kernel
theorem d_F_bring_49 : decode b_F_bring 49 = .ok (.iload 7, 2) := by decide +kernel
theorem d_F_bring_51 : decode b_F_bring 51 = .ok (.aaload, 1) := by decide +kernel
theorem d_F_bring_52 : decode b_F_bring 52 = .ok (.areturn, 1) := by decide +kernel
theorem d_F_bring_53 : decode b_F_bring 53 = .ok (.iinc 7 1, 3) := by decide +kernel
theorem d_F_bring_56 : decode b_F_bring 56 = .ok (.goto (-39), 3) := by decide +kernel
theorem d_F_bring_59 : decode b_F_bring 59 = .ok (.iconst 0, 1) := by decide +kernel
theorem d_F_bring_60 : decode b_F_bring 60 = .ok (.istore 7, 2) := by decide +kernel
theorem d_F_bring_62 : decode b_F_bring 62 = .ok (.iload 7, 2) := by decide +kernel
theorem d_F_bring_64 : decode b_F_bring 64 = .ok (.bipush 30, 2) := by decide +kernel
theorem d_F_bring_66 : decode b_F_bring 66 = .ok (.if_icmp .ge 64, 3) := by decide +kernel
theorem d_F_bring_69 : decode b_F_bring 69 = .ok (.aload_n 3, 1) := by decide +kernel
theorem d_F_bring_70 : decode b_F_bring 70 = .ok (.aload_n 0, 1) := by decide +kernel
theorem d_F_bring_71 : decode b_F_bring 71 = .ok (.getfield 13, 3) := by decide +kernel
theorem d_F_bring_74 : decode b_F_bring 74 = .ok (.iload 7, 2) := by decide +kernel
theorem d_F_bring_76 : decode b_F_bring 76 = .ok (.aaload, 1) := by decide +kernel
theorem d_F_bring_77 : decode b_F_bring 77 = .ok (.invokevirtual 35, 3) := by decide +kernel
theorem d_F_bring_80 : decode b_F_bring 80 = .ok (.ifCond .ne 44, 3) := by decide +kernel
theorem d_F_bring_83 : decode b_F_bring 83 = .ok (.aload 4, 2) := by decide +kernel
theorem d_F_bring_85 : decode b_F_bring 85 = .ok (.aload_n 0, 1) := by decide +kernel
theorem d_F_bring_86 : decode b_F_bring 86 = .ok (.getfield 13, 3) := by decide +kernel
theorem d_F_bring_89 : decode b_F_bring 89 = .ok (.iload 7, 2) := by decide +kernel
theorem d_F_bring_91 : decode b_F_bring 91 = .ok (.aaload, 1) := by decide +kernel
theorem d_F_bring_92 : decode b_F_bring 92 = .ok (.invokevirtual 41, 3) := by decide +kernel
theorem d_F_bring_95 : decode b_F_bring 95 = .ok (.ifCond .ne 29, 3) := by decide +kernel
theorem d_F_bring_98 : decode b_F_bring 98 = .ok (.aload_n 0, 1) := by decide +kernel
theorem d_F_bring_99 : decode b_F_bring 99 = .ok (.getfield 13, 3) := by decide +kernel
theorem d_F_bring_102 : decode b_F_bring 102 = .ok (.iload 7, 2) := by decide +kernel
theorem d_F_bring_104 : decode b_F_bring 104 = .ok (.aaload, 1) := by decide +kernel
theorem d_F_bring_105 : decode b_F_bring 105 = .ok (.aload_n 1, 1) := by decide +kernel
theorem d_F_bring_106 : decode b_F_bring 106 = .ok (.getfield 27, 3) := by decide +kernel
theorem d_F_bring_109 : decode b_F_bring 109 = .ok (.iload 5, 2) := by decide +kernel
theorem d_F_bring_111 : decode b_F_bring 111 = .ok (.iload 6, 2) := by decide +kernel
theorem d_F_bring_113 : decode b_F_bring 113 = .ok (.invokevirtual 44, 3) := by decide +kernel
theorem d_F_bring_116 : decode b_F_bring 116 = .ok (.aload_n 0, 1) := by decide +kernel
theorem d_F_bring_117 : decode b_F_bring 117 = .ok (.getfield 13, 3) := by decide +kernel
theorem d_F_bring_120 : decode b_F_bring 120 = .ok (.iload 7, 2) := by decide +kernel
theorem d_F_bring_122 : decode b_F_bring 122 = .ok (.aaload, 1) := by decide +kernel
theorem d_F_bring_123 : decode b_F_bring 123 = .ok (.areturn, 1) := by decide +kernel
theorem d_F_bring_124 : decode b_F_bring 124 = .ok (.iinc 7 1, 3) := by decide +kernel
theorem d_F_bring_127 : decode b_F_bring 127 = .ok (.goto (-65), 3) := by decide +kernel
theorem d_F_bring_130 : decode b_F_bring 130 = .ok (.aconst_null, 1) := by decide +kernel
theorem d_F_bring_131 : decode b_F_bring 131 = .ok (.areturn, 1) := by decide +kernel
theorem d_E_countBroken_0 : decode b_E_countBroken 0 = .ok (.aload_n 1, 1) := by decide +kernel
theorem d_E_countBroken_1 : decode b_E_countBroken 1 = .ok (.getfield 99, 3) := by decide +kernel
theorem d_E_countBroken_4 : decode b_E_countBroken 4 = .ok (.ifCond .eq 4, 3) := by decide +kernel
theorem d_E_countBroken_7 : decode b_E_countBroken 7 = .ok (.return_, 1) := by decide +kernel
theorem d_E_countBroken_8 : decode b_E_countBroken 8 = .ok (.aload_n 1, 1) := by decide +kernel
theorem d_E_countBroken_9 : decode b_E_countBroken 9 = .ok (.getfield 103, 3) := by decide +kernel
theorem d_E_countBroken_12 : decode b_E_countBroken 12 = .ok (.ifnonnull 12, 3) := by decide +kernel
theorem d_E_countBroken_15 : decode b_E_countBroken 15 = .ok (.aload_n 1, 1) := by decide +kernel
theorem d_E_countBroken_16 : decode b_E_countBroken 16 = .ok (.sipush 3341, 3) := by decide +kernel
theorem d_E_countBroken_19 : decode b_E_countBroken 19 = .ok (.newarray .byte, 2) := by decide +kernel
theorem d_E_countBroken_21 : decode b_E_countBroken 21 = .ok (.putfield 103, 3) := by decide +kernel
theorem d_E_countBroken_24 : decode b_E_countBroken 24 = .ok (.iconst 0, 1) := by decide +kernel
theorem d_E_countBroken_25 : decode b_E_countBroken 25 = .ok (.istore_n 2, 1) := by decide +kernel
theorem d_E_countBroken_26 : decode b_E_countBroken 26 = .ok (.iload_n 2, 1) := by decide +kernel
theorem d_E_countBroken_27 : decode b_E_countBroken 27 = .ok (.sipush 3341, 3) := by decide +kernel
theorem d_E_countBroken_30 : decode b_E_countBroken 30 = .ok (.if_icmp .ge 57, 3) := by decide +kernel
theorem d_E_countBroken_33 : decode b_E_countBroken 33 = .ok (.aload_n 0, 1) := by decide +kernel
theorem d_E_countBroken_34 : decode b_E_countBroken 34 = .ok (.getfield 12, 3) := by decide +kernel
theorem d_E_countBroken_37 : decode b_E_countBroken 37 = .ok (.aload_n 0, 1) := by decide +kernel
theorem d_E_countBroken_38 : decode b_E_countBroken 38 = .ok (.getfield 21, 3) := by decide +kernel
theorem d_E_countBroken_41 : decode b_E_countBroken 41 = .ok (.iload_n 2, 1) := by decide +kernel
theorem d_E_countBroken_42 : decode b_E_countBroken 42 = .ok (.invokevirtual 86, 3) := by decide +kernel
theorem d_E_countBroken_45 : decode b_E_countBroken 45 = .ok (.aload_n 0, 1) := by decide +kernel
theorem d_E_countBroken_46 : decode b_E_countBroken 46 = .ok (.getfield 21, 3) := by decide +kernel
theorem d_E_countBroken_49 : decode b_E_countBroken 49 = .ok (.iload_n 2, 1) := by decide +kernel
theorem d_E_countBroken_50 : decode b_E_countBroken 50 = .ok (.invokevirtual 59, 3) := by decide +kernel
theorem d_E_countBroken_53 : decode b_E_countBroken 53 = .ok (.invokevirtual 107, 3) := by decide +kernel
theorem d_E_countBroken_56 : decode b_E_countBroken 56 = .ok (.aload_n 0, 1) := by decide +kernel
theorem d_E_countBroken_57 : decode b_E_countBroken 57 = .ok (.getfield 12, 3) := by decide +kernel
theorem d_E_countBroken_60 : decode b_E_countBroken 60 = .ok (.aload_n 1, 1) := by decide +kernel
theorem d_E_countBroken_61 : decode b_E_countBroken 61 = .ok (.invokevirtual 110, 3) := by decide +kernel
theorem d_E_countBroken_64 : decode b_E_countBroken 64 = .ok (.aload_n 1, 1) := by decide +kernel
theorem d_E_countBroken_65 : decode b_E_countBroken 65 = .ok (.getfield 103, 3) := by decide +kernel
theorem d_E_countBroken_68 : decode b_E_countBroken 68 = .ok (.iload_n 2, 1) := by decide +kernel
theorem d_E_countBroken_69 : decode b_E_countBroken 69 = .ok (.aload_n 0, 1) := by decide +kernel
theorem d_E_countBroken_70 : decode b_E_countBroken 70 = .ok (.getfield 12, 3) := by decide +kernel
theorem d_E_countBroken_73 : decode b_E_countBroken 73 = .ok (.invokevirtual 113, 3) := by decide +kernel
theorem d_E_countBroken_76 : decode b_E_countBroken 76 = .ok (.invokestatic 117, 3) := by decide +kernel
theorem d_E_countBroken_79 : decode b_E_countBroken 79 = .ok (.i2b, 1) := by decide +kernel
theorem d_E_countBroken_80 : decode b_E_countBroken 80 = .ok (.bastore, 1) := by decide +kernel
theorem d_E_countBroken_81 : decode b_E_countBroken 81 = .ok (.iinc 2 1, 3) := by decide +kernel
theorem d_E_countBroken_84 : decode b_E_countBroken 84 = .ok (.goto (-58), 3) := by decide +kernel
theorem d_E_countBroken_87 : decode b_E_countBroken 87 = .ok (.aload_n 1, 1) := by decide +kernel
theorem d_E_countBroken_88 : decode b_E_countBroken 88 = .ok (.iconst 1, 1) := by decide +kernel
theorem d_E_countBroken_89 : decode b_E_countBroken 89 = .ok (.putfield 99, 3) := by decide +kernel
theorem d_E_countBroken_92 : decode b_E_countBroken 92 = .ok (.return_, 1) := by decide +kernel
theorem d_E_demand_0 : decode b_E_demand 0 = .ok (.aload_n 0, 1) := by decide +kernel
theorem d_E_demand_1 : decode b_E_demand 1 = .ok (.iconst 0, 1) := by decide +kernel
theorem d_E_demand_2 : decode b_E_demand 2 = .ok (.putfield 89, 3) := by decide +kernel
theorem d_E_demand_5 : decode b_E_demand 5 = .ok (.iconst 0, 1) := by decide +kernel
theorem d_E_demand_6 : decode b_E_demand 6 = .ok (.istore_n 3, 1) := by decide +kernel
theorem d_E_demand_7 : decode b_E_demand 7 = .ok (.iload_n 3, 1) := by decide +kernel
theorem d_E_demand_8 : decode b_E_demand 8 = .ok (.aload_n 1, 1) := by decide +kernel
theorem d_E_demand_9 : decode b_E_demand 9 = .ok (.getfield 92, 3) := by decide +kernel
theorem d_E_demand_12 : decode b_E_demand 12 = .ok (.if_icmp .ge 70, 3) := by decide +kernel
theorem d_E_demand_15 : decode b_E_demand 15 = .ok (.aload_n 1, 1) := by decide +kernel
theorem d_E_demand_16 : decode b_E_demand 16 = .ok (.iload_n 3, 1) := by decide +kernel
theorem d_E_demand_17 : decode b_E_demand 17 = .ok (.invokevirtual 66, 3) := by decide +kernel
theorem d_E_demand_20 : decode b_E_demand 20 = .ok (.astore 4, 2) := by decide +kernel
theorem d_E_demand_22 : decode b_E_demand 22 = .ok (.aload 4, 2) := by decide +kernel
theorem d_E_demand_24 : decode b_E_demand 24 = .ok (.ifnull 52, 3) := by decide +kernel
theorem d_E_demand_27 : decode b_E_demand 27 = .ok (.iload_n 3, 1) := by decide +kernel
theorem d_E_demand_28 : decode b_E_demand 28 = .ok (.iload_n 2, 1) := by decide +kernel
theorem d_E_demand_29 : decode b_E_demand 29 = .ok (.if_icmp .eq 47, 3) := by decide +kernel
theorem d_E_demand_32 : decode b_E_demand 32 = .ok (.aload_n 1, 1) := by decide +kernel
theorem d_E_demand_33 : decode b_E_demand 33 = .ok (.getfield 95, 3) := by decide +kernel
theorem d_E_demand_36 : decode b_E_demand 36 = .ok (.iload_n 3, 1) := by decide +kernel
theorem d_E_demand_37 : decode b_E_demand 37 = .ok (.baload, 1) := by decide +kernel
theorem d_E_demand_38 : decode b_E_demand 38 = .ok (.ifCond .eq 38, 3) := by decide +kernel
theorem d_E_demand_41 : decode b_E_demand 41 = .ok (.aload_n 0, 1) := by decide +kernel
theorem d_E_demand_42 : decode b_E_demand 42 = .ok (.getfield 89, 3) := by decide +kernel
theorem d_E_demand_45 : decode b_E_demand 45 = .ok (.iconst 5, 1) := by decide +kernel
theorem d_E_demand_46 : decode b_E_demand 46 = .ok (.if_icmp .ge 30, 3) := by decide +kernel
theorem d_E_demand_49 : decode b_E_demand 49 = .ok (.aload_n 0, 1) := by decide +kernel
theorem d_E_demand_50 : decode b_E_demand 50 = .ok (.aload 4, 2) := by decide +kernel
theorem d_E_demand_52 : decode b_E_demand 52 = .ok (.invokevirtual 72, 3) := by decide +kernel
theorem d_E_demand_55 : decode b_E_demand 55 = .ok (.aload_n 0, 1) := by decide +kernel
theorem d_E_demand_56 : decode b_E_demand 56 = .ok (.getfield 27, 3) := by decide +kernel
theorem d_E_demand_59 : decode b_E_demand 59 = .ok (.aload_n 0, 1) := by decide +kernel
theorem d_E_demand_60 : decode b_E_demand 60 = .ok (.getfield 89, 3) := by decide +kernel
theorem d_E_demand_63 : decode b_E_demand 63 = .ok (.aload 4, 2) := by decide +kernel
theorem d_E_demand_65 : decode b_E_demand 65 = .ok (.aastore, 1) := by decide +kernel
theorem d_E_demand_66 : decode b_E_demand 66 = .ok (.aload_n 0, 1) := by decide +kernel
theorem d_E_demand_67 : decode b_E_demand 67 = .ok (.dup, 1) := by decide +kernel
theorem d_E_demand_68 : decode b_E_demand 68 = .ok (.getfield 89, 3) := by decide +kernel
theorem d_E_demand_71 : decode b_E_demand 71 = .ok (.iconst 1, 1) := by decide +kernel
theorem d_E_demand_72 : decode b_E_demand 72 = .ok (.iadd, 1) := by decide +kernel
theorem d_E_demand_73 : decode b_E_demand 73 = .ok (.putfield 89, 3) := by decide +kernel
theorem d_E_demand_76 : decode b_E_demand 76 = .ok (.iinc 3 1, 3) := by decide +kernel
theorem d_E_demand_79 : decode b_E_demand 79 = .ok (.goto (-72), 3) := by decide +kernel
theorem d_E_demand_82 : decode b_E_demand 82 = .ok (.return_, 1) := by decide +kernel
theorem d_E_isAmongFirst_0 : decode b_E_isAmongFirst 0 = .ok (.aload_n 0, 1) := by decide +kernel
theorem d_E_isAmongFirst_1 : decode b_E_isAmongFirst 1 = .ok (.getfield 62, 3) := by decide +kernel
theorem d_E_isAmongFirst_4 : decode b_E_isAmongFirst 4 = .ok (.bipush 12, 2) := by decide +kernel
theorem d_E_isAmongFirst_6 : decode b_E_isAmongFirst 6 = .ok (.if_icmp .lt 14, 3) := by decide +kernel
theorem d_E_isAmongFirst_9 : decode b_E_isAmongFirst 9 = .ok (.iload_n 1, 1) := by decide +kernel
theorem d_E_isAmongFirst_10 : decode b_E_isAmongFirst 10 = .ok (.aload_n 0, 1) := by decide +kernel
theorem d_E_isAmongFirst_11 : decode b_E_isAmongFirst 11 = .ok (.getfield 35, 3) := by decide +kernel
theorem d_E_isAmongFirst_14 : decode b_E_isAmongFirst 14 = .ok (.bipush 11, 2) := by decide +kernel
theorem d_E_isAmongFirst_16 : decode b_E_isAmongFirst 16 = .ok (.iaload, 1) := by decide +kernel
theorem d_E_isAmongFirst_17 : decode b_E_isAmongFirst 17 = .ok (.if_icmp .ge 7, 3) := by decide +kernel
theorem d_E_isAmongFirst_20 : decode b_E_isAmongFirst 20 = .ok (.iconst 1, 1) := by decide +kernel
theorem d_E_isAmongFirst_21 : decode b_E_isAmongFirst 21 = .ok (.goto 4, 3) := by decide +kernel
theorem d_E_isAmongFirst_24 : decode b_E_isAmongFirst 24 = .ok (.iconst 0, 1) := by decide +kernel
theorem d_E_isAmongFirst_25 : decode b_E_isAmongFirst 25 = .ok (.ireturn, 1) := by decide +kernel
theorem d_E_isModel_0 : decode b_E_isModel 0 = .ok (.iconst 0, 1) := by decide +kernel
theorem d_E_isModel_1 : decode b_E_isModel 1 = .ok (.istore_n 2, 1) := by decide +kernel
theorem d_E_isModel_2 : decode b_E_isModel 2 = .ok (.iload_n 2, 1) := by decide +kernel
theorem d_E_isModel_3 : decode b_E_isModel 3 = .ok (.aload_n 0, 1) := by decide +kernel
theorem d_E_isModel_4 : decode b_E_isModel 4 = .ok (.getfield 89, 3) := by decide +kernel
theorem d_E_isModel_7 : decode b_E_isModel 7 = .ok (.if_icmp .ge 30, 3) := by decide +kernel
theorem d_E_isModel_10 : decode b_E_isModel 10 = .ok (.aload_n 0, 1) := by decide +kernel
theorem d_E_isModel_11 : decode b_E_isModel 11 = .ok (.getfield 27, 3) := by decide +kernel
theorem d_E_isModel_14 : decode b_E_isModel 14 = .ok (.iload_n 2, 1) := by decide +kernel
theorem d_E_isModel_15 : decode b_E_isModel 15 = .ok (.aaload, 1) := by decide +kernel
theorem d_E_isModel_16 : decode b_E_isModel 16 = .ok (.astore_n 3, 1) := by decide +kernel
theorem d_E_isModel_17 : decode b_E_isModel 17 = .ok (.aload_n 3, 1) := by decide +kernel
theorem d_E_isModel_18 : decode b_E_isModel 18 = .ok (.ifnull 13, 3) := by decide +kernel
theorem d_E_isModel_21 : decode b_E_isModel 21 = .ok (.aload_n 3, 1) := by decide +kernel
theorem d_E_isModel_22 : decode b_E_isModel 22 = .ok (.iload_n 1, 1) := by decide +kernel
theorem d_E_isModel_23 : decode b_E_isModel 23 = .ok (.invokevirtual 76, 3) := by decide +kernel
theorem d_E_isModel_26 : decode b_E_isModel 26 = .ok (.ifCond .le 5, 3) := by decide +kernel
theorem d_E_isModel_29 : decode b_E_isModel 29 = .ok (.iconst 0, 1) := by decide +kernel
theorem d_E_isModel_30 : decode b_E_isModel 30 = .ok (.ireturn, 1) := by decide +kernel
theorem d_E_isModel_31 : decode b_E_isModel 31 = .ok (.iinc 2 1, 3) := by decide +kernel
theorem d_E_isModel_34 : decode b_E_isModel 34 = .ok (.goto (-32), 3) := by decide +kernel
theorem d_E_isModel_37 : decode b_E_isModel 37 = .ok (.iconst 1, 1) := by decide +kernel
theorem d_E_isModel_38 : decode b_E_isModel 38 = .ok (.ireturn, 1) := by decide +kernel
theorem d_E_tell_0 : decode b_E_tell 0 = .ok (.aload_n 0, 1) := by decide +kernel
theorem d_E_tell_1 : decode b_E_tell 1 = .ok (.getfield 62, 3) := by decide +kernel
theorem d_E_tell_4 : decode b_E_tell 4 = .ok (.bipush 12, 2) := by decide +kernel
theorem d_E_tell_6 : decode b_E_tell 6 = .ok (.if_icmp .ge 10, 3) := by decide +kernel
theorem d_E_tell_9 : decode b_E_tell 9 = .ok (.aload_n 0, 1) := by decide +kernel
theorem d_E_tell_10 : decode b_E_tell 10 = .ok (.getfield 62, 3) := by decide +kernel
theorem d_E_tell_13 : decode b_E_tell 13 = .ok (.goto 5, 3) := by decide +kernel
theorem d_E_tell_16 : decode b_E_tell 16 = .ok (.bipush 11, 2) := by decide +kernel
theorem d_E_tell_18 : decode b_E_tell 18 = .ok (.istore_n 3, 1) := by decide +kernel
theorem d_E_tell_19 : decode b_E_tell 19 = .ok (.iload_n 3, 1) := by decide +kernel
theorem d_E_tell_20 : decode b_E_tell 20 = .ok (.ifCond .le 49, 3) := by decide +kernel
theorem d_E_tell_23 : decode b_E_tell 23 = .ok (.aload_n 0, 1) := by decide +kernel
theorem d_E_tell_24 : decode b_E_tell 24 = .ok (.getfield 35, 3) := by decide +kernel
theorem d_E_tell_27 : decode b_E_tell 27 = .ok (.iload_n 3, 1) := by decide +kernel
theorem d_E_tell_28 : decode b_E_tell 28 = .ok (.iconst 1, 1) := by decide +kernel
theorem d_E_tell_29 : decode b_E_tell 29 = .ok (.isub, 1) := by decide +kernel
theorem d_E_tell_30 : decode b_E_tell 30 = .ok (.iaload, 1) := by decide +kernel
theorem d_E_tell_31 : decode b_E_tell 31 = .ok (.iload_n 2, 1) := by decide +kernel
theorem d_E_tell_32 : decode b_E_tell 32 = .ok (.if_icmp .le 37, 3) := by decide +kernel
theorem d_E_tell_35 : decode b_E_tell 35 = .ok (.aload_n 0, 1) := by decide +kernel
theorem d_E_tell_36 : decode b_E_tell 36 = .ok (.getfield 31, 3) := by decide +kernel
theorem d_E_tell_39 : decode b_E_tell 39 = .ok (.iload_n 3, 1) := by decide +kernel
theorem d_E_tell_40 : decode b_E_tell 40 = .ok (.aload_n 0, 1) := by decide +kernel
theorem d_E_tell_41 : decode b_E_tell 41 = .ok (.getfield 31, 3) := by decide +kernel
theorem d_E_tell_44 : decode b_E_tell 44 = .ok (.iload_n 3, 1) := by decide +kernel
theorem d_E_tell_45 : decode b_E_tell 45 = .ok (.iconst 1, 1) := by decide +kernel
theorem d_E_tell_46 : decode b_E_tell 46 = .ok (.isub, 1) := by decide +kernel
theorem d_E_tell_47 : decode b_E_tell 47 = .ok (.iaload, 1) := by decide +kernel
theorem d_E_tell_48 : decode b_E_tell 48 = .ok (.iastore, 1) := by decide +kernel
theorem d_E_tell_49 : decode b_E_tell 49 = .ok (.aload_n 0, 1) := by decide +kernel
theorem d_E_tell_50 : decode b_E_tell 50 = .ok (.getfield 35, 3) := by decide +kernel
theorem d_E_tell_53 : decode b_E_tell 53 = .ok (.iload_n 3, 1) := by decide +kernel
theorem d_E_tell_54 : decode b_E_tell 54 = .ok (.aload_n 0, 1) := by decide +kernel
theorem d_E_tell_55 : decode b_E_tell 55 = .ok (.getfield 35, 3) := by decide +kernel
theorem d_E_tell_58 : decode b_E_tell 58 = .ok (.iload_n 3, 1) := by decide +kernel
theorem d_E_tell_59 : decode b_E_tell 59 = .ok (.iconst 1, 1) := by decide +kernel
theorem d_E_tell_60 : decode b_E_tell 60 = .ok (.isub, 1) := by decide +kernel
theorem d_E_tell_61 : decode b_E_tell 61 = .ok (.iaload, 1) := by decide +kernel
theorem d_E_tell_62 : decode b_E_tell 62 = .ok (.iastore, 1) := by decide +kernel
theorem d_E_tell_63 : decode b_E_tell 63 = .ok (.iinc 3 (-1), 3) := by decide +kernel
theorem d_E_tell_66 : decode b_E_tell 66 = .ok (.goto (-47), 3) := by decide +kernel
theorem d_E_tell_69 : decode b_E_tell 69 = .ok (.aload_n 0, 1) := by decide +kernel
theorem d_E_tell_70 : decode b_E_tell 70 = .ok (.getfield 31, 3) := by decide +kernel
theorem d_E_tell_73 : decode b_E_tell 73 = .ok (.iload_n 3, 1) := by decide +kernel
theorem d_E_tell_74 : decode b_E_tell 74 = .ok (.iload_n 1, 1) := by decide +kernel
theorem d_E_tell_75 : decode b_E_tell 75 = .ok (.iastore, 1) := by decide +kernel
theorem d_E_tell_76 : decode b_E_tell 76 = .ok (.aload_n 0, 1) := by decide +kernel
theorem d_E_tell_77 : decode b_E_tell 77 = .ok (.getfield 35, 3) := by decide +kernel
theorem d_E_tell_80 : decode b_E_tell 80 = .ok (.iload_n 3, 1) := by decide +kernel
theorem d_E_tell_81 : decode b_E_tell 81 = .ok (.iload_n 2, 1) := by decide +kernel
theorem d_E_tell_82 : decode b_E_tell 82 = .ok (.iastore, 1) := by decide +kernel
theorem d_E_tell_83 : decode b_E_tell 83 = .ok (.aload_n 0, 1) := by decide +kernel
theorem d_E_tell_84 : decode b_E_tell 84 = .ok (.aload_n 0, 1) := by decide +kernel
theorem d_E_tell_85 : decode b_E_tell 85 = .ok (.getfield 62, 3) := by decide +kernel
theorem d_E_tell_88 : decode b_E_tell 88 = .ok (.iconst 1, 1) := by decide +kernel
theorem d_E_tell_89 : decode b_E_tell 89 = .ok (.iadd, 1) := by decide +kernel
theorem d_E_tell_90 : decode b_E_tell 90 = .ok (.bipush 12, 2) := by decide +kernel
theorem d_E_tell_92 : decode b_E_tell 92 = .ok (.invokestatic 122, 3) := by decide +kernel
theorem d_E_tell_95 : decode b_E_tell 95 = .ok (.putfield 62, 3) := by decide +kernel
theorem d_E_tell_98 : decode b_E_tell 98 = .ok (.return_, 1) := by decide +kernel
theorem d_E_findWitnesses_0 : decode b_E_findWitnesses 0 = .ok (.aload_n 0, 1) := by decide +kernel
theorem d_E_findWitnesses_1 : decode b_E_findWitnesses 1 = .ok (.iconst 0, 1) := by decide +kernel
theorem d_E_findWitnesses_2 : decode b_E_findWitnesses 2 = .ok (.putfield 62, 3) := by decide +kernel
theorem d_E_findWitnesses_5 : decode b_E_findWitnesses 5 = .ok (.aload_n 1, 1) := by decide +kernel
theorem d_E_findWitnesses_6 : decode b_E_findWitnesses 6 = .ok (.iload_n 2, 1) := by decide +kernel
theorem d_E_findWitnesses_7 : decode b_E_findWitnesses 7 = .ok (.invokevirtual 66, 3) := by decide +kernel
theorem d_E_findWitnesses_10 : decode b_E_findWitnesses 10 = .ok (.astore_n 3, 1) := by decide +kernel
theorem d_E_findWitnesses_11 : decode b_E_findWitnesses 11 = .ok (.aload_n 3, 1) := by decide +kernel
theorem d_E_findWitnesses_12 : decode b_E_findWitnesses 12 = .ok (.ifnonnull 5, 3) := by decide +kernel
theorem d_E_findWitnesses_15 : decode b_E_findWitnesses 15 = .ok (.iconst 0, 1) := by decide +kernel
theorem d_E_findWitnesses_16 : decode b_E_findWitnesses 16 = .ok (.ireturn, 1) := by decide +kernel
theorem d_E_findWitnesses_17 : decode b_E_findWitnesses 17 = .ok (.aload_n 0, 1) := by decide +kernel
theorem d_E_findWitnesses_18 : decode b_E_findWitnesses 18 = .ok (.getfield 21, 3) := by decide +kernel
theorem d_E_findWitnesses_21 : decode b_E_findWitnesses 21 = .ok (.invokevirtual 38, 3) := by decide +kernel
theorem d_E_findWitnesses_24 : decode b_E_findWitnesses 24 = .ok (.aload_n 0, 1) := by decide +kernel
theorem d_E_findWitnesses_25 : decode b_E_findWitnesses 25 = .ok (.aload_n 1, 1) := by decide +kernel
theorem d_E_findWitnesses_26 : decode b_E_findWitnesses 26 = .ok (.iload_n 2, 1) := by decide +kernel
theorem d_E_findWitnesses_27 : decode b_E_findWitnesses 27 = .ok (.invokevirtual 41, 3) := by decide +kernel
theorem d_E_findWitnesses_30 : decode b_E_findWitnesses 30 = .ok (.aload_n 0, 1) := by decide +kernel
theorem d_E_findWitnesses_31 : decode b_E_findWitnesses 31 = .ok (.aload_n 3, 1) := by decide +kernel
theorem d_E_findWitnesses_32 : decode b_E_findWitnesses 32 = .ok (.invokevirtual 72, 3) := by decide +kernel
theorem d_E_findWitnesses_35 : decode b_E_findWitnesses 35 = .ok (.iconst 0, 1) := by decide +kernel
theorem d_E_findWitnesses_36 : decode b_E_findWitnesses 36 = .ok (.istore 4, 2) := by decide +kernel
theorem d_E_findWitnesses_38 : decode b_E_findWitnesses 38 = .ok (.iload 4, 2) := by decide +kernel
theorem d_E_findWitnesses_40 : decode b_E_findWitnesses 40 = .ok (.sipush 3341, 3) := by decide +kernel
theorem d_E_findWitnesses_43 : decode b_E_findWitnesses 43 = .ok (.if_icmp .ge 48, 3) := by decide +kernel
theorem d_E_findWitnesses_46 : decode b_E_findWitnesses 46 = .ok (.aload_n 3, 1) := by decide +kernel
theorem d_E_findWitnesses_47 : decode b_E_findWitnesses 47 = .ok (.iload 4, 2) := by decide +kernel
theorem d_E_findWitnesses_49 : decode b_E_findWitnesses 49 = .ok (.invokevirtual 76, 3) := by decide +kernel
theorem d_E_findWitnesses_52 : decode b_E_findWitnesses 52 = .ok (.istore 5, 2) := by decide +kernel
theorem d_E_findWitnesses_54 : decode b_E_findWitnesses 54 = .ok (.iload 5, 2) := by decide +kernel
theorem d_E_findWitnesses_56 : decode b_E_findWitnesses 56 = .ok (.ifCond .le 29, 3) := by decide +kernel
theorem d_E_findWitnesses_59 : decode b_E_findWitnesses 59 = .ok (.aload_n 0, 1) := by decide +kernel
theorem d_E_findWitnesses_60 : decode b_E_findWitnesses 60 = .ok (.iload 5, 2) := by decide +kernel
theorem d_E_findWitnesses_62 : decode b_E_findWitnesses 62 = .ok (.invokevirtual 79, 3) := by decide +kernel
theorem d_E_findWitnesses_65 : decode b_E_findWitnesses 65 = .ok (.ifCond .eq 20, 3) := by decide +kernel
theorem d_E_findWitnesses_68 : decode b_E_findWitnesses 68 = .ok (.aload_n 0, 1) := by decide +kernel
theorem d_E_findWitnesses_69 : decode b_E_findWitnesses 69 = .ok (.iload 4, 2) := by decide +kernel
theorem d_E_findWitnesses_71 : decode b_E_findWitnesses 71 = .ok (.invokevirtual 52, 3) := by decide +kernel
theorem d_E_findWitnesses_74 : decode b_E_findWitnesses 74 = .ok (.ifCond .eq 11, 3) := by decide +kernel
theorem d_E_findWitnesses_77 : decode b_E_findWitnesses 77 = .ok (.aload_n 0, 1) := by decide +kernel
theorem d_E_findWitnesses_78 : decode b_E_findWitnesses 78 = .ok (.iload 4, 2) := by decide +kernel
theorem d_E_findWitnesses_80 : decode b_E_findWitnesses 80 = .ok (.iload 5, 2) := by decide +kernel
theorem d_E_findWitnesses_82 : decode b_E_findWitnesses 82 = .ok (.invokevirtual 82, 3) := by decide +kernel
theorem d_E_findWitnesses_85 : decode b_E_findWitnesses 85 = .ok (.iinc 4 1, 3) := by decide +kernel
theorem d_E_findWitnesses_88 : decode b_E_findWitnesses 88 = .ok (.goto (-50), 3) := by decide +kernel
theorem d_E_findWitnesses_91 : decode b_E_findWitnesses 91 = .ok (.aload_n 0, 1) := by decide +kernel
theorem d_E_findWitnesses_92 : decode b_E_findWitnesses 92 = .ok (.getfield 62, 3) := by decide +kernel
theorem d_E_findWitnesses_95 : decode b_E_findWitnesses 95 = .ok (.ireturn, 1) := by decide +kernel
theorem d_E_witnessNumber_0 : decode b_E_witnessNumber 0 = .ok (.iload_n 1, 1) := by decide +kernel
theorem d_E_witnessNumber_1 : decode b_E_witnessNumber 1 = .ok (.ifCond .lt 11, 3) := by decide +kernel
theorem d_E_witnessNumber_4 : decode b_E_witnessNumber 4 = .ok (.iload_n 1, 1) := by decide +kernel
theorem d_E_witnessNumber_5 : decode b_E_witnessNumber 5 = .ok (.aload_n 0, 1) := by decide +kernel
theorem d_E_witnessNumber_6 : decode b_E_witnessNumber 6 = .ok (.getfield 62, 3) := by decide +kernel
theorem d_E_witnessNumber_9 : decode b_E_witnessNumber 9 = .ok (.if_icmp .lt 6, 3) := by decide +kernel
theorem d_E_witnessNumber_12 : decode b_E_witnessNumber 12 = .ok (.bipush (-5), 2) := by decide +kernel
theorem d_E_witnessNumber_14 : decode b_E_witnessNumber 14 = .ok (.ireturn, 1) := by decide +kernel
theorem d_E_witnessNumber_15 : decode b_E_witnessNumber 15 = .ok (.iload_n 2, 1) := by decide +kernel
theorem d_E_witnessNumber_16 : decode b_E_witnessNumber 16 = .ok (.iconst 2, 1) := by decide +kernel
theorem d_E_witnessNumber_17 : decode b_E_witnessNumber 17 = .ok (.if_icmp .ne 10, 3) := by decide +kernel
theorem d_E_witnessNumber_20 : decode b_E_witnessNumber 20 = .ok (.aload_n 0, 1) := by decide +kernel
theorem d_E_witnessNumber_21 : decode b_E_witnessNumber 21 = .ok (.getfield 35, 3) := by decide +kernel
theorem d_E_witnessNumber_24 : decode b_E_witnessNumber 24 = .ok (.iload_n 1, 1) := by decide +kernel
theorem d_E_witnessNumber_25 : decode b_E_witnessNumber 25 = .ok (.iaload, 1) := by decide +kernel
theorem d_E_witnessNumber_26 : decode b_E_witnessNumber 26 = .ok (.ireturn, 1) := by decide +kernel
theorem d_E_witnessNumber_27 : decode b_E_witnessNumber 27 = .ok (.iload_n 2, 1) := by decide +kernel
theorem d_E_witnessNumber_28 : decode b_E_witnessNumber 28 = .ok (.iconst 1, 1) := by decide +kernel
theorem d_E_witnessNumber_29 : decode b_E_witnessNumber 29 = .ok (.if_icmp .ne 19, 3) := by decide +kernel
theorem d_E_witnessNumber_32 : decode b_E_witnessNumber 32 = .ok (.aload_n 0, 1) := by decide +kernel
theorem d_E_witnessNumber_33 : decode b_E_witnessNumber 33 = .ok (.getfield 21, 3) := by decide +kernel
theorem d_E_witnessNumber_36 : decode b_E_witnessNumber 36 = .ok (.aload_n 0, 1) := by decide +kernel
theorem d_E_witnessNumber_37 : decode b_E_witnessNumber 37 = .ok (.getfield 31, 3) := by decide +kernel
theorem d_E_witnessNumber_40 : decode b_E_witnessNumber 40 = .ok (.iload_n 1, 1) := by decide +kernel
theorem d_E_witnessNumber_41 : decode b_E_witnessNumber 41 = .ok (.iaload, 1) := by decide +kernel
theorem d_E_witnessNumber_42 : decode b_E_witnessNumber 42 = .ok (.invokevirtual 59, 3) := by decide +kernel
theorem d_E_witnessNumber_45 : decode b_E_witnessNumber 45 = .ok (.goto 16, 3) := by decide +kernel
theorem d_E_witnessNumber_48 : decode b_E_witnessNumber 48 = .ok (.aload_n 0, 1) := by decide +kernel
theorem d_E_witnessNumber_49 : decode b_E_witnessNumber 49 = .ok (.getfield 21, 3) := by decide +kernel
theorem d_E_witnessNumber_52 : decode b_E_witnessNumber 52 = .ok (.aload_n 0, 1) := by decide +kernel
theorem d_E_witnessNumber_53 : decode b_E_witnessNumber 53 = .ok (.getfield 31, 3) := by decide +kernel
theorem d_E_witnessNumber_56 : decode b_E_witnessNumber 56 = .ok (.iload_n 1, 1) := by decide +kernel
theorem d_E_witnessNumber_57 : decode b_E_witnessNumber 57 = .ok (.iaload, 1) := by decide +kernel
theorem d_E_witnessNumber_58 : decode b_E_witnessNumber 58 = .ok (.invokevirtual 86, 3) := by decide +kernel
theorem d_E_witnessNumber_61 : decode b_E_witnessNumber 61 = .ok (.ireturn, 1) := by decide +kernel
theorem d_H_goBack_0 : decode b_H_goBack 0 = .ok (.aload_n 0, 1) := by decide +kernel
theorem d_H_goBack_1 : decode b_H_goBack 1 = .ok (.getfield 22, 3) := by decide +kernel
theorem d_H_goBack_4 : decode b_H_goBack 4 = .ok (.ifCond .ne 5, 3) := by decide +kernel
theorem d_H_goBack_7 : decode b_H_goBack 7 = .ok (.iconst 0, 1) := by decide +kernel
theorem d_H_goBack_8 : decode b_H_goBack 8 = .ok (.ireturn, 1) := by decide +kernel
theorem d_H_goBack_9 : decode b_H_goBack 9 = .ok (.aload_n 0, 1) := by decide +kernel
theorem d_H_goBack_10 : decode b_H_goBack 10 = .ok (.dup, 1) := by decide +kernel
theorem d_H_goBack_11 : decode b_H_goBack 11 = .ok (.getfield 22, 3) := by decide +kernel
theorem d_H_goBack_14 : decode b_H_goBack 14 = .ok (.iconst 1, 1) := by decide +kernel
theorem d_H_goBack_15 : decode b_H_goBack 15 = .ok (.isub, 1) := by decide +kernel
theorem d_H_goBack_16 : decode b_H_goBack 16 = .ok (.putfield 22, 3) := by decide +kernel
theorem d_H_goBack_19 : decode b_H_goBack 19 = .ok (.aload_n 1, 1) := by decide +kernel
theorem d_H_goBack_20 : decode b_H_goBack 20 = .ok (.aload_n 0, 1) := by decide +kernel
theorem d_H_goBack_21 : decode b_H_goBack 21 = .ok (.getfield 12, 3) := by decide +kernel
theorem d_H_goBack_24 : decode b_H_goBack 24 = .ok (.aload_n 0, 1) := by decide +kernel
theorem d_H_goBack_25 : decode b_H_goBack 25 = .ok (.getfield 22, 3) := by decide +kernel
theorem d_H_goBack_28 : decode b_H_goBack 28 = .ok (.aaload, 1) := by decide +kernel
theorem d_H_goBack_29 : decode b_H_goBack 29 = .ok (.invokevirtual 29, 3) := by decide +kernel
theorem d_H_goBack_32 : decode b_H_goBack 32 = .ok (.iconst 1, 1) := by decide +kernel
theorem d_H_goBack_33 : decode b_H_goBack 33 = .ok (.ireturn, 1) := by decide +kernel
theorem d_H_takeSnapshot_0 : decode b_H_takeSnapshot 0 = .ok (.aload_n 0, 1) := by decide +kernel
theorem d_H_takeSnapshot_1 : decode b_H_takeSnapshot 1 = .ok (.getfield 18, 3) := by decide +kernel
theorem d_H_takeSnapshot_4 : decode b_H_takeSnapshot 4 = .ok (.aload_n 1, 1) := by decide +kernel
theorem d_H_takeSnapshot_5 : decode b_H_takeSnapshot 5 = .ok (.invokevirtual 29, 3) := by decide +kernel
theorem d_H_takeSnapshot_8 : decode b_H_takeSnapshot 8 = .ok (.aload_n 0, 1) := by decide +kernel
theorem d_H_takeSnapshot_9 : decode b_H_takeSnapshot 9 = .ok (.iconst 1, 1) := by decide +kernel
theorem d_H_takeSnapshot_10 : decode b_H_takeSnapshot 10 = .ok (.putfield 33, 3) := by decide +kernel
theorem d_H_takeSnapshot_13 : decode b_H_takeSnapshot 13 = .ok (.return_, 1) := by decide +kernel
theorem d_H_bringSnapshot_0 : decode b_H_bringSnapshot 0 = .ok (.aload_n 1, 1) := by decide +kernel
theorem d_H_bringSnapshot_1 : decode b_H_bringSnapshot 1 = .ok (.aload_n 0, 1) := by decide +kernel
theorem d_H_bringSnapshot_2 : decode b_H_bringSnapshot 2 = .ok (.getfield 18, 3) := by decide +kernel
theorem d_H_bringSnapshot_5 : decode b_H_bringSnapshot 5 = .ok (.invokevirtual 29, 3) := by decide +kernel
theorem d_H_bringSnapshot_8 : decode b_H_bringSnapshot 8 = .ok (.return_, 1) := by decide +kernel
theorem d_E_modelCode_0 : decode b_E_modelCode 0 = .ok (.aload_n 0, 1) := by decide +kernel
theorem d_E_modelCode_1 : decode b_E_modelCode 1 = .ok (.getfield 21, 3) := by decide +kernel
theorem d_E_modelCode_4 : decode b_E_modelCode 4 = .ok (.invokevirtual 38, 3) := by decide +kernel
theorem d_E_modelCode_7 : decode b_E_modelCode 7 = .ok (.aload_n 0, 1) := by decide +kernel
theorem d_E_modelCode_8 : decode b_E_modelCode 8 = .ok (.aload_n 1, 1) := by decide +kernel
theorem d_E_modelCode_9 : decode b_E_modelCode 9 = .ok (.iconst (-1), 1) := by decide +kernel
theorem d_E_modelCode_10 : decode b_E_modelCode 10 = .ok (.invokevirtual 41, 3) := by decide +kernel
theorem d_E_modelCode_13 : decode b_E_modelCode 13 = .ok (.iconst 0, 1) := by decide +kernel
theorem d_E_modelCode_14 : decode b_E_modelCode 14 = .ok (.istore 4, 2) := by decide +kernel
theorem d_E_modelCode_16 : decode b_E_modelCode 16 = .ok (.aload_n 0, 1) := by decide +kernel
theorem d_E_modelCode_17 : decode b_E_modelCode 17 = .ok (.getfield 21, 3) := by decide +kernel
theorem d_E_modelCode_20 : decode b_E_modelCode 20 = .ok (.iload_n 2, 1) := by decide +kernel
theorem d_E_modelCode_21 : decode b_E_modelCode 21 = .ok (.invokevirtual 45, 3) := by decide +kernel
theorem d_E_modelCode_24 : decode b_E_modelCode 24 = .ok (.istore 5, 2) := by decide +kernel
theorem d_E_modelCode_26 : decode b_E_modelCode 26 = .ok (.iload 5, 2) := by decide +kernel
theorem d_E_modelCode_28 : decode b_E_modelCode 28 = .ok (.aload_n 0, 1) := by decide +kernel
theorem d_E_modelCode_29 : decode b_E_modelCode 29 = .ok (.getfield 21, 3) := by decide +kernel
theorem d_E_modelCode_32 : decode b_E_modelCode 32 = .ok (.iload_n 2, 1) := by decide +kernel
theorem d_E_modelCode_33 : decode b_E_modelCode 33 = .ok (.invokevirtual 49, 3) := by decide +kernel
theorem d_E_modelCode_36 : decode b_E_modelCode 36 = .ok (.if_icmp .ge 37, 3) := by decide +kernel
theorem d_E_modelCode_39 : decode b_E_modelCode 39 = .ok (.aload_n 0, 1) := by decide +kernel
theorem d_E_modelCode_40 : decode b_E_modelCode 40 = .ok (.iload 5, 2) := by decide +kernel
theorem d_E_modelCode_42 : decode b_E_modelCode 42 = .ok (.invokevirtual 52, 3) := by decide +kernel
theorem d_E_modelCode_45 : decode b_E_modelCode 45 = .ok (.ifCond .eq 22, 3) := by decide +kernel
theorem d_E_modelCode_48 : decode b_E_modelCode 48 = .ok (.iload 4, 2) := by decide +kernel
theorem d_E_modelCode_50 : decode b_E_modelCode 50 = .ok (.iload_n 3, 1) := by decide +kernel
theorem d_E_modelCode_51 : decode b_E_modelCode 51 = .ok (.if_icmp .ne 13, 3) := by decide +kernel
theorem d_E_modelCode_54 : decode b_E_modelCode 54 = .ok (.aload_n 0, 1) := by decide +kernel
theorem d_E_modelCode_55 : decode b_E_modelCode 55 = .ok (.getfield 21, 3) := by decide +kernel
theorem d_E_modelCode_58 : decode b_E_modelCode 58 = .ok (.iload 5, 2) := by decide +kernel
theorem d_E_modelCode_60 : decode b_E_modelCode 60 = .ok (.invokevirtual 59, 3) := by decide +kernel
theorem d_E_modelCode_63 : decode b_E_modelCode 63 = .ok (.ireturn, 1) := by decide +kernel
theorem d_E_modelCode_64 : decode b_E_modelCode 64 = .ok (.iinc 4 1, 3) := by decide +kernel
theorem d_E_modelCode_67 : decode b_E_modelCode 67 = .ok (.iinc 5 1, 3) := by decide +kernel
theorem d_E_modelCode_70 : decode b_E_modelCode 70 = .ok (.goto (-44), 3) := by decide +kernel
theorem d_E_modelCode_73 : decode b_E_modelCode 73 = .ok (.bipush (-5), 2) := by decide +kernel
theorem d_E_modelCode_75 : decode b_E_modelCode 75 = .ok (.ireturn, 1) := by decide +kernel
theorem d_E_countModels_0 : decode b_E_countModels 0 = .ok (.aload_n 0, 1) := by decide +kernel
theorem d_E_countModels_1 : decode b_E_countModels 1 = .ok (.getfield 21, 3) := by decide +kernel
theorem d_E_countModels_4 : decode b_E_countModels 4 = .ok (.invokevirtual 38, 3) := by decide +kernel
theorem d_E_countModels_7 : decode b_E_countModels 7 = .ok (.aload_n 0, 1) := by decide +kernel
theorem d_E_countModels_8 : decode b_E_countModels 8 = .ok (.aload_n 1, 1) := by decide +kernel
theorem d_E_countModels_9 : decode b_E_countModels 9 = .ok (.iconst (-1), 1) := by decide +kernel
theorem d_E_countModels_10 : decode b_E_countModels 10 = .ok (.invokevirtual 41, 3) := by decide +kernel
theorem d_E_countModels_13 : decode b_E_countModels 13 = .ok (.iconst 0, 1) := by decide +kernel
theorem d_E_countModels_14 : decode b_E_countModels 14 = .ok (.istore 4, 2) := by decide +kernel
theorem d_E_countModels_16 : decode b_E_countModels 16 = .ok (.aload_n 0, 1) := by decide +kernel
theorem d_E_countModels_17 : decode b_E_countModels 17 = .ok (.getfield 21, 3) := by decide +kernel
theorem d_E_countModels_20 : decode b_E_countModels 20 = .ok (.iload_n 2, 1) := by decide +kernel
theorem d_E_countModels_21 : decode b_E_countModels 21 = .ok (.invokevirtual 45, 3) := by decide +kernel
theorem d_E_countModels_24 : decode b_E_countModels 24 = .ok (.istore 5, 2) := by decide +kernel
theorem d_E_countModels_26 : decode b_E_countModels 26 = .ok (.iload 5, 2) := by decide +kernel
theorem d_E_countModels_28 : decode b_E_countModels 28 = .ok (.aload_n 0, 1) := by decide +kernel
theorem d_E_countModels_29 : decode b_E_countModels 29 = .ok (.getfield 21, 3) := by decide +kernel
theorem d_E_countModels_32 : decode b_E_countModels 32 = .ok (.iload_n 2, 1) := by decide +kernel
theorem d_E_countModels_33 : decode b_E_countModels 33 = .ok (.invokevirtual 49, 3) := by decide +kernel
theorem d_E_countModels_36 : decode b_E_countModels 36 = .ok (.if_icmp .ge 40, 3) := by decide +kernel
theorem d_E_countModels_39 : decode b_E_countModels 39 = .ok (.aload_n 0, 1) := by decide +kernel
theorem d_E_countModels_40 : decode b_E_countModels 40 = .ok (.iload 5, 2) := by decide +kernel
theorem d_E_countModels_42 : decode b_E_countModels 42 = .ok (.invokevirtual 52, 3) := by decide +kernel
theorem d_E_countModels_45 : decode b_E_countModels 45 = .ok (.ifCond .eq 25, 3) := by decide +kernel
theorem d_E_countModels_48 : decode b_E_countModels 48 = .ok (.iload 4, 2) := by decide +kernel
theorem d_E_countModels_50 : decode b_E_countModels 50 = .ok (.iload_n 3, 1) := by decide +kernel
theorem d_E_countModels_51 : decode b_E_countModels 51 = .ok (.ifCond .eq 15, 3) := by decide +kernel
theorem d_E_countModels_54 : decode b_E_countModels 54 = .ok (.aload_n 0, 1) := by decide +kernel
theorem d_E_countModels_55 : decode b_E_countModels 55 = .ok (.getfield 21, 3) := by decide +kernel
theorem d_E_countModels_58 : decode b_E_countModels 58 = .ok (.iload 5, 2) := by decide +kernel
theorem d_E_countModels_60 : decode b_E_countModels 60 = .ok (.invokevirtual 56, 3) := by decide +kernel
theorem d_E_countModels_63 : decode b_E_countModels 63 = .ok (.goto 4, 3) := by decide +kernel
theorem d_E_countModels_66 : decode b_E_countModels 66 = .ok (.iconst 1, 1) := by decide +kernel
theorem d_E_countModels_67 : decode b_E_countModels 67 = .ok (.iadd, 1) := by decide +kernel
theorem d_E_countModels_68 : decode b_E_countModels 68 = .ok (.istore 4, 2) := by decide +kernel
theorem d_E_countModels_70 : decode b_E_countModels 70 = .ok (.iinc 5 1, 3) := by decide +kernel
theorem d_E_countModels_73 : decode b_E_countModels 73 = .ok (.goto (-47), 3) := by decide +kernel
theorem d_E_countModels_76 : decode b_E_countModels 76 = .ok (.iload 4, 2) := by decide +kernel
theorem d_E_countModels_78 : decode b_E_countModels 78 = .ok (.ireturn, 1) := by decide +kernel
