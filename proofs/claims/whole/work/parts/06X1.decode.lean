theorem d_X_init_0 : decode b_X_init 0 = .ok (.aload_n 0, 1) := by decide +kernel
theorem d_X_init_1 : decode b_X_init 1 = .ok (.invokespecial 1, 3) := by decide +kernel
theorem d_X_init_4 : decode b_X_init 4 = .ok (.aload_n 0, 1) := by decide +kernel
theorem d_X_init_5 : decode b_X_init 5 = .ok (.new 7, 3) := by decide +kernel
theorem d_X_init_8 : decode b_X_init 8 = .ok (.dup, 1) := by decide +kernel
theorem d_X_init_9 : decode b_X_init 9 = .ok (.invokespecial 9, 3) := by decide +kernel
theorem d_X_init_12 : decode b_X_init 12 = .ok (.putfield 10, 3) := by decide +kernel
theorem d_X_init_15 : decode b_X_init 15 = .ok (.aload_n 0, 1) := by decide +kernel
theorem d_X_init_16 : decode b_X_init 16 = .ok (.new 16, 3) := by decide +kernel
theorem d_X_init_19 : decode b_X_init 19 = .ok (.dup, 1) := by decide +kernel
theorem d_X_init_20 : decode b_X_init 20 = .ok (.invokespecial 18, 3) := by decide +kernel
theorem d_X_init_23 : decode b_X_init 23 = .ok (.putfield 19, 3) := by decide +kernel
theorem d_X_init_26 : decode b_X_init 26 = .ok (.aload_n 0, 1) := by decide +kernel
theorem d_X_init_27 : decode b_X_init 27 = .ok (.new 23, 3) := by decide +kernel
theorem d_X_init_30 : decode b_X_init 30 = .ok (.dup, 1) := by decide +kernel
theorem d_X_init_31 : decode b_X_init 31 = .ok (.invokespecial 25, 3) := by decide +kernel
theorem d_X_init_34 : decode b_X_init 34 = .ok (.putfield 26, 3) := by decide +kernel
theorem d_X_init_37 : decode b_X_init 37 = .ok (.aload_n 0, 1) := by decide +kernel
theorem d_X_init_38 : decode b_X_init 38 = .ok (.new 30, 3) := by decide +kernel
theorem d_X_init_41 : decode b_X_init 41 = .ok (.dup, 1) := by decide +kernel
theorem d_X_init_42 : decode b_X_init 42 = .ok (.invokespecial 32, 3) := by decide +kernel
theorem d_X_init_45 : decode b_X_init 45 = .ok (.putfield 33, 3) := by decide +kernel
theorem d_X_init_48 : decode b_X_init 48 = .ok (.aload_n 0, 1) := by decide +kernel
theorem d_X_init_49 : decode b_X_init 49 = .ok (.new 37, 3) := by decide +kernel
theorem d_X_init_52 : decode b_X_init 52 = .ok (.dup, 1) := by decide +kernel
theorem d_X_init_53 : decode b_X_init 53 = .ok (.invokespecial 39, 3) := by decide +kernel
theorem d_X_init_56 : decode b_X_init 56 = .ok (.putfield 40, 3) := by decide +kernel
theorem d_X_init_59 : decode b_X_init 59 = .ok (.aload_n 0, 1) := by decide +kernel
theorem d_X_init_60 : decode b_X_init 60 = .ok (.new 44, 3) := by decide +kernel
theorem d_X_init_63 : decode b_X_init 63 = .ok (.dup, 1) := by decide +kernel
theorem d_X_init_64 : decode b_X_init 64 = .ok (.invokespecial 46, 3) := by decide +kernel
theorem d_X_init_67 : decode b_X_init 67 = .ok (.putfield 47, 3) := by decide +kernel
theorem d_X_init_70 : decode b_X_init 70 = .ok (.aload_n 0, 1) := by decide +kernel
theorem d_X_init_71 : decode b_X_init 71 = .ok (.bipush 60, 2) := by decide +kernel
theorem d_X_init_73 : decode b_X_init 73 = .ok (.newarray .char, 2) := by decide +kernel
theorem d_X_init_75 : decode b_X_init 75 = .ok (.putfield 51, 3) := by decide +kernel
theorem d_X_init_78 : decode b_X_init 78 = .ok (.return_, 1) := by decide +kernel
theorem d_X_take_0 : decode b_X_take 0 = .ok (.iload_n 1, 1) := by decide +kernel
theorem d_X_take_1 : decode b_X_take 1 = .ok (.iload_n 2, 1) := by decide +kernel
theorem d_X_take_2 : decode b_X_take 2 = .ok (.invokestatic 55, 3) := by decide +kernel
theorem d_X_take_5 : decode b_X_take 5 = .ok (.ifCond .ne 6, 3) := by decide +kernel
theorem d_X_take_8 : decode b_X_take 8 = .ok (.bipush (-2), 2) := by decide +kernel
theorem d_X_take_10 : decode b_X_take 10 = .ok (.ireturn, 1) := by decide +kernel
theorem d_X_take_11 : decode b_X_take 11 = .ok (.iload_n 1, 1) := by decide +kernel
theorem d_X_take_12 : decode b_X_take 12 = .ok (.aload_n 0, 1) := by decide +kernel
theorem d_X_take_13 : decode b_X_take 13 = .ok (.getfield 10, 3) := by decide +kernel
theorem d_X_take_16 : decode b_X_take 16 = .ok (.getfield 61, 3) := by decide +kernel
theorem d_X_take_19 : decode b_X_take 19 = .ok (.if_icmp .ne 17, 3) := by decide +kernel
theorem d_X_take_22 : decode b_X_take 22 = .ok (.iload_n 2, 1) := by decide +kernel
theorem d_X_take_23 : decode b_X_take 23 = .ok (.aload_n 0, 1) := by decide +kernel
theorem d_X_take_24 : decode b_X_take 24 = .ok (.getfield 10, 3) := by decide +kernel
theorem d_X_take_27 : decode b_X_take 27 = .ok (.getfield 65, 3) := by decide +kernel
theorem d_X_take_30 : decode b_X_take 30 = .ok (.if_icmp .ne 6, 3) := by decide +kernel
theorem d_X_take_33 : decode b_X_take 33 = .ok (.bipush (-5), 2) := by decide +kernel
theorem d_X_take_35 : decode b_X_take 35 = .ok (.ireturn, 1) := by decide +kernel
theorem d_X_take_36 : decode b_X_take 36 = .ok (.aload_n 0, 1) := by decide +kernel
theorem d_X_take_37 : decode b_X_take 37 = .ok (.getfield 10, 3) := by decide +kernel
theorem d_X_take_40 : decode b_X_take 40 = .ok (.getfield 65, 3) := by decide +kernel
theorem d_X_take_43 : decode b_X_take 43 = .ok (.istore_n 3, 1) := by decide +kernel
theorem d_X_take_44 : decode b_X_take 44 = .ok (.aload_n 0, 1) := by decide +kernel
theorem d_X_take_45 : decode b_X_take 45 = .ok (.getfield 19, 3) := by decide +kernel
theorem d_X_take_48 : decode b_X_take 48 = .ok (.aload_n 0, 1) := by decide +kernel
theorem d_X_take_49 : decode b_X_take 49 = .ok (.getfield 10, 3) := by decide +kernel
theorem d_X_take_52 : decode b_X_take 52 = .ok (.invokevirtual 68, 3) := by decide +kernel
theorem d_X_take_55 : decode b_X_take 55 = .ok (.aload_n 0, 1) := by decide +kernel
theorem d_X_take_56 : decode b_X_take 56 = .ok (.getfield 10, 3) := by decide +kernel
theorem d_X_take_59 : decode b_X_take 59 = .ok (.iload_n 1, 1) := by decide +kernel
theorem d_X_take_60 : decode b_X_take 60 = .ok (.putfield 61, 3) := by decide +kernel
theorem d_X_take_63 : decode b_X_take 63 = .ok (.aload_n 0, 1) := by decide +kernel
theorem d_X_take_64 : decode b_X_take 64 = .ok (.getfield 10, 3) := by decide +kernel
theorem d_X_take_67 : decode b_X_take 67 = .ok (.iload_n 2, 1) := by decide +kernel
theorem d_X_take_68 : decode b_X_take 68 = .ok (.putfield 65, 3) := by decide +kernel
theorem d_X_take_71 : decode b_X_take 71 = .ok (.iload_n 3, 1) := by decide +kernel
theorem d_X_take_72 : decode b_X_take 72 = .ok (.ireturn, 1) := by decide +kernel
theorem d_X_isThing_0 : decode b_X_isThing 0 = .ok (.iload_n 1, 1) := by decide +kernel
theorem d_X_isThing_1 : decode b_X_isThing 1 = .ok (.ifCond .lt 18, 3) := by decide +kernel
theorem d_X_isThing_4 : decode b_X_isThing 4 = .ok (.iload_n 1, 1) := by decide +kernel
theorem d_X_isThing_5 : decode b_X_isThing 5 = .ok (.aload_n 0, 1) := by decide +kernel
theorem d_X_isThing_6 : decode b_X_isThing 6 = .ok (.getfield 10, 3) := by decide +kernel
theorem d_X_isThing_9 : decode b_X_isThing 9 = .ok (.getfield 61, 3) := by decide +kernel
theorem d_X_isThing_12 : decode b_X_isThing 12 = .ok (.if_icmp .ge 7, 3) := by decide +kernel
theorem d_X_isThing_15 : decode b_X_isThing 15 = .ok (.iconst 1, 1) := by decide +kernel
theorem d_X_isThing_16 : decode b_X_isThing 16 = .ok (.goto 4, 3) := by decide +kernel
theorem d_X_isThing_19 : decode b_X_isThing 19 = .ok (.iconst 0, 1) := by decide +kernel
theorem d_X_isThing_20 : decode b_X_isThing 20 = .ok (.ireturn, 1) := by decide +kernel
theorem d_X_changeTo_0 : decode b_X_changeTo 0 = .ok (.iload_n 1, 1) := by decide +kernel
theorem d_X_changeTo_1 : decode b_X_changeTo 1 = .ok (.aload_n 0, 1) := by decide +kernel
theorem d_X_changeTo_2 : decode b_X_changeTo 2 = .ok (.getfield 10, 3) := by decide +kernel
theorem d_X_changeTo_5 : decode b_X_changeTo 5 = .ok (.getfield 65, 3) := by decide +kernel
theorem d_X_changeTo_8 : decode b_X_changeTo 8 = .ok (.if_icmp .ne 6, 3) := by decide +kernel
theorem d_X_changeTo_11 : decode b_X_changeTo 11 = .ok (.bipush (-5), 2) := by decide +kernel
theorem d_X_changeTo_13 : decode b_X_changeTo 13 = .ok (.ireturn, 1) := by decide +kernel
theorem d_X_changeTo_14 : decode b_X_changeTo 14 = .ok (.aload_n 0, 1) := by decide +kernel
theorem d_X_changeTo_15 : decode b_X_changeTo 15 = .ok (.getfield 19, 3) := by decide +kernel
theorem d_X_changeTo_18 : decode b_X_changeTo 18 = .ok (.aload_n 0, 1) := by decide +kernel
theorem d_X_changeTo_19 : decode b_X_changeTo 19 = .ok (.getfield 10, 3) := by decide +kernel
theorem d_X_changeTo_22 : decode b_X_changeTo 22 = .ok (.invokevirtual 68, 3) := by decide +kernel
theorem d_X_changeTo_25 : decode b_X_changeTo 25 = .ok (.aload_n 0, 1) := by decide +kernel
theorem d_X_changeTo_26 : decode b_X_changeTo 26 = .ok (.getfield 10, 3) := by decide +kernel
theorem d_X_changeTo_29 : decode b_X_changeTo 29 = .ok (.iload_n 1, 1) := by decide +kernel
theorem d_X_changeTo_30 : decode b_X_changeTo 30 = .ok (.putfield 65, 3) := by decide +kernel
theorem d_X_changeTo_33 : decode b_X_changeTo 33 = .ok (.iload_n 1, 1) := by decide +kernel
theorem d_X_changeTo_34 : decode b_X_changeTo 34 = .ok (.ireturn, 1) := by decide +kernel
theorem d_X_put_0 : decode b_X_put 0 = .ok (.aload_n 0, 1) := by decide +kernel
theorem d_X_put_1 : decode b_X_put 1 = .ok (.iload_n 1, 1) := by decide +kernel
theorem d_X_put_2 : decode b_X_put 2 = .ok (.invokevirtual 72, 3) := by decide +kernel
theorem d_X_put_5 : decode b_X_put 5 = .ok (.ifCond .eq 19, 3) := by decide +kernel
theorem d_X_put_8 : decode b_X_put 8 = .ok (.aload_n 0, 1) := by decide +kernel
theorem d_X_put_9 : decode b_X_put 9 = .ok (.iload_n 2, 1) := by decide +kernel
theorem d_X_put_10 : decode b_X_put 10 = .ok (.invokevirtual 72, 3) := by decide +kernel
theorem d_X_put_13 : decode b_X_put 13 = .ok (.ifCond .eq 11, 3) := by decide +kernel
theorem d_X_put_16 : decode b_X_put 16 = .ok (.aload_n 0, 1) := by decide +kernel
theorem d_X_put_17 : decode b_X_put 17 = .ok (.iload_n 3, 1) := by decide +kernel
theorem d_X_put_18 : decode b_X_put 18 = .ok (.invokevirtual 72, 3) := by decide +kernel
theorem d_X_put_21 : decode b_X_put 21 = .ok (.ifCond .ne 5, 3) := by decide +kernel
theorem d_X_put_24 : decode b_X_put 24 = .ok (.iconst (-1), 1) := by decide +kernel
theorem d_X_put_25 : decode b_X_put 25 = .ok (.ireturn, 1) := by decide +kernel
theorem d_X_put_26 : decode b_X_put 26 = .ok (.iload_n 3, 1) := by decide +kernel
theorem d_X_put_27 : decode b_X_put 27 = .ok (.aload_n 0, 1) := by decide +kernel
theorem d_X_put_28 : decode b_X_put 28 = .ok (.getfield 10, 3) := by decide +kernel
theorem d_X_put_31 : decode b_X_put 31 = .ok (.getfield 61, 3) := by decide +kernel
theorem d_X_put_34 : decode b_X_put 34 = .ok (.aload_n 0, 1) := by decide +kernel
theorem d_X_put_35 : decode b_X_put 35 = .ok (.getfield 10, 3) := by decide +kernel
theorem d_X_put_38 : decode b_X_put 38 = .ok (.getfield 65, 3) := by decide +kernel
theorem d_X_put_41 : decode b_X_put 41 = .ok (.iload_n 1, 1) := by decide +kernel
theorem d_X_put_42 : decode b_X_put 42 = .ok (.iload_n 2, 1) := by decide +kernel
theorem d_X_put_43 : decode b_X_put 43 = .ok (.invokestatic 76, 3) := by decide +kernel
theorem d_X_put_46 : decode b_X_put 46 = .ok (.isub, 1) := by decide +kernel
theorem d_X_put_47 : decode b_X_put 47 = .ok (.istore 4, 2) := by decide +kernel
theorem d_X_put_49 : decode b_X_put 49 = .ok (.aload_n 0, 1) := by decide +kernel
theorem d_X_put_50 : decode b_X_put 50 = .ok (.aload_n 0, 1) := by decide +kernel
theorem d_X_put_51 : decode b_X_put 51 = .ok (.getfield 10, 3) := by decide +kernel
theorem d_X_put_54 : decode b_X_put 54 = .ok (.getfield 65, 3) := by decide +kernel
theorem d_X_put_57 : decode b_X_put 57 = .ok (.iload 4, 2) := by decide +kernel
theorem d_X_put_59 : decode b_X_put 59 = .ok (.aload_n 0, 1) := by decide +kernel
theorem d_X_put_60 : decode b_X_put 60 = .ok (.getfield 10, 3) := by decide +kernel
theorem d_X_put_63 : decode b_X_put 63 = .ok (.getfield 61, 3) := by decide +kernel
theorem d_X_put_66 : decode b_X_put 66 = .ok (.aload_n 0, 1) := by decide +kernel
theorem d_X_put_67 : decode b_X_put 67 = .ok (.getfield 10, 3) := by decide +kernel
theorem d_X_put_70 : decode b_X_put 70 = .ok (.getfield 61, 3) := by decide +kernel
theorem d_X_put_73 : decode b_X_put 73 = .ok (.iload_n 1, 1) := by decide +kernel
theorem d_X_put_74 : decode b_X_put 74 = .ok (.imul, 1) := by decide +kernel
theorem d_X_put_75 : decode b_X_put 75 = .ok (.iload_n 2, 1) := by decide +kernel
theorem d_X_put_76 : decode b_X_put 76 = .ok (.iadd, 1) := by decide +kernel
theorem d_X_put_77 : decode b_X_put 77 = .ok (.invokestatic 80, 3) := by decide +kernel
theorem d_X_put_80 : decode b_X_put 80 = .ok (.imul, 1) := by decide +kernel
theorem d_X_put_81 : decode b_X_put 81 = .ok (.iadd, 1) := by decide +kernel
theorem d_X_put_82 : decode b_X_put 82 = .ok (.invokevirtual 84, 3) := by decide +kernel
theorem d_X_put_85 : decode b_X_put 85 = .ok (.ireturn, 1) := by decide +kernel
theorem d_X_rename_0 : decode b_X_rename 0 = .ok (.aload_n 0, 1) := by decide +kernel
theorem d_X_rename_1 : decode b_X_rename 1 = .ok (.iload_n 1, 1) := by decide +kernel
theorem d_X_rename_2 : decode b_X_rename 2 = .ok (.invokevirtual 72, 3) := by decide +kernel
theorem d_X_rename_5 : decode b_X_rename 5 = .ok (.ifCond .eq 11, 3) := by decide +kernel
theorem d_X_rename_8 : decode b_X_rename 8 = .ok (.aload_n 0, 1) := by decide +kernel
theorem d_X_rename_9 : decode b_X_rename 9 = .ok (.iload_n 2, 1) := by decide +kernel
theorem d_X_rename_10 : decode b_X_rename 10 = .ok (.invokevirtual 72, 3) := by decide +kernel
theorem d_X_rename_13 : decode b_X_rename 13 = .ok (.ifCond .ne 5, 3) := by decide +kernel
theorem d_X_rename_16 : decode b_X_rename 16 = .ok (.iconst (-1), 1) := by decide +kernel
theorem d_X_rename_17 : decode b_X_rename 17 = .ok (.ireturn, 1) := by decide +kernel
theorem d_X_rename_18 : decode b_X_rename 18 = .ok (.iload_n 1, 1) := by decide +kernel
theorem d_X_rename_19 : decode b_X_rename 19 = .ok (.iload_n 2, 1) := by decide +kernel
theorem d_X_rename_20 : decode b_X_rename 20 = .ok (.if_icmp .ne 6, 3) := by decide +kernel
theorem d_X_rename_23 : decode b_X_rename 23 = .ok (.bipush (-2), 2) := by decide +kernel
theorem d_X_rename_25 : decode b_X_rename 25 = .ok (.ireturn, 1) := by decide +kernel
theorem d_X_rename_26 : decode b_X_rename 26 = .ok (.aload_n 0, 1) := by decide +kernel
theorem d_X_rename_27 : decode b_X_rename 27 = .ok (.aload_n 0, 1) := by decide +kernel
theorem d_X_rename_28 : decode b_X_rename 28 = .ok (.getfield 10, 3) := by decide +kernel
theorem d_X_rename_31 : decode b_X_rename 31 = .ok (.getfield 61, 3) := by decide +kernel
theorem d_X_rename_34 : decode b_X_rename 34 = .ok (.aload_n 0, 1) := by decide +kernel
theorem d_X_rename_35 : decode b_X_rename 35 = .ok (.getfield 10, 3) := by decide +kernel
theorem d_X_rename_38 : decode b_X_rename 38 = .ok (.getfield 65, 3) := by decide +kernel
theorem d_X_rename_41 : decode b_X_rename 41 = .ok (.iload_n 1, 1) := by decide +kernel
theorem d_X_rename_42 : decode b_X_rename 42 = .ok (.iload_n 2, 1) := by decide +kernel
theorem d_X_rename_43 : decode b_X_rename 43 = .ok (.invokestatic 88, 3) := by decide +kernel
theorem d_X_rename_46 : decode b_X_rename 46 = .ok (.invokestatic 91, 3) := by decide +kernel
theorem d_X_rename_49 : decode b_X_rename 49 = .ok (.invokevirtual 84, 3) := by decide +kernel
theorem d_X_rename_52 : decode b_X_rename 52 = .ok (.ireturn, 1) := by decide +kernel
theorem d_X_mirror_0 : decode b_X_mirror 0 = .ok (.aload_n 0, 1) := by decide +kernel
theorem d_X_mirror_1 : decode b_X_mirror 1 = .ok (.aload_n 0, 1) := by decide +kernel
theorem d_X_mirror_2 : decode b_X_mirror 2 = .ok (.getfield 10, 3) := by decide +kernel
theorem d_X_mirror_5 : decode b_X_mirror 5 = .ok (.getfield 61, 3) := by decide +kernel
theorem d_X_mirror_8 : decode b_X_mirror 8 = .ok (.aload_n 0, 1) := by decide +kernel
theorem d_X_mirror_9 : decode b_X_mirror 9 = .ok (.getfield 10, 3) := by decide +kernel
theorem d_X_mirror_12 : decode b_X_mirror 12 = .ok (.getfield 65, 3) := by decide +kernel
theorem d_X_mirror_15 : decode b_X_mirror 15 = .ok (.invokestatic 95, 3) := by decide +kernel
theorem d_X_mirror_18 : decode b_X_mirror 18 = .ok (.invokevirtual 84, 3) := by decide +kernel
theorem d_X_mirror_21 : decode b_X_mirror 21 = .ok (.ireturn, 1) := by decide +kernel
theorem d_X_addLaws_0 : decode b_X_addLaws 0 = .ok (.aload_n 0, 1) := by decide +kernel
theorem d_X_addLaws_1 : decode b_X_addLaws 1 = .ok (.getfield 47, 3) := by decide +kernel
theorem d_X_addLaws_4 : decode b_X_addLaws 4 = .ok (.aload_n 0, 1) := by decide +kernel
theorem d_X_addLaws_5 : decode b_X_addLaws 5 = .ok (.getfield 51, 3) := by decide +kernel
theorem d_X_addLaws_8 : decode b_X_addLaws 8 = .ok (.aload_n 0, 1) := by decide +kernel
theorem d_X_addLaws_9 : decode b_X_addLaws 9 = .ok (.getfield 98, 3) := by decide +kernel
theorem d_X_addLaws_12 : decode b_X_addLaws 12 = .ok (.invokevirtual 101, 3) := by decide +kernel
theorem d_X_addLaws_15 : decode b_X_addLaws 15 = .ok (.istore_n 1, 1) := by decide +kernel
theorem d_X_addLaws_16 : decode b_X_addLaws 16 = .ok (.iload_n 1, 1) := by decide +kernel
theorem d_X_addLaws_17 : decode b_X_addLaws 17 = .ok (.iconst (-1), 1) := by decide +kernel
theorem d_X_addLaws_18 : decode b_X_addLaws 18 = .ok (.if_icmp .eq 8, 3) := by decide +kernel
theorem d_X_addLaws_21 : decode b_X_addLaws 21 = .ok (.bipush (-100), 2) := by decide +kernel
theorem d_X_addLaws_23 : decode b_X_addLaws 23 = .ok (.iload_n 1, 1) := by decide +kernel
theorem d_X_addLaws_24 : decode b_X_addLaws 24 = .ok (.isub, 1) := by decide +kernel
theorem d_X_addLaws_25 : decode b_X_addLaws 25 = .ok (.ireturn, 1) := by decide +kernel
theorem d_X_addLaws_26 : decode b_X_addLaws 26 = .ok (.aload_n 0, 1) := by decide +kernel
theorem d_X_addLaws_27 : decode b_X_addLaws 27 = .ok (.getfield 10, 3) := by decide +kernel
theorem d_X_addLaws_30 : decode b_X_addLaws 30 = .ok (.getfield 105, 3) := by decide +kernel
theorem d_X_addLaws_33 : decode b_X_addLaws 33 = .ok (.aload_n 0, 1) := by decide +kernel
theorem d_X_addLaws_34 : decode b_X_addLaws 34 = .ok (.getfield 47, 3) := by decide +kernel
theorem d_X_addLaws_37 : decode b_X_addLaws 37 = .ok (.getfield 108, 3) := by decide +kernel
theorem d_X_addLaws_40 : decode b_X_addLaws 40 = .ok (.iadd, 1) := by decide +kernel
theorem d_X_addLaws_41 : decode b_X_addLaws 41 = .ok (.iconst 5, 1) := by decide +kernel
theorem d_X_addLaws_42 : decode b_X_addLaws 42 = .ok (.if_icmp .le 6, 3) := by decide +kernel
theorem d_X_addLaws_45 : decode b_X_addLaws 45 = .ok (.bipush (-3), 2) := by decide +kernel
theorem d_X_addLaws_47 : decode b_X_addLaws 47 = .ok (.ireturn, 1) := by decide +kernel
theorem d_X_addLaws_48 : decode b_X_addLaws 48 = .ok (.aload_n 0, 1) := by decide +kernel
theorem d_X_addLaws_49 : decode b_X_addLaws 49 = .ok (.getfield 19, 3) := by decide +kernel
theorem d_X_addLaws_52 : decode b_X_addLaws 52 = .ok (.aload_n 0, 1) := by decide +kernel
theorem d_X_addLaws_53 : decode b_X_addLaws 53 = .ok (.getfield 10, 3) := by decide +kernel
theorem d_X_addLaws_56 : decode b_X_addLaws 56 = .ok (.invokevirtual 68, 3) := by decide +kernel
theorem d_X_addLaws_59 : decode b_X_addLaws 59 = .ok (.iconst 0, 1) := by decide +kernel
theorem d_X_addLaws_60 : decode b_X_addLaws 60 = .ok (.istore_n 2, 1) := by decide +kernel
theorem d_X_addLaws_61 : decode b_X_addLaws 61 = .ok (.iload_n 2, 1) := by decide +kernel
theorem d_X_addLaws_62 : decode b_X_addLaws 62 = .ok (.aload_n 0, 1) := by decide +kernel
theorem d_X_addLaws_63 : decode b_X_addLaws 63 = .ok (.getfield 47, 3) := by decide +kernel
theorem d_X_addLaws_66 : decode b_X_addLaws 66 = .ok (.getfield 108, 3) := by decide +kernel
theorem d_X_addLaws_69 : decode b_X_addLaws 69 = .ok (.if_icmp .ge 36, 3) := by decide +kernel
theorem d_X_addLaws_72 : decode b_X_addLaws 72 = .ok (.aload_n 0, 1) := by decide +kernel
theorem d_X_addLaws_73 : decode b_X_addLaws 73 = .ok (.getfield 10, 3) := by decide +kernel
theorem d_X_addLaws_76 : decode b_X_addLaws 76 = .ok (.aload_n 0, 1) := by decide +kernel
theorem d_X_addLaws_77 : decode b_X_addLaws 77 = .ok (.getfield 26, 3) := by decide +kernel
theorem d_X_addLaws_80 : decode b_X_addLaws 80 = .ok (.aload_n 0, 1) := by decide +kernel
theorem d_X_addLaws_81 : decode b_X_addLaws 81 = .ok (.getfield 47, 3) := by decide +kernel
theorem d_X_addLaws_84 : decode b_X_addLaws 84 = .ok (.iload_n 2, 1) := by decide +kernel
theorem d_X_addLaws_85 : decode b_X_addLaws 85 = .ok (.aload_n 0, 1) := by decide +kernel
theorem d_X_addLaws_86 : decode b_X_addLaws 86 = .ok (.getfield 10, 3) := by decide +kernel
theorem d_X_addLaws_89 : decode b_X_addLaws 89 = .ok (.aload_n 0, 1) := by decide +kernel
theorem d_X_addLaws_90 : decode b_X_addLaws 90 = .ok (.getfield 19, 3) := by decide +kernel
theorem d_X_addLaws_93 : decode b_X_addLaws 93 = .ok (.invokevirtual 109, 3) := by decide +kernel
theorem d_X_addLaws_96 : decode b_X_addLaws 96 = .ok (.invokevirtual 113, 3) := by decide +kernel
theorem d_X_addLaws_99 : decode b_X_addLaws 99 = .ok (.iinc 2 1, 3) := by decide +kernel
theorem d_X_addLaws_102 : decode b_X_addLaws 102 = .ok (.goto (-41), 3) := by decide +kernel
theorem d_X_addLaws_105 : decode b_X_addLaws 105 = .ok (.aload_n 0, 1) := by decide +kernel
theorem d_X_addLaws_106 : decode b_X_addLaws 106 = .ok (.getfield 47, 3) := by decide +kernel
theorem d_X_addLaws_109 : decode b_X_addLaws 109 = .ok (.getfield 108, 3) := by decide +kernel
theorem d_X_addLaws_112 : decode b_X_addLaws 112 = .ok (.ireturn, 1) := by decide +kernel
theorem d_X_removeLaw_0 : decode b_X_removeLaw 0 = .ok (.aload_n 0, 1) := by decide +kernel
theorem d_X_removeLaw_1 : decode b_X_removeLaw 1 = .ok (.getfield 10, 3) := by decide +kernel
theorem d_X_removeLaw_4 : decode b_X_removeLaw 4 = .ok (.iload_n 1, 1) := by decide +kernel
theorem d_X_removeLaw_5 : decode b_X_removeLaw 5 = .ok (.invokevirtual 117, 3) := by decide +kernel
theorem d_X_removeLaw_8 : decode b_X_removeLaw 8 = .ok (.ifCond .ne 5, 3) := by decide +kernel
theorem d_X_removeLaw_11 : decode b_X_removeLaw 11 = .ok (.iconst (-1), 1) := by decide +kernel
theorem d_X_removeLaw_12 : decode b_X_removeLaw 12 = .ok (.ireturn, 1) := by decide +kernel
theorem d_X_removeLaw_13 : decode b_X_removeLaw 13 = .ok (.aload_n 0, 1) := by decide +kernel
theorem d_X_removeLaw_14 : decode b_X_removeLaw 14 = .ok (.getfield 19, 3) := by decide +kernel
theorem d_X_removeLaw_17 : decode b_X_removeLaw 17 = .ok (.aload_n 0, 1) := by decide +kernel
theorem d_X_removeLaw_18 : decode b_X_removeLaw 18 = .ok (.getfield 10, 3) := by decide +kernel
theorem d_X_removeLaw_21 : decode b_X_removeLaw 21 = .ok (.invokevirtual 68, 3) := by decide +kernel
theorem d_X_removeLaw_24 : decode b_X_removeLaw 24 = .ok (.aload_n 0, 1) := by decide +kernel
theorem d_X_removeLaw_25 : decode b_X_removeLaw 25 = .ok (.getfield 10, 3) := by decide +kernel
theorem d_X_removeLaw_28 : decode b_X_removeLaw 28 = .ok (.iload_n 1, 1) := by decide +kernel
theorem d_X_removeLaw_29 : decode b_X_removeLaw 29 = .ok (.invokevirtual 120, 3) := by decide +kernel
theorem d_X_removeLaw_32 : decode b_X_removeLaw 32 = .ok (.aload_n 0, 1) := by decide +kernel
theorem d_X_removeLaw_33 : decode b_X_removeLaw 33 = .ok (.getfield 10, 3) := by decide +kernel
theorem d_X_removeLaw_36 : decode b_X_removeLaw 36 = .ok (.getfield 105, 3) := by decide +kernel
theorem d_X_removeLaw_39 : decode b_X_removeLaw 39 = .ok (.ireturn, 1) := by decide +kernel
theorem d_X_turnLaw_0 : decode b_X_turnLaw 0 = .ok (.aload_n 0, 1) := by decide +kernel
theorem d_X_turnLaw_1 : decode b_X_turnLaw 1 = .ok (.getfield 10, 3) := by decide +kernel
theorem d_X_turnLaw_4 : decode b_X_turnLaw 4 = .ok (.iload_n 1, 1) := by decide +kernel
theorem d_X_turnLaw_5 : decode b_X_turnLaw 5 = .ok (.invokevirtual 117, 3) := by decide +kernel
theorem d_X_turnLaw_8 : decode b_X_turnLaw 8 = .ok (.ifCond .ne 5, 3) := by decide +kernel
theorem d_X_turnLaw_11 : decode b_X_turnLaw 11 = .ok (.iconst (-1), 1) := by decide +kernel
theorem d_X_turnLaw_12 : decode b_X_turnLaw 12 = .ok (.ireturn, 1) := by decide +kernel
theorem d_X_turnLaw_13 : decode b_X_turnLaw 13 = .ok (.aload_n 0, 1) := by decide +kernel
theorem d_X_turnLaw_14 : decode b_X_turnLaw 14 = .ok (.getfield 10, 3) := by decide +kernel
theorem d_X_turnLaw_17 : decode b_X_turnLaw 17 = .ok (.getfield 124, 3) := by decide +kernel
theorem d_X_turnLaw_20 : decode b_X_turnLaw 20 = .ok (.iload_n 1, 1) := by decide +kernel
theorem d_X_turnLaw_21 : decode b_X_turnLaw 21 = .ok (.baload, 1) := by decide +kernel
theorem d_X_turnLaw_22 : decode b_X_turnLaw 22 = .ok (.iload_n 2, 1) := by decide +kernel
theorem d_X_turnLaw_23 : decode b_X_turnLaw 23 = .ok (.if_icmp .ne 6, 3) := by decide +kernel
theorem d_X_turnLaw_26 : decode b_X_turnLaw 26 = .ok (.bipush (-5), 2) := by decide +kernel
theorem d_X_turnLaw_28 : decode b_X_turnLaw 28 = .ok (.ireturn, 1) := by decide +kernel
theorem d_X_turnLaw_29 : decode b_X_turnLaw 29 = .ok (.aload_n 0, 1) := by decide +kernel
theorem d_X_turnLaw_30 : decode b_X_turnLaw 30 = .ok (.getfield 19, 3) := by decide +kernel
theorem d_X_turnLaw_33 : decode b_X_turnLaw 33 = .ok (.aload_n 0, 1) := by decide +kernel
theorem d_X_turnLaw_34 : decode b_X_turnLaw 34 = .ok (.getfield 10, 3) := by decide +kernel
theorem d_X_turnLaw_37 : decode b_X_turnLaw 37 = .ok (.invokevirtual 68, 3) := by decide +kernel
theorem d_X_turnLaw_40 : decode b_X_turnLaw 40 = .ok (.aload_n 0, 1) := by decide +kernel
theorem d_X_turnLaw_41 : decode b_X_turnLaw 41 = .ok (.getfield 10, 3) := by decide +kernel
theorem d_X_turnLaw_44 : decode b_X_turnLaw 44 = .ok (.getfield 124, 3) := by decide +kernel
theorem d_X_turnLaw_47 : decode b_X_turnLaw 47 = .ok (.iload_n 1, 1) := by decide +kernel
theorem d_X_turnLaw_48 : decode b_X_turnLaw 48 = .ok (.iload_n 2, 1) := by decide +kernel
theorem d_X_turnLaw_49 : decode b_X_turnLaw 49 = .ok (.bastore, 1) := by decide +kernel
theorem d_X_turnLaw_50 : decode b_X_turnLaw 50 = .ok (.aload_n 0, 1) := by decide +kernel
theorem d_X_turnLaw_51 : decode b_X_turnLaw 51 = .ok (.getfield 10, 3) := by decide +kernel
theorem d_X_turnLaw_54 : decode b_X_turnLaw 54 = .ok (.invokevirtual 128, 3) := by decide +kernel
theorem d_X_turnLaw_57 : decode b_X_turnLaw 57 = .ok (.ireturn, 1) := by decide +kernel
theorem d_X_refute_0 : decode b_X_refute 0 = .ok (.aload_n 0, 1) := by decide +kernel
theorem d_X_refute_1 : decode b_X_refute 1 = .ok (.getfield 10, 3) := by decide +kernel
theorem d_X_refute_4 : decode b_X_refute 4 = .ok (.iload_n 1, 1) := by decide +kernel
theorem d_X_refute_5 : decode b_X_refute 5 = .ok (.invokevirtual 117, 3) := by decide +kernel
theorem d_X_refute_8 : decode b_X_refute 8 = .ok (.ifCond .ne 5, 3) := by decide +kernel
theorem d_X_refute_11 : decode b_X_refute 11 = .ok (.iconst (-1), 1) := by decide +kernel
theorem d_X_refute_12 : decode b_X_refute 12 = .ok (.ireturn, 1) := by decide +kernel
theorem d_X_refute_13 : decode b_X_refute 13 = .ok (.aload_n 0, 1) := by decide +kernel
theorem d_X_refute_14 : decode b_X_refute 14 = .ok (.getfield 40, 3) := by decide +kernel
theorem d_X_refute_17 : decode b_X_refute 17 = .ok (.aload_n 0, 1) := by decide +kernel
theorem d_X_refute_18 : decode b_X_refute 18 = .ok (.getfield 10, 3) := by decide +kernel
theorem d_X_refute_21 : decode b_X_refute 21 = .ok (.iload_n 1, 1) := by decide +kernel
theorem d_X_refute_22 : decode b_X_refute 22 = .ok (.invokevirtual 132, 3) := by decide +kernel
theorem d_X_refute_25 : decode b_X_refute 25 = .ok (.ifCond .ne 6, 3) := by decide +kernel
theorem d_X_refute_28 : decode b_X_refute 28 = .ok (.bipush (-5), 2) := by decide +kernel
theorem d_X_refute_30 : decode b_X_refute 30 = .ok (.ireturn, 1) := by decide +kernel
theorem d_X_refute_31 : decode b_X_refute 31 = .ok (.aload_n 0, 1) := by decide +kernel
theorem d_X_refute_32 : decode b_X_refute 32 = .ok (.getfield 19, 3) := by decide +kernel
theorem d_X_refute_35 : decode b_X_refute 35 = .ok (.aload_n 0, 1) := by decide +kernel
theorem d_X_refute_36 : decode b_X_refute 36 = .ok (.getfield 10, 3) := by decide +kernel
theorem d_X_refute_39 : decode b_X_refute 39 = .ok (.invokevirtual 68, 3) := by decide +kernel
theorem d_X_refute_42 : decode b_X_refute 42 = .ok (.aload_n 0, 1) := by decide +kernel
theorem d_X_refute_43 : decode b_X_refute 43 = .ok (.getfield 10, 3) := by decide +kernel
theorem d_X_refute_46 : decode b_X_refute 46 = .ok (.aload_n 0, 1) := by decide +kernel
theorem d_X_refute_47 : decode b_X_refute 47 = .ok (.getfield 40, 3) := by decide +kernel
theorem d_X_refute_50 : decode b_X_refute 50 = .ok (.iconst 0, 1) := by decide +kernel
theorem d_X_refute_51 : decode b_X_refute 51 = .ok (.iconst 0, 1) := by decide +kernel
theorem d_X_refute_52 : decode b_X_refute 52 = .ok (.invokevirtual 136, 3) := by decide +kernel
theorem d_X_refute_55 : decode b_X_refute 55 = .ok (.putfield 61, 3) := by decide +kernel
theorem d_X_refute_58 : decode b_X_refute 58 = .ok (.aload_n 0, 1) := by decide +kernel
theorem d_X_refute_59 : decode b_X_refute 59 = .ok (.getfield 10, 3) := by decide +kernel
theorem d_X_refute_62 : decode b_X_refute 62 = .ok (.aload_n 0, 1) := by decide +kernel
theorem d_X_refute_63 : decode b_X_refute 63 = .ok (.getfield 40, 3) := by decide +kernel
theorem d_X_refute_66 : decode b_X_refute 66 = .ok (.iconst 0, 1) := by decide +kernel
theorem d_X_refute_67 : decode b_X_refute 67 = .ok (.iconst 1, 1) := by decide +kernel
theorem d_X_refute_68 : decode b_X_refute 68 = .ok (.invokevirtual 136, 3) := by decide +kernel
theorem d_X_refute_71 : decode b_X_refute 71 = .ok (.putfield 65, 3) := by decide +kernel
theorem d_X_refute_74 : decode b_X_refute 74 = .ok (.aload_n 0, 1) := by decide +kernel
theorem d_X_refute_75 : decode b_X_refute 75 = .ok (.getfield 10, 3) := by decide +kernel
theorem d_X_refute_78 : decode b_X_refute 78 = .ok (.getfield 65, 3) := by decide +kernel
theorem d_X_refute_81 : decode b_X_refute 81 = .ok (.ireturn, 1) := by decide +kernel
theorem d_X_type_0 : decode b_X_type 0 = .ok (.aload_n 0, 1) := by decide +kernel
theorem d_X_type_1 : decode b_X_type 1 = .ok (.getfield 98, 3) := by decide +kernel
theorem d_X_type_4 : decode b_X_type 4 = .ok (.bipush 60, 2) := by decide +kernel
theorem d_X_type_6 : decode b_X_type 6 = .ok (.if_icmp .lt 6, 3) := by decide +kernel
theorem d_X_type_9 : decode b_X_type 9 = .ok (.bipush (-3), 2) := by decide +kernel
theorem d_X_type_11 : decode b_X_type 11 = .ok (.ireturn, 1) := by decide +kernel
theorem d_X_type_12 : decode b_X_type 12 = .ok (.aload_n 0, 1) := by decide +kernel
theorem d_X_type_13 : decode b_X_type 13 = .ok (.getfield 51, 3) := by decide +kernel
theorem d_X_type_16 : decode b_X_type 16 = .ok (.aload_n 0, 1) := by decide +kernel
theorem d_X_type_17 : decode b_X_type 17 = .ok (.getfield 98, 3) := by decide +kernel
theorem d_X_type_20 : decode b_X_type 20 = .ok (.iload_n 1, 1) := by decide +kernel
theorem d_X_type_21 : decode b_X_type 21 = .ok (.castore, 1) := by decide +kernel
theorem d_X_type_22 : decode b_X_type 22 = .ok (.aload_n 0, 1) := by decide +kernel
theorem d_X_type_23 : decode b_X_type 23 = .ok (.dup, 1) := by decide +kernel
theorem d_X_type_24 : decode b_X_type 24 = .ok (.getfield 98, 3) := by decide +kernel
theorem d_X_type_27 : decode b_X_type 27 = .ok (.iconst 1, 1) := by decide +kernel
theorem d_X_type_28 : decode b_X_type 28 = .ok (.iadd, 1) := by decide +kernel
theorem d_X_type_29 : decode b_X_type 29 = .ok (.putfield 98, 3) := by decide +kernel
theorem d_X_type_32 : decode b_X_type 32 = .ok (.aload_n 0, 1) := by decide +kernel
theorem d_X_type_33 : decode b_X_type 33 = .ok (.getfield 98, 3) := by decide +kernel
theorem d_X_type_36 : decode b_X_type 36 = .ok (.ireturn, 1) := by decide +kernel
theorem d_X_clearText_0 : decode b_X_clearText 0 = .ok (.aload_n 0, 1) := by decide +kernel
theorem d_X_clearText_1 : decode b_X_clearText 1 = .ok (.getfield 98, 3) := by decide +kernel
theorem d_X_clearText_4 : decode b_X_clearText 4 = .ok (.istore_n 1, 1) := by decide +kernel
theorem d_X_clearText_5 : decode b_X_clearText 5 = .ok (.aload_n 0, 1) := by decide +kernel
theorem d_X_clearText_6 : decode b_X_clearText 6 = .ok (.iconst 0, 1) := by decide +kernel
theorem d_X_clearText_7 : decode b_X_clearText 7 = .ok (.putfield 98, 3) := by decide +kernel
theorem d_X_clearText_10 : decode b_X_clearText 10 = .ok (.iload_n 1, 1) := by decide +kernel
theorem d_X_clearText_11 : decode b_X_clearText 11 = .ok (.ireturn, 1) := by decide +kernel
theorem d_X_undo_0 : decode b_X_undo 0 = .ok (.aload_n 0, 1) := by decide +kernel
theorem d_X_undo_1 : decode b_X_undo 1 = .ok (.getfield 19, 3) := by decide +kernel
theorem d_X_undo_4 : decode b_X_undo 4 = .ok (.aload_n 0, 1) := by decide +kernel
theorem d_X_undo_5 : decode b_X_undo 5 = .ok (.getfield 10, 3) := by decide +kernel
theorem d_X_undo_8 : decode b_X_undo 8 = .ok (.invokevirtual 139, 3) := by decide +kernel
theorem d_X_undo_11 : decode b_X_undo 11 = .ok (.ifCond .eq 13, 3) := by decide +kernel
theorem d_X_undo_14 : decode b_X_undo 14 = .ok (.aload_n 0, 1) := by decide +kernel
theorem d_X_undo_15 : decode b_X_undo 15 = .ok (.getfield 19, 3) := by decide +kernel
theorem d_X_undo_18 : decode b_X_undo 18 = .ok (.getfield 143, 3) := by decide +kernel
theorem d_X_undo_21 : decode b_X_undo 21 = .ok (.goto 5, 3) := by decide +kernel
theorem d_X_undo_24 : decode b_X_undo 24 = .ok (.bipush (-5), 2) := by decide +kernel
theorem d_X_undo_26 : decode b_X_undo 26 = .ok (.ireturn, 1) := by decide +kernel
theorem d_X_keep_0 : decode b_X_keep 0 = .ok (.aload_n 0, 1) := by decide +kernel
theorem d_X_keep_1 : decode b_X_keep 1 = .ok (.getfield 19, 3) := by decide +kernel
theorem d_X_keep_4 : decode b_X_keep 4 = .ok (.aload_n 0, 1) := by decide +kernel
theorem d_X_keep_5 : decode b_X_keep 5 = .ok (.getfield 10, 3) := by decide +kernel
theorem d_X_keep_8 : decode b_X_keep 8 = .ok (.invokevirtual 146, 3) := by decide +kernel
theorem d_X_keep_11 : decode b_X_keep 11 = .ok (.aload_n 0, 1) := by decide +kernel
theorem d_X_keep_12 : decode b_X_keep 12 = .ok (.getfield 10, 3) := by decide +kernel
theorem d_X_keep_15 : decode b_X_keep 15 = .ok (.getfield 105, 3) := by decide +kernel
theorem d_X_keep_18 : decode b_X_keep 18 = .ok (.ireturn, 1) := by decide +kernel
theorem d_X_restore_0 : decode b_X_restore 0 = .ok (.aload_n 0, 1) := by decide +kernel
theorem d_X_restore_1 : decode b_X_restore 1 = .ok (.getfield 19, 3) := by decide +kernel
theorem d_X_restore_4 : decode b_X_restore 4 = .ok (.getfield 149, 3) := by decide +kernel
theorem d_X_restore_7 : decode b_X_restore 7 = .ok (.ifCond .ne 6, 3) := by decide +kernel
theorem d_X_restore_10 : decode b_X_restore 10 = .ok (.bipush (-5), 2) := by decide +kernel
theorem d_X_restore_12 : decode b_X_restore 12 = .ok (.ireturn, 1) := by decide +kernel
theorem d_X_restore_13 : decode b_X_restore 13 = .ok (.aload_n 0, 1) := by decide +kernel
theorem d_X_restore_14 : decode b_X_restore 14 = .ok (.getfield 19, 3) := by decide +kernel
theorem d_X_restore_17 : decode b_X_restore 17 = .ok (.aload_n 0, 1) := by decide +kernel
theorem d_X_restore_18 : decode b_X_restore 18 = .ok (.getfield 10, 3) := by decide +kernel
theorem d_X_restore_21 : decode b_X_restore 21 = .ok (.invokevirtual 68, 3) := by decide +kernel
theorem d_X_restore_24 : decode b_X_restore 24 = .ok (.aload_n 0, 1) := by decide +kernel
theorem d_X_restore_25 : decode b_X_restore 25 = .ok (.getfield 19, 3) := by decide +kernel
theorem d_X_restore_28 : decode b_X_restore 28 = .ok (.aload_n 0, 1) := by decide +kernel
theorem d_X_restore_29 : decode b_X_restore 29 = .ok (.getfield 10, 3) := by decide +kernel
theorem d_X_restore_32 : decode b_X_restore 32 = .ok (.invokevirtual 153, 3) := by decide +kernel
theorem d_X_restore_35 : decode b_X_restore 35 = .ok (.aload_n 0, 1) := by decide +kernel
theorem d_X_restore_36 : decode b_X_restore 36 = .ok (.getfield 10, 3) := by decide +kernel
theorem d_X_restore_39 : decode b_X_restore 39 = .ok (.getfield 105, 3) := by decide +kernel
theorem d_X_restore_42 : decode b_X_restore 42 = .ok (.ireturn, 1) := by decide +kernel
