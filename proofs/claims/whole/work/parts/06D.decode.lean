theorem d_P_init_0 : decode b_P_init 0 = .ok (.aload_n 0, 1) := by decide +kernel
theorem d_P_init_1 : decode b_P_init 1 = .ok (.invokespecial 3, 3) := by decide +kernel
theorem d_P_init_4 : decode b_P_init 4 = .ok (.aload_n 0, 1) := by decide +kernel
theorem d_P_init_5 : decode b_P_init 5 = .ok (.sipush 3341, 3) := by decide +kernel
theorem d_P_init_8 : decode b_P_init 8 = .ok (.newarray .int, 2) := by decide +kernel
theorem d_P_init_10 : decode b_P_init 10 = .ok (.putfield 9, 3) := by decide +kernel
theorem d_P_init_13 : decode b_P_init 13 = .ok (.aload_n 0, 1) := by decide +kernel
theorem d_P_init_14 : decode b_P_init 14 = .ok (.sipush 3341, 3) := by decide +kernel
theorem d_P_init_17 : decode b_P_init 17 = .ok (.newarray .byte, 2) := by decide +kernel
theorem d_P_init_19 : decode b_P_init 19 = .ok (.putfield 15, 3) := by decide +kernel
theorem d_P_init_22 : decode b_P_init 22 = .ok (.aload_n 0, 1) := by decide +kernel
theorem d_P_init_23 : decode b_P_init 23 = .ok (.iconst 5, 1) := by decide +kernel
theorem d_P_init_24 : decode b_P_init 24 = .ok (.newarray .int, 2) := by decide +kernel
theorem d_P_init_26 : decode b_P_init 26 = .ok (.putfield 19, 3) := by decide +kernel
theorem d_P_init_29 : decode b_P_init 29 = .ok (.return_, 1) := by decide +kernel
theorem d_D_init_0 : decode b_D_init 0 = .ok (.aload_n 0, 1) := by decide +kernel
theorem d_D_init_1 : decode b_D_init 1 = .ok (.invokespecial 3, 3) := by decide +kernel
theorem d_D_init_4 : decode b_D_init 4 = .ok (.aload_n 0, 1) := by decide +kernel
theorem d_D_init_5 : decode b_D_init 5 = .ok (.bipush 120, 2) := by decide +kernel
theorem d_D_init_7 : decode b_D_init 7 = .ok (.newarray .int, 2) := by decide +kernel
theorem d_D_init_9 : decode b_D_init 9 = .ok (.putfield 11, 3) := by decide +kernel
theorem d_D_init_12 : decode b_D_init 12 = .ok (.aload_n 0, 1) := by decide +kernel
theorem d_D_init_13 : decode b_D_init 13 = .ok (.bipush 60, 2) := by decide +kernel
theorem d_D_init_15 : decode b_D_init 15 = .ok (.newarray .int, 2) := by decide +kernel
theorem d_D_init_17 : decode b_D_init 17 = .ok (.putfield 15, 3) := by decide +kernel
theorem d_D_init_20 : decode b_D_init 20 = .ok (.aload_n 0, 1) := by decide +kernel
theorem d_D_init_21 : decode b_D_init 21 = .ok (.iconst 4, 1) := by decide +kernel
theorem d_D_init_22 : decode b_D_init 22 = .ok (.newarray .boolean, 2) := by decide +kernel
theorem d_D_init_24 : decode b_D_init 24 = .ok (.putfield 18, 3) := by decide +kernel
theorem d_D_init_27 : decode b_D_init 27 = .ok (.return_, 1) := by decide +kernel
theorem d_D_beginSide_0 : decode b_D_beginSide 0 = .ok (.aload_n 0, 1) := by decide +kernel
theorem d_D_beginSide_1 : decode b_D_beginSide 1 = .ok (.iload_n 1, 1) := by decide +kernel
theorem d_D_beginSide_2 : decode b_D_beginSide 2 = .ok (.putfield 61, 3) := by decide +kernel
theorem d_D_beginSide_5 : decode b_D_beginSide 5 = .ok (.aload_n 0, 1) := by decide +kernel
theorem d_D_beginSide_6 : decode b_D_beginSide 6 = .ok (.iconst 0, 1) := by decide +kernel
theorem d_D_beginSide_7 : decode b_D_beginSide 7 = .ok (.putfield 65, 3) := by decide +kernel
theorem d_D_beginSide_10 : decode b_D_beginSide 10 = .ok (.aload_n 0, 1) := by decide +kernel
theorem d_D_beginSide_11 : decode b_D_beginSide 11 = .ok (.getfield 18, 3) := by decide +kernel
theorem d_D_beginSide_14 : decode b_D_beginSide 14 = .ok (.iconst 0, 1) := by decide +kernel
theorem d_D_beginSide_15 : decode b_D_beginSide 15 = .ok (.iconst 0, 1) := by decide +kernel
theorem d_D_beginSide_16 : decode b_D_beginSide 16 = .ok (.bastore, 1) := by decide +kernel
theorem d_D_beginSide_17 : decode b_D_beginSide 17 = .ok (.return_, 1) := by decide +kernel
theorem d_D_addStep_0 : decode b_D_addStep 0 = .ok (.aload_n 0, 1) := by decide +kernel
theorem d_D_addStep_1 : decode b_D_addStep 1 = .ok (.getfield 26, 3) := by decide +kernel
theorem d_D_addStep_4 : decode b_D_addStep 4 = .ok (.bipush 120, 2) := by decide +kernel
theorem d_D_addStep_6 : decode b_D_addStep 6 = .ok (.if_icmp .ge 23, 3) := by decide +kernel
theorem d_D_addStep_9 : decode b_D_addStep 9 = .ok (.aload_n 0, 1) := by decide +kernel
theorem d_D_addStep_10 : decode b_D_addStep 10 = .ok (.getfield 11, 3) := by decide +kernel
theorem d_D_addStep_13 : decode b_D_addStep 13 = .ok (.aload_n 0, 1) := by decide +kernel
theorem d_D_addStep_14 : decode b_D_addStep 14 = .ok (.getfield 26, 3) := by decide +kernel
theorem d_D_addStep_17 : decode b_D_addStep 17 = .ok (.iload_n 1, 1) := by decide +kernel
theorem d_D_addStep_18 : decode b_D_addStep 18 = .ok (.iastore, 1) := by decide +kernel
theorem d_D_addStep_19 : decode b_D_addStep 19 = .ok (.aload_n 0, 1) := by decide +kernel
theorem d_D_addStep_20 : decode b_D_addStep 20 = .ok (.dup, 1) := by decide +kernel
theorem d_D_addStep_21 : decode b_D_addStep 21 = .ok (.getfield 26, 3) := by decide +kernel
theorem d_D_addStep_24 : decode b_D_addStep 24 = .ok (.iconst 1, 1) := by decide +kernel
theorem d_D_addStep_25 : decode b_D_addStep 25 = .ok (.iadd, 1) := by decide +kernel
theorem d_D_addStep_26 : decode b_D_addStep 26 = .ok (.putfield 26, 3) := by decide +kernel
theorem d_D_addStep_29 : decode b_D_addStep 29 = .ok (.return_, 1) := by decide +kernel
theorem d_D_endPart_0 : decode b_D_endPart 0 = .ok (.aload_n 0, 1) := by decide +kernel
theorem d_D_endPart_1 : decode b_D_endPart 1 = .ok (.getfield 18, 3) := by decide +kernel
theorem d_D_endPart_4 : decode b_D_endPart 4 = .ok (.aload_n 0, 1) := by decide +kernel
theorem d_D_endPart_5 : decode b_D_endPart 5 = .ok (.getfield 29, 3) := by decide +kernel
theorem d_D_endPart_8 : decode b_D_endPart 8 = .ok (.baload, 1) := by decide +kernel
theorem d_D_endPart_9 : decode b_D_endPart 9 = .ok (.ifCond .eq 8, 3) := by decide +kernel
theorem d_D_endPart_12 : decode b_D_endPart 12 = .ok (.aload_n 0, 1) := by decide +kernel
theorem d_D_endPart_13 : decode b_D_endPart 13 = .ok (.iconst 3, 1) := by decide +kernel
theorem d_D_endPart_14 : decode b_D_endPart 14 = .ok (.invokevirtual 68, 3) := by decide +kernel
theorem d_D_endPart_17 : decode b_D_endPart 17 = .ok (.aload_n 0, 1) := by decide +kernel
theorem d_D_endPart_18 : decode b_D_endPart 18 = .ok (.getfield 18, 3) := by decide +kernel
theorem d_D_endPart_21 : decode b_D_endPart 21 = .ok (.aload_n 0, 1) := by decide +kernel
theorem d_D_endPart_22 : decode b_D_endPart 22 = .ok (.getfield 29, 3) := by decide +kernel
theorem d_D_endPart_25 : decode b_D_endPart 25 = .ok (.iconst 1, 1) := by decide +kernel
theorem d_D_endPart_26 : decode b_D_endPart 26 = .ok (.bastore, 1) := by decide +kernel
theorem d_D_endPart_27 : decode b_D_endPart 27 = .ok (.return_, 1) := by decide +kernel
theorem d_D_addLetter_0 : decode b_D_addLetter 0 = .ok (.aload_n 0, 1) := by decide +kernel
theorem d_D_addLetter_1 : decode b_D_addLetter 1 = .ok (.getfield 65, 3) := by decide +kernel
theorem d_D_addLetter_4 : decode b_D_addLetter 4 = .ok (.bipush 8, 2) := by decide +kernel
theorem d_D_addLetter_6 : decode b_D_addLetter 6 = .ok (.if_icmp .lt 5, 3) := by decide +kernel
theorem d_D_addLetter_9 : decode b_D_addLetter 9 = .ok (.iconst 0, 1) := by decide +kernel
theorem d_D_addLetter_10 : decode b_D_addLetter 10 = .ok (.ireturn, 1) := by decide +kernel
theorem d_D_addLetter_11 : decode b_D_addLetter 11 = .ok (.aload_n 0, 1) := by decide +kernel
theorem d_D_addLetter_12 : decode b_D_addLetter 12 = .ok (.dup, 1) := by decide +kernel
theorem d_D_addLetter_13 : decode b_D_addLetter 13 = .ok (.getfield 65, 3) := by decide +kernel
theorem d_D_addLetter_16 : decode b_D_addLetter 16 = .ok (.iconst 1, 1) := by decide +kernel
theorem d_D_addLetter_17 : decode b_D_addLetter 17 = .ok (.iadd, 1) := by decide +kernel
theorem d_D_addLetter_18 : decode b_D_addLetter 18 = .ok (.putfield 65, 3) := by decide +kernel
theorem d_D_addLetter_21 : decode b_D_addLetter 21 = .ok (.aload_n 0, 1) := by decide +kernel
theorem d_D_addLetter_22 : decode b_D_addLetter 22 = .ok (.iload_n 1, 1) := by decide +kernel
theorem d_D_addLetter_23 : decode b_D_addLetter 23 = .ok (.invokevirtual 68, 3) := by decide +kernel
theorem d_D_addLetter_26 : decode b_D_addLetter 26 = .ok (.aload_n 0, 1) := by decide +kernel
theorem d_D_addLetter_27 : decode b_D_addLetter 27 = .ok (.invokevirtual 72, 3) := by decide +kernel
theorem d_D_addLetter_30 : decode b_D_addLetter 30 = .ok (.iconst 1, 1) := by decide +kernel
theorem d_D_addLetter_31 : decode b_D_addLetter 31 = .ok (.ireturn, 1) := by decide +kernel
theorem d_D_openBracket_0 : decode b_D_openBracket 0 = .ok (.aload_n 0, 1) := by decide +kernel
theorem d_D_openBracket_1 : decode b_D_openBracket 1 = .ok (.getfield 29, 3) := by decide +kernel
theorem d_D_openBracket_4 : decode b_D_openBracket 4 = .ok (.iconst 3, 1) := by decide +kernel
theorem d_D_openBracket_5 : decode b_D_openBracket 5 = .ok (.if_icmp .lt 5, 3) := by decide +kernel
theorem d_D_openBracket_8 : decode b_D_openBracket 8 = .ok (.iconst 0, 1) := by decide +kernel
theorem d_D_openBracket_9 : decode b_D_openBracket 9 = .ok (.ireturn, 1) := by decide +kernel
theorem d_D_openBracket_10 : decode b_D_openBracket 10 = .ok (.aload_n 0, 1) := by decide +kernel
theorem d_D_openBracket_11 : decode b_D_openBracket 11 = .ok (.dup, 1) := by decide +kernel
theorem d_D_openBracket_12 : decode b_D_openBracket 12 = .ok (.getfield 29, 3) := by decide +kernel
theorem d_D_openBracket_15 : decode b_D_openBracket 15 = .ok (.iconst 1, 1) := by decide +kernel
theorem d_D_openBracket_16 : decode b_D_openBracket 16 = .ok (.iadd, 1) := by decide +kernel
theorem d_D_openBracket_17 : decode b_D_openBracket 17 = .ok (.putfield 29, 3) := by decide +kernel
theorem d_D_openBracket_20 : decode b_D_openBracket 20 = .ok (.aload_n 0, 1) := by decide +kernel
theorem d_D_openBracket_21 : decode b_D_openBracket 21 = .ok (.getfield 18, 3) := by decide +kernel
theorem d_D_openBracket_24 : decode b_D_openBracket 24 = .ok (.aload_n 0, 1) := by decide +kernel
theorem d_D_openBracket_25 : decode b_D_openBracket 25 = .ok (.getfield 29, 3) := by decide +kernel
theorem d_D_openBracket_28 : decode b_D_openBracket 28 = .ok (.iconst 0, 1) := by decide +kernel
theorem d_D_openBracket_29 : decode b_D_openBracket 29 = .ok (.bastore, 1) := by decide +kernel
theorem d_D_openBracket_30 : decode b_D_openBracket 30 = .ok (.iconst 1, 1) := by decide +kernel
theorem d_D_openBracket_31 : decode b_D_openBracket 31 = .ok (.ireturn, 1) := by decide +kernel
theorem d_D_closeBracket_0 : decode b_D_closeBracket 0 = .ok (.aload_n 0, 1) := by decide +kernel
theorem d_D_closeBracket_1 : decode b_D_closeBracket 1 = .ok (.getfield 29, 3) := by decide +kernel
theorem d_D_closeBracket_4 : decode b_D_closeBracket 4 = .ok (.ifCond .le 15, 3) := by decide +kernel
theorem d_D_closeBracket_7 : decode b_D_closeBracket 7 = .ok (.aload_n 0, 1) := by decide +kernel
theorem d_D_closeBracket_8 : decode b_D_closeBracket 8 = .ok (.getfield 18, 3) := by decide +kernel
theorem d_D_closeBracket_11 : decode b_D_closeBracket 11 = .ok (.aload_n 0, 1) := by decide +kernel
theorem d_D_closeBracket_12 : decode b_D_closeBracket 12 = .ok (.getfield 29, 3) := by decide +kernel
theorem d_D_closeBracket_15 : decode b_D_closeBracket 15 = .ok (.baload, 1) := by decide +kernel
theorem d_D_closeBracket_16 : decode b_D_closeBracket 16 = .ok (.ifCond .ne 5, 3) := by decide +kernel
theorem d_D_closeBracket_19 : decode b_D_closeBracket 19 = .ok (.iconst 0, 1) := by decide +kernel
theorem d_D_closeBracket_20 : decode b_D_closeBracket 20 = .ok (.ireturn, 1) := by decide +kernel
theorem d_D_closeBracket_21 : decode b_D_closeBracket 21 = .ok (.aload_n 0, 1) := by decide +kernel
theorem d_D_closeBracket_22 : decode b_D_closeBracket 22 = .ok (.dup, 1) := by decide +kernel
theorem d_D_closeBracket_23 : decode b_D_closeBracket 23 = .ok (.getfield 29, 3) := by decide +kernel
theorem d_D_closeBracket_26 : decode b_D_closeBracket 26 = .ok (.iconst 1, 1) := by decide +kernel
theorem d_D_closeBracket_27 : decode b_D_closeBracket 27 = .ok (.isub, 1) := by decide +kernel
theorem d_D_closeBracket_28 : decode b_D_closeBracket 28 = .ok (.putfield 29, 3) := by decide +kernel
theorem d_D_closeBracket_31 : decode b_D_closeBracket 31 = .ok (.aload_n 0, 1) := by decide +kernel
theorem d_D_closeBracket_32 : decode b_D_closeBracket 32 = .ok (.invokevirtual 72, 3) := by decide +kernel
theorem d_D_closeBracket_35 : decode b_D_closeBracket 35 = .ok (.iconst 1, 1) := by decide +kernel
theorem d_D_closeBracket_36 : decode b_D_closeBracket 36 = .ok (.ireturn, 1) := by decide +kernel
theorem d_D_isSideWhole_0 : decode b_D_isSideWhole 0 = .ok (.aload_n 0, 1) := by decide +kernel
theorem d_D_isSideWhole_1 : decode b_D_isSideWhole 1 = .ok (.getfield 29, 3) := by decide +kernel
theorem d_D_isSideWhole_4 : decode b_D_isSideWhole 4 = .ok (.ifCond .ne 16, 3) := by decide +kernel
theorem d_D_isSideWhole_7 : decode b_D_isSideWhole 7 = .ok (.aload_n 0, 1) := by decide +kernel
theorem d_D_isSideWhole_8 : decode b_D_isSideWhole 8 = .ok (.getfield 18, 3) := by decide +kernel
theorem d_D_isSideWhole_11 : decode b_D_isSideWhole 11 = .ok (.iconst 0, 1) := by decide +kernel
theorem d_D_isSideWhole_12 : decode b_D_isSideWhole 12 = .ok (.baload, 1) := by decide +kernel
theorem d_D_isSideWhole_13 : decode b_D_isSideWhole 13 = .ok (.ifCond .eq 7, 3) := by decide +kernel
theorem d_D_isSideWhole_16 : decode b_D_isSideWhole 16 = .ok (.iconst 1, 1) := by decide +kernel
theorem d_D_isSideWhole_17 : decode b_D_isSideWhole 17 = .ok (.goto 4, 3) := by decide +kernel
theorem d_D_isSideWhole_20 : decode b_D_isSideWhole 20 = .ok (.iconst 0, 1) := by decide +kernel
theorem d_D_isSideWhole_21 : decode b_D_isSideWhole 21 = .ok (.ireturn, 1) := by decide +kernel
theorem d_D_endLeft_0 : decode b_D_endLeft 0 = .ok (.aload_n 0, 1) := by decide +kernel
theorem d_D_endLeft_1 : decode b_D_endLeft 1 = .ok (.getfield 61, 3) := by decide +kernel
theorem d_D_endLeft_4 : decode b_D_endLeft 4 = .ok (.ifCond .ne 10, 3) := by decide +kernel
theorem d_D_endLeft_7 : decode b_D_endLeft 7 = .ok (.aload_n 0, 1) := by decide +kernel
theorem d_D_endLeft_8 : decode b_D_endLeft 8 = .ok (.invokevirtual 75, 3) := by decide +kernel
theorem d_D_endLeft_11 : decode b_D_endLeft 11 = .ok (.ifCond .ne 5, 3) := by decide +kernel
theorem d_D_endLeft_14 : decode b_D_endLeft 14 = .ok (.iconst 0, 1) := by decide +kernel
theorem d_D_endLeft_15 : decode b_D_endLeft 15 = .ok (.ireturn, 1) := by decide +kernel
theorem d_D_endLeft_16 : decode b_D_endLeft 16 = .ok (.aload_n 0, 1) := by decide +kernel
theorem d_D_endLeft_17 : decode b_D_endLeft 17 = .ok (.iconst 1, 1) := by decide +kernel
theorem d_D_endLeft_18 : decode b_D_endLeft 18 = .ok (.invokevirtual 32, 3) := by decide +kernel
theorem d_D_endLeft_21 : decode b_D_endLeft 21 = .ok (.iconst 1, 1) := by decide +kernel
theorem d_D_endLeft_22 : decode b_D_endLeft 22 = .ok (.ireturn, 1) := by decide +kernel
theorem d_D_endLaw_0 : decode b_D_endLaw 0 = .ok (.aload_n 0, 1) := by decide +kernel
theorem d_D_endLaw_1 : decode b_D_endLaw 1 = .ok (.getfield 61, 3) := by decide +kernel
theorem d_D_endLaw_4 : decode b_D_endLaw 4 = .ok (.ifCond .eq 22, 3) := by decide +kernel
theorem d_D_endLaw_7 : decode b_D_endLaw 7 = .ok (.aload_n 0, 1) := by decide +kernel
theorem d_D_endLaw_8 : decode b_D_endLaw 8 = .ok (.invokevirtual 75, 3) := by decide +kernel
theorem d_D_endLaw_11 : decode b_D_endLaw 11 = .ok (.ifCond .eq 15, 3) := by decide +kernel
theorem d_D_endLaw_14 : decode b_D_endLaw 14 = .ok (.aload_n 0, 1) := by decide +kernel
theorem d_D_endLaw_15 : decode b_D_endLaw 15 = .ok (.getfield 22, 3) := by decide +kernel
theorem d_D_endLaw_18 : decode b_D_endLaw 18 = .ok (.aload_n 0, 1) := by decide +kernel
theorem d_D_endLaw_19 : decode b_D_endLaw 19 = .ok (.getfield 15, 3) := by decide +kernel
theorem d_D_endLaw_22 : decode b_D_endLaw 22 = .ok (.arraylength, 1) := by decide +kernel
theorem d_D_endLaw_23 : decode b_D_endLaw 23 = .ok (.if_icmp .lt 5, 3) := by decide +kernel
theorem d_D_endLaw_26 : decode b_D_endLaw 26 = .ok (.iconst 0, 1) := by decide +kernel
theorem d_D_endLaw_27 : decode b_D_endLaw 27 = .ok (.ireturn, 1) := by decide +kernel
theorem d_D_endLaw_28 : decode b_D_endLaw 28 = .ok (.aload_n 0, 1) := by decide +kernel
theorem d_D_endLaw_29 : decode b_D_endLaw 29 = .ok (.getfield 15, 3) := by decide +kernel
theorem d_D_endLaw_32 : decode b_D_endLaw 32 = .ok (.aload_n 0, 1) := by decide +kernel
theorem d_D_endLaw_33 : decode b_D_endLaw 33 = .ok (.getfield 22, 3) := by decide +kernel
theorem d_D_endLaw_36 : decode b_D_endLaw 36 = .ok (.aload_n 0, 1) := by decide +kernel
theorem d_D_endLaw_37 : decode b_D_endLaw 37 = .ok (.getfield 26, 3) := by decide +kernel
theorem d_D_endLaw_40 : decode b_D_endLaw 40 = .ok (.iastore, 1) := by decide +kernel
theorem d_D_endLaw_41 : decode b_D_endLaw 41 = .ok (.aload_n 0, 1) := by decide +kernel
theorem d_D_endLaw_42 : decode b_D_endLaw 42 = .ok (.dup, 1) := by decide +kernel
theorem d_D_endLaw_43 : decode b_D_endLaw 43 = .ok (.getfield 22, 3) := by decide +kernel
theorem d_D_endLaw_46 : decode b_D_endLaw 46 = .ok (.iconst 1, 1) := by decide +kernel
theorem d_D_endLaw_47 : decode b_D_endLaw 47 = .ok (.iadd, 1) := by decide +kernel
theorem d_D_endLaw_48 : decode b_D_endLaw 48 = .ok (.putfield 22, 3) := by decide +kernel
theorem d_D_endLaw_51 : decode b_D_endLaw 51 = .ok (.aload_n 0, 1) := by decide +kernel
theorem d_D_endLaw_52 : decode b_D_endLaw 52 = .ok (.iconst 0, 1) := by decide +kernel
theorem d_D_endLaw_53 : decode b_D_endLaw 53 = .ok (.invokevirtual 32, 3) := by decide +kernel
theorem d_D_endLaw_56 : decode b_D_endLaw 56 = .ok (.iconst 1, 1) := by decide +kernel
theorem d_D_endLaw_57 : decode b_D_endLaw 57 = .ok (.ireturn, 1) := by decide +kernel
theorem d_D_accept_0 : decode b_D_accept 0 = .ok (.iload_n 1, 1) := by decide +kernel
theorem d_D_accept_1 : decode b_D_accept 1 = .ok (.bipush 120, 2) := by decide +kernel
theorem d_D_accept_3 : decode b_D_accept 3 = .ok (.if_icmp .lt 18, 3) := by decide +kernel
theorem d_D_accept_6 : decode b_D_accept 6 = .ok (.iload_n 1, 1) := by decide +kernel
theorem d_D_accept_7 : decode b_D_accept 7 = .ok (.bipush 122, 2) := by decide +kernel
theorem d_D_accept_9 : decode b_D_accept 9 = .ok (.if_icmp .gt 12, 3) := by decide +kernel
theorem d_D_accept_12 : decode b_D_accept 12 = .ok (.aload_n 0, 1) := by decide +kernel
theorem d_D_accept_13 : decode b_D_accept 13 = .ok (.iload_n 1, 1) := by decide +kernel
theorem d_D_accept_14 : decode b_D_accept 14 = .ok (.bipush 120, 2) := by decide +kernel
theorem d_D_accept_16 : decode b_D_accept 16 = .ok (.isub, 1) := by decide +kernel
theorem d_D_accept_17 : decode b_D_accept 17 = .ok (.invokevirtual 48, 3) := by decide +kernel
theorem d_D_accept_20 : decode b_D_accept 20 = .ok (.ireturn, 1) := by decide +kernel
theorem d_D_accept_21 : decode b_D_accept 21 = .ok (.iload_n 1, 1) := by decide +kernel
theorem d_D_accept_22 : decode b_D_accept 22 = .ok (.bipush 40, 2) := by decide +kernel
theorem d_D_accept_24 : decode b_D_accept 24 = .ok (.if_icmp .ne 8, 3) := by decide +kernel
theorem d_D_accept_27 : decode b_D_accept 27 = .ok (.aload_n 0, 1) := by decide +kernel
theorem d_D_accept_28 : decode b_D_accept 28 = .ok (.invokevirtual 52, 3) := by decide +kernel
theorem d_D_accept_31 : decode b_D_accept 31 = .ok (.ireturn, 1) := by decide +kernel
theorem d_D_accept_32 : decode b_D_accept 32 = .ok (.iload_n 1, 1) := by decide +kernel
theorem d_D_accept_33 : decode b_D_accept 33 = .ok (.bipush 41, 2) := by decide +kernel
theorem d_D_accept_35 : decode b_D_accept 35 = .ok (.if_icmp .ne 8, 3) := by decide +kernel
theorem d_D_accept_38 : decode b_D_accept 38 = .ok (.aload_n 0, 1) := by decide +kernel
theorem d_D_accept_39 : decode b_D_accept 39 = .ok (.invokevirtual 55, 3) := by decide +kernel
theorem d_D_accept_42 : decode b_D_accept 42 = .ok (.ireturn, 1) := by decide +kernel
theorem d_D_accept_43 : decode b_D_accept 43 = .ok (.iload_n 1, 1) := by decide +kernel
theorem d_D_accept_44 : decode b_D_accept 44 = .ok (.bipush 61, 2) := by decide +kernel
theorem d_D_accept_46 : decode b_D_accept 46 = .ok (.if_icmp .ne 8, 3) := by decide +kernel
theorem d_D_accept_49 : decode b_D_accept 49 = .ok (.aload_n 0, 1) := by decide +kernel
theorem d_D_accept_50 : decode b_D_accept 50 = .ok (.invokevirtual 58, 3) := by decide +kernel
theorem d_D_accept_53 : decode b_D_accept 53 = .ok (.ireturn, 1) := by decide +kernel
theorem d_D_accept_54 : decode b_D_accept 54 = .ok (.iload_n 1, 1) := by decide +kernel
theorem d_D_accept_55 : decode b_D_accept 55 = .ok (.bipush 59, 2) := by decide +kernel
theorem d_D_accept_57 : decode b_D_accept 57 = .ok (.if_icmp .ne 14, 3) := by decide +kernel
theorem d_D_accept_60 : decode b_D_accept 60 = .ok (.aload_n 0, 1) := by decide +kernel
theorem d_D_accept_61 : decode b_D_accept 61 = .ok (.invokevirtual 40, 3) := by decide +kernel
theorem d_D_accept_64 : decode b_D_accept 64 = .ok (.ifCond .eq 7, 3) := by decide +kernel
theorem d_D_accept_67 : decode b_D_accept 67 = .ok (.iconst 1, 1) := by decide +kernel
theorem d_D_accept_68 : decode b_D_accept 68 = .ok (.goto 4, 3) := by decide +kernel
theorem d_D_accept_71 : decode b_D_accept 71 = .ok (.iconst 0, 1) := by decide +kernel
theorem d_D_accept_72 : decode b_D_accept 72 = .ok (.ireturn, 1) := by decide +kernel
theorem d_D_read_0 : decode b_D_read 0 = .ok (.aload_n 0, 1) := by decide +kernel
theorem d_D_read_1 : decode b_D_read 1 = .ok (.iconst 0, 1) := by decide +kernel
theorem d_D_read_2 : decode b_D_read 2 = .ok (.putfield 22, 3) := by decide +kernel
theorem d_D_read_5 : decode b_D_read 5 = .ok (.aload_n 0, 1) := by decide +kernel
theorem d_D_read_6 : decode b_D_read 6 = .ok (.iconst 0, 1) := by decide +kernel
theorem d_D_read_7 : decode b_D_read 7 = .ok (.putfield 26, 3) := by decide +kernel
theorem d_D_read_10 : decode b_D_read 10 = .ok (.aload_n 0, 1) := by decide +kernel
theorem d_D_read_11 : decode b_D_read 11 = .ok (.iconst 0, 1) := by decide +kernel
theorem d_D_read_12 : decode b_D_read 12 = .ok (.putfield 29, 3) := by decide +kernel
theorem d_D_read_15 : decode b_D_read 15 = .ok (.aload_n 0, 1) := by decide +kernel
theorem d_D_read_16 : decode b_D_read 16 = .ok (.iconst 0, 1) := by decide +kernel
theorem d_D_read_17 : decode b_D_read 17 = .ok (.invokevirtual 32, 3) := by decide +kernel
theorem d_D_read_20 : decode b_D_read 20 = .ok (.iconst 0, 1) := by decide +kernel
theorem d_D_read_21 : decode b_D_read 21 = .ok (.istore_n 3, 1) := by decide +kernel
theorem d_D_read_22 : decode b_D_read 22 = .ok (.iload_n 3, 1) := by decide +kernel
theorem d_D_read_23 : decode b_D_read 23 = .ok (.iload_n 2, 1) := by decide +kernel
theorem d_D_read_24 : decode b_D_read 24 = .ok (.if_icmp .ge 27, 3) := by decide +kernel
theorem d_D_read_27 : decode b_D_read 27 = .ok (.iload_n 3, 1) := by decide +kernel
theorem d_D_read_28 : decode b_D_read 28 = .ok (.aload_n 1, 1) := by decide +kernel
theorem d_D_read_29 : decode b_D_read 29 = .ok (.arraylength, 1) := by decide +kernel
theorem d_D_read_30 : decode b_D_read 30 = .ok (.if_icmp .ge 21, 3) := by decide +kernel
theorem d_D_read_33 : decode b_D_read 33 = .ok (.aload_n 0, 1) := by decide +kernel
theorem d_D_read_34 : decode b_D_read 34 = .ok (.aload_n 1, 1) := by decide +kernel
theorem d_D_read_35 : decode b_D_read 35 = .ok (.iload_n 3, 1) := by decide +kernel
theorem d_D_read_36 : decode b_D_read 36 = .ok (.caload, 1) := by decide +kernel
theorem d_D_read_37 : decode b_D_read 37 = .ok (.invokevirtual 36, 3) := by decide +kernel
theorem d_D_read_40 : decode b_D_read 40 = .ok (.ifCond .ne 5, 3) := by decide +kernel
theorem d_D_read_43 : decode b_D_read 43 = .ok (.iload_n 3, 1) := by decide +kernel
theorem d_D_read_44 : decode b_D_read 44 = .ok (.ireturn, 1) := by decide +kernel
theorem d_D_read_45 : decode b_D_read 45 = .ok (.iinc 3 1, 3) := by decide +kernel
theorem d_D_read_48 : decode b_D_read 48 = .ok (.goto (-26), 3) := by decide +kernel
theorem d_D_read_51 : decode b_D_read 51 = .ok (.aload_n 0, 1) := by decide +kernel
theorem d_D_read_52 : decode b_D_read 52 = .ok (.invokevirtual 40, 3) := by decide +kernel
theorem d_D_read_55 : decode b_D_read 55 = .ok (.ifCond .eq 7, 3) := by decide +kernel
theorem d_D_read_58 : decode b_D_read 58 = .ok (.iconst (-1), 1) := by decide +kernel
theorem d_D_read_59 : decode b_D_read 59 = .ok (.goto 4, 3) := by decide +kernel
theorem d_D_read_62 : decode b_D_read 62 = .ok (.iload_n 2, 1) := by decide +kernel
theorem d_D_read_63 : decode b_D_read 63 = .ok (.ireturn, 1) := by decide +kernel
theorem d_D_lawEnd_0 : decode b_D_lawEnd 0 = .ok (.iload_n 1, 1) := by decide +kernel
theorem d_D_lawEnd_1 : decode b_D_lawEnd 1 = .ok (.ifCond .lt 20, 3) := by decide +kernel
theorem d_D_lawEnd_4 : decode b_D_lawEnd 4 = .ok (.iload_n 1, 1) := by decide +kernel
theorem d_D_lawEnd_5 : decode b_D_lawEnd 5 = .ok (.aload_n 0, 1) := by decide +kernel
theorem d_D_lawEnd_6 : decode b_D_lawEnd 6 = .ok (.getfield 22, 3) := by decide +kernel
theorem d_D_lawEnd_9 : decode b_D_lawEnd 9 = .ok (.if_icmp .ge 12, 3) := by decide +kernel
theorem d_D_lawEnd_12 : decode b_D_lawEnd 12 = .ok (.aload_n 0, 1) := by decide +kernel
theorem d_D_lawEnd_13 : decode b_D_lawEnd 13 = .ok (.getfield 15, 3) := by decide +kernel
theorem d_D_lawEnd_16 : decode b_D_lawEnd 16 = .ok (.iload_n 1, 1) := by decide +kernel
theorem d_D_lawEnd_17 : decode b_D_lawEnd 17 = .ok (.iaload, 1) := by decide +kernel
theorem d_D_lawEnd_18 : decode b_D_lawEnd 18 = .ok (.goto 4, 3) := by decide +kernel
theorem d_D_lawEnd_21 : decode b_D_lawEnd 21 = .ok (.iconst 0, 1) := by decide +kernel
theorem d_D_lawEnd_22 : decode b_D_lawEnd 22 = .ok (.ireturn, 1) := by decide +kernel
theorem d_D_lawStart_0 : decode b_D_lawStart 0 = .ok (.iload_n 1, 1) := by decide +kernel
theorem d_D_lawStart_1 : decode b_D_lawStart 1 = .ok (.ifCond .gt 7, 3) := by decide +kernel
theorem d_D_lawStart_4 : decode b_D_lawStart 4 = .ok (.iconst 0, 1) := by decide +kernel
theorem d_D_lawStart_5 : decode b_D_lawStart 5 = .ok (.goto 10, 3) := by decide +kernel
theorem d_D_lawStart_8 : decode b_D_lawStart 8 = .ok (.aload_n 0, 1) := by decide +kernel
theorem d_D_lawStart_9 : decode b_D_lawStart 9 = .ok (.iload_n 1, 1) := by decide +kernel
theorem d_D_lawStart_10 : decode b_D_lawStart 10 = .ok (.iconst 1, 1) := by decide +kernel
theorem d_D_lawStart_11 : decode b_D_lawStart 11 = .ok (.isub, 1) := by decide +kernel
theorem d_D_lawStart_12 : decode b_D_lawStart 12 = .ok (.invokevirtual 44, 3) := by decide +kernel
theorem d_D_lawStart_15 : decode b_D_lawStart 15 = .ok (.ireturn, 1) := by decide +kernel
theorem d_P_isIn_0 : decode b_P_isIn 0 = .ok (.iload_n 1, 1) := by decide +kernel
theorem d_P_isIn_1 : decode b_P_isIn 1 = .ok (.bipush 64, 2) := by decide +kernel
theorem d_P_isIn_3 : decode b_P_isIn 3 = .ok (.idiv, 1) := by decide +kernel
theorem d_P_isIn_4 : decode b_P_isIn 4 = .ok (.istore_n 2, 1) := by decide +kernel
theorem d_P_isIn_5 : decode b_P_isIn 5 = .ok (.iload_n 2, 1) := by decide +kernel
theorem d_P_isIn_6 : decode b_P_isIn 6 = .ok (.ifCond .lt 28, 3) := by decide +kernel
theorem d_P_isIn_9 : decode b_P_isIn 9 = .ok (.iload_n 2, 1) := by decide +kernel
theorem d_P_isIn_10 : decode b_P_isIn 10 = .ok (.aload_n 0, 1) := by decide +kernel
theorem d_P_isIn_11 : decode b_P_isIn 11 = .ok (.arraylength, 1) := by decide +kernel
theorem d_P_isIn_12 : decode b_P_isIn 12 = .ok (.if_icmp .ge 22, 3) := by decide +kernel
theorem d_P_isIn_15 : decode b_P_isIn 15 = .ok (.aload_n 0, 1) := by decide +kernel
theorem d_P_isIn_16 : decode b_P_isIn 16 = .ok (.iload_n 2, 1) := by decide +kernel
theorem d_P_isIn_17 : decode b_P_isIn 17 = .ok (.laload, 1) := by decide +kernel
theorem d_P_isIn_18 : decode b_P_isIn 18 = .ok (.lconst 1, 1) := by decide +kernel
theorem d_P_isIn_19 : decode b_P_isIn 19 = .ok (.iload_n 1, 1) := by decide +kernel
theorem d_P_isIn_20 : decode b_P_isIn 20 = .ok (.bipush 64, 2) := by decide +kernel
theorem d_P_isIn_22 : decode b_P_isIn 22 = .ok (.irem, 1) := by decide +kernel
theorem d_P_isIn_23 : decode b_P_isIn 23 = .ok (.lshl, 1) := by decide +kernel
theorem d_P_isIn_24 : decode b_P_isIn 24 = .ok (.land, 1) := by decide +kernel
theorem d_P_isIn_25 : decode b_P_isIn 25 = .ok (.lconst 0, 1) := by decide +kernel
theorem d_P_isIn_26 : decode b_P_isIn 26 = .ok (.lcmp, 1) := by decide +kernel
theorem d_P_isIn_27 : decode b_P_isIn 27 = .ok (.ifCond .eq 7, 3) := by decide +kernel
theorem d_P_isIn_30 : decode b_P_isIn 30 = .ok (.iconst 1, 1) := by decide +kernel
theorem d_P_isIn_31 : decode b_P_isIn 31 = .ok (.goto 4, 3) := by decide +kernel
theorem d_P_isIn_34 : decode b_P_isIn 34 = .ok (.iconst 0, 1) := by decide +kernel
theorem d_P_isIn_35 : decode b_P_isIn 35 = .ok (.ireturn, 1) := by decide +kernel
theorem d_P_add_0 : decode b_P_add 0 = .ok (.aload_n 0, 1) := by decide +kernel
theorem d_P_add_1 : decode b_P_add 1 = .ok (.getfield 22, 3) := by decide +kernel
theorem d_P_add_4 : decode b_P_add 4 = .ok (.sipush 3341, 3) := by decide +kernel
theorem d_P_add_7 : decode b_P_add 7 = .ok (.if_icmp .lt 4, 3) := by decide +kernel
theorem d_P_add_10 : decode b_P_add 10 = .ok (.return_, 1) := by decide +kernel
theorem d_P_add_11 : decode b_P_add 11 = .ok (.aload_n 0, 1) := by decide +kernel
theorem d_P_add_12 : decode b_P_add 12 = .ok (.getfield 9, 3) := by decide +kernel
theorem d_P_add_15 : decode b_P_add 15 = .ok (.aload_n 0, 1) := by decide +kernel
theorem d_P_add_16 : decode b_P_add 16 = .ok (.getfield 22, 3) := by decide +kernel
theorem d_P_add_19 : decode b_P_add 19 = .ok (.iload_n 2, 1) := by decide +kernel
theorem d_P_add_20 : decode b_P_add 20 = .ok (.iastore, 1) := by decide +kernel
theorem d_P_add_21 : decode b_P_add 21 = .ok (.iconst 0, 1) := by decide +kernel
theorem d_P_add_22 : decode b_P_add 22 = .ok (.istore 4, 2) := by decide +kernel
theorem d_P_add_24 : decode b_P_add 24 = .ok (.iconst 0, 1) := by decide +kernel
theorem d_P_add_25 : decode b_P_add 25 = .ok (.istore 5, 2) := by decide +kernel
theorem d_P_add_27 : decode b_P_add 27 = .ok (.iload 5, 2) := by decide +kernel
theorem d_P_add_29 : decode b_P_add 29 = .ok (.iload_n 1, 1) := by decide +kernel
theorem d_P_add_30 : decode b_P_add 30 = .ok (.invokestatic 40, 3) := by decide +kernel
theorem d_P_add_33 : decode b_P_add 33 = .ok (.if_icmp .ge 63, 3) := by decide +kernel
theorem d_P_add_36 : decode b_P_add 36 = .ok (.iload_n 1, 1) := by decide +kernel
theorem d_P_add_37 : decode b_P_add 37 = .ok (.iload_n 2, 1) := by decide +kernel
theorem d_P_add_38 : decode b_P_add 38 = .ok (.iload 5, 2) := by decide +kernel
theorem d_P_add_40 : decode b_P_add 40 = .ok (.invokestatic 43, 3) := by decide +kernel
theorem d_P_add_43 : decode b_P_add 43 = .ok (.istore 6, 2) := by decide +kernel
theorem d_P_add_45 : decode b_P_add 45 = .ok (.iload 6, 2) := by decide +kernel
theorem d_P_add_47 : decode b_P_add 47 = .ok (.bipush 64, 2) := by decide +kernel
theorem d_P_add_49 : decode b_P_add 49 = .ok (.idiv, 1) := by decide +kernel
theorem d_P_add_50 : decode b_P_add 50 = .ok (.istore 7, 2) := by decide +kernel
theorem d_P_add_52 : decode b_P_add 52 = .ok (.iload 7, 2) := by decide +kernel
theorem d_P_add_54 : decode b_P_add 54 = .ok (.ifCond .lt 36, 3) := by decide +kernel
theorem d_P_add_57 : decode b_P_add 57 = .ok (.iload 7, 2) := by decide +kernel
theorem d_P_add_59 : decode b_P_add 59 = .ok (.aload_n 3, 1) := by decide +kernel
theorem d_P_add_60 : decode b_P_add 60 = .ok (.arraylength, 1) := by decide +kernel
theorem d_P_add_61 : decode b_P_add 61 = .ok (.if_icmp .ge 29, 3) := by decide +kernel
theorem d_P_add_64 : decode b_P_add 64 = .ok (.aload_n 3, 1) := by decide +kernel
theorem d_P_add_65 : decode b_P_add 65 = .ok (.iload 6, 2) := by decide +kernel
theorem d_P_add_67 : decode b_P_add 67 = .ok (.invokestatic 32, 3) := by decide +kernel
theorem d_P_add_70 : decode b_P_add 70 = .ok (.ifCond .ne 20, 3) := by decide +kernel
theorem d_P_add_73 : decode b_P_add 73 = .ok (.aload_n 3, 1) := by decide +kernel
theorem d_P_add_74 : decode b_P_add 74 = .ok (.iload 7, 2) := by decide +kernel
theorem d_P_add_76 : decode b_P_add 76 = .ok (.dup2, 1) := by decide +kernel
theorem d_P_add_77 : decode b_P_add 77 = .ok (.laload, 1) := by decide +kernel
theorem d_P_add_78 : decode b_P_add 78 = .ok (.lconst 1, 1) := by decide +kernel
theorem d_P_add_79 : decode b_P_add 79 = .ok (.iload 6, 2) := by decide +kernel
theorem d_P_add_81 : decode b_P_add 81 = .ok (.bipush 64, 2) := by decide +kernel
theorem d_P_add_83 : decode b_P_add 83 = .ok (.irem, 1) := by decide +kernel
theorem d_P_add_84 : decode b_P_add 84 = .ok (.lshl, 1) := by decide +kernel
theorem d_P_add_85 : decode b_P_add 85 = .ok (.lor, 1) := by decide +kernel
theorem d_P_add_86 : decode b_P_add 86 = .ok (.lastore, 1) := by decide +kernel
theorem d_P_add_87 : decode b_P_add 87 = .ok (.iinc 4 1, 3) := by decide +kernel
theorem d_P_add_90 : decode b_P_add 90 = .ok (.iinc 5 1, 3) := by decide +kernel
theorem d_P_add_93 : decode b_P_add 93 = .ok (.goto (-66), 3) := by decide +kernel
theorem d_P_add_96 : decode b_P_add 96 = .ok (.aload_n 0, 1) := by decide +kernel
theorem d_P_add_97 : decode b_P_add 97 = .ok (.getfield 15, 3) := by decide +kernel
theorem d_P_add_100 : decode b_P_add 100 = .ok (.aload_n 0, 1) := by decide +kernel
theorem d_P_add_101 : decode b_P_add 101 = .ok (.getfield 22, 3) := by decide +kernel
theorem d_P_add_104 : decode b_P_add 104 = .ok (.iload 4, 2) := by decide +kernel
theorem d_P_add_106 : decode b_P_add 106 = .ok (.i2b, 1) := by decide +kernel
theorem d_P_add_107 : decode b_P_add 107 = .ok (.bastore, 1) := by decide +kernel
theorem d_P_add_108 : decode b_P_add 108 = .ok (.aload_n 0, 1) := by decide +kernel
theorem d_P_add_109 : decode b_P_add 109 = .ok (.dup, 1) := by decide +kernel
theorem d_P_add_110 : decode b_P_add 110 = .ok (.getfield 22, 3) := by decide +kernel
theorem d_P_add_113 : decode b_P_add 113 = .ok (.iconst 1, 1) := by decide +kernel
theorem d_P_add_114 : decode b_P_add 114 = .ok (.iadd, 1) := by decide +kernel
theorem d_P_add_115 : decode b_P_add 115 = .ok (.putfield 22, 3) := by decide +kernel
theorem d_P_add_118 : decode b_P_add 118 = .ok (.return_, 1) := by decide +kernel
theorem d_P_list_0 : decode b_P_list 0 = .ok (.aload_n 0, 1) := by decide +kernel
theorem d_P_list_1 : decode b_P_list 1 = .ok (.getfield 22, 3) := by decide +kernel
theorem d_P_list_4 : decode b_P_list 4 = .ok (.ifCond .le 4, 3) := by decide +kernel
theorem d_P_list_7 : decode b_P_list 7 = .ok (.return_, 1) := by decide +kernel
theorem d_P_list_8 : decode b_P_list 8 = .ok (.iconst 3, 1) := by decide +kernel
theorem d_P_list_9 : decode b_P_list 9 = .ok (.invokestatic 26, 3) := by decide +kernel
theorem d_P_list_12 : decode b_P_list 12 = .ok (.bipush 64, 2) := by decide +kernel
theorem d_P_list_14 : decode b_P_list 14 = .ok (.idiv, 1) := by decide +kernel
theorem d_P_list_15 : decode b_P_list 15 = .ok (.iconst 1, 1) := by decide +kernel
theorem d_P_list_16 : decode b_P_list 16 = .ok (.iadd, 1) := by decide +kernel
theorem d_P_list_17 : decode b_P_list 17 = .ok (.newarray .long, 2) := by decide +kernel
theorem d_P_list_19 : decode b_P_list 19 = .ok (.astore_n 1, 1) := by decide +kernel
theorem d_P_list_20 : decode b_P_list 20 = .ok (.iconst 1, 1) := by decide +kernel
theorem d_P_list_21 : decode b_P_list 21 = .ok (.istore_n 2, 1) := by decide +kernel
theorem d_P_list_22 : decode b_P_list 22 = .ok (.iload_n 2, 1) := by decide +kernel
theorem d_P_list_23 : decode b_P_list 23 = .ok (.iconst 3, 1) := by decide +kernel
theorem d_P_list_24 : decode b_P_list 24 = .ok (.if_icmp .gt 68, 3) := by decide +kernel
theorem d_P_list_27 : decode b_P_list 27 = .ok (.aload_n 0, 1) := by decide +kernel
theorem d_P_list_28 : decode b_P_list 28 = .ok (.getfield 19, 3) := by decide +kernel
theorem d_P_list_31 : decode b_P_list 31 = .ok (.iload_n 2, 1) := by decide +kernel
theorem d_P_list_32 : decode b_P_list 32 = .ok (.aload_n 0, 1) := by decide +kernel
theorem d_P_list_33 : decode b_P_list 33 = .ok (.getfield 22, 3) := by decide +kernel
theorem d_P_list_36 : decode b_P_list 36 = .ok (.iastore, 1) := by decide +kernel
theorem d_P_list_37 : decode b_P_list 37 = .ok (.iconst 0, 1) := by decide +kernel
theorem d_P_list_38 : decode b_P_list 38 = .ok (.istore_n 3, 1) := by decide +kernel
theorem d_P_list_39 : decode b_P_list 39 = .ok (.iload_n 3, 1) := by decide +kernel
theorem d_P_list_40 : decode b_P_list 40 = .ok (.aload_n 1, 1) := by decide +kernel
theorem d_P_list_41 : decode b_P_list 41 = .ok (.arraylength, 1) := by decide +kernel
theorem d_P_list_42 : decode b_P_list 42 = .ok (.if_icmp .ge 13, 3) := by decide +kernel
theorem d_P_list_45 : decode b_P_list 45 = .ok (.aload_n 1, 1) := by decide +kernel
theorem d_P_list_46 : decode b_P_list 46 = .ok (.iload_n 3, 1) := by decide +kernel
theorem d_P_list_47 : decode b_P_list 47 = .ok (.lconst 0, 1) := by decide +kernel
theorem d_P_list_48 : decode b_P_list 48 = .ok (.lastore, 1) := by decide +kernel
theorem d_P_list_49 : decode b_P_list 49 = .ok (.iinc 3 1, 3) := by decide +kernel
theorem d_P_list_52 : decode b_P_list 52 = .ok (.goto (-13), 3) := by decide +kernel
theorem d_P_list_55 : decode b_P_list 55 = .ok (.iconst 0, 1) := by decide +kernel
theorem d_P_list_56 : decode b_P_list 56 = .ok (.istore_n 3, 1) := by decide +kernel
theorem d_P_list_57 : decode b_P_list 57 = .ok (.iload_n 3, 1) := by decide +kernel
theorem d_P_list_58 : decode b_P_list 58 = .ok (.iload_n 2, 1) := by decide +kernel
theorem d_P_list_59 : decode b_P_list 59 = .ok (.invokestatic 26, 3) := by decide +kernel
theorem d_P_list_62 : decode b_P_list 62 = .ok (.if_icmp .ge 24, 3) := by decide +kernel
theorem d_P_list_65 : decode b_P_list 65 = .ok (.aload_n 1, 1) := by decide +kernel
theorem d_P_list_66 : decode b_P_list 66 = .ok (.iload_n 3, 1) := by decide +kernel
theorem d_P_list_67 : decode b_P_list 67 = .ok (.invokestatic 32, 3) := by decide +kernel
theorem d_P_list_70 : decode b_P_list 70 = .ok (.ifCond .ne 10, 3) := by decide +kernel
theorem d_P_list_73 : decode b_P_list 73 = .ok (.aload_n 0, 1) := by decide +kernel
theorem d_P_list_74 : decode b_P_list 74 = .ok (.iload_n 2, 1) := by decide +kernel
theorem d_P_list_75 : decode b_P_list 75 = .ok (.iload_n 3, 1) := by decide +kernel
theorem d_P_list_76 : decode b_P_list 76 = .ok (.aload_n 1, 1) := by decide +kernel
theorem d_P_list_77 : decode b_P_list 77 = .ok (.invokevirtual 36, 3) := by decide +kernel
theorem d_P_list_80 : decode b_P_list 80 = .ok (.iinc 3 1, 3) := by decide +kernel
theorem d_P_list_83 : decode b_P_list 83 = .ok (.goto (-26), 3) := by decide +kernel
theorem d_P_list_86 : decode b_P_list 86 = .ok (.iinc 2 1, 3) := by decide +kernel
theorem d_P_list_89 : decode b_P_list 89 = .ok (.goto (-67), 3) := by decide +kernel
theorem d_P_list_92 : decode b_P_list 92 = .ok (.aload_n 0, 1) := by decide +kernel
theorem d_P_list_93 : decode b_P_list 93 = .ok (.getfield 19, 3) := by decide +kernel
theorem d_P_list_96 : decode b_P_list 96 = .ok (.iconst 4, 1) := by decide +kernel
theorem d_P_list_97 : decode b_P_list 97 = .ok (.aload_n 0, 1) := by decide +kernel
theorem d_P_list_98 : decode b_P_list 98 = .ok (.getfield 22, 3) := by decide +kernel
theorem d_P_list_101 : decode b_P_list 101 = .ok (.iastore, 1) := by decide +kernel
theorem d_P_list_102 : decode b_P_list 102 = .ok (.return_, 1) := by decide +kernel
theorem d_P_sizeAt_0 : decode b_P_sizeAt 0 = .ok (.iload_n 1, 1) := by decide +kernel
theorem d_P_sizeAt_1 : decode b_P_sizeAt 1 = .ok (.aload_n 0, 1) := by decide +kernel
theorem d_P_sizeAt_2 : decode b_P_sizeAt 2 = .ok (.getfield 19, 3) := by decide +kernel
theorem d_P_sizeAt_5 : decode b_P_sizeAt 5 = .ok (.iconst 3, 1) := by decide +kernel
theorem d_P_sizeAt_6 : decode b_P_sizeAt 6 = .ok (.iaload, 1) := by decide +kernel
theorem d_P_sizeAt_7 : decode b_P_sizeAt 7 = .ok (.if_icmp .lt 7, 3) := by decide +kernel
theorem d_P_sizeAt_10 : decode b_P_sizeAt 10 = .ok (.iconst 3, 1) := by decide +kernel
theorem d_P_sizeAt_11 : decode b_P_sizeAt 11 = .ok (.goto 18, 3) := by decide +kernel
theorem d_P_sizeAt_14 : decode b_P_sizeAt 14 = .ok (.iload_n 1, 1) := by decide +kernel
theorem d_P_sizeAt_15 : decode b_P_sizeAt 15 = .ok (.aload_n 0, 1) := by decide +kernel
theorem d_P_sizeAt_16 : decode b_P_sizeAt 16 = .ok (.getfield 19, 3) := by decide +kernel
theorem d_P_sizeAt_19 : decode b_P_sizeAt 19 = .ok (.iconst 2, 1) := by decide +kernel
theorem d_P_sizeAt_20 : decode b_P_sizeAt 20 = .ok (.iaload, 1) := by decide +kernel
theorem d_P_sizeAt_21 : decode b_P_sizeAt 21 = .ok (.if_icmp .lt 7, 3) := by decide +kernel
theorem d_P_sizeAt_24 : decode b_P_sizeAt 24 = .ok (.iconst 2, 1) := by decide +kernel
theorem d_P_sizeAt_25 : decode b_P_sizeAt 25 = .ok (.goto 4, 3) := by decide +kernel
theorem d_P_sizeAt_28 : decode b_P_sizeAt 28 = .ok (.iconst 1, 1) := by decide +kernel
theorem d_P_sizeAt_29 : decode b_P_sizeAt 29 = .ok (.ireturn, 1) := by decide +kernel
theorem d_P_codeAt_0 : decode b_P_codeAt 0 = .ok (.iload_n 1, 1) := by decide +kernel
theorem d_P_codeAt_1 : decode b_P_codeAt 1 = .ok (.ifCond .lt 19, 3) := by decide +kernel
theorem d_P_codeAt_4 : decode b_P_codeAt 4 = .ok (.iload_n 1, 1) := by decide +kernel
theorem d_P_codeAt_5 : decode b_P_codeAt 5 = .ok (.sipush 3341, 3) := by decide +kernel
theorem d_P_codeAt_8 : decode b_P_codeAt 8 = .ok (.if_icmp .ge 12, 3) := by decide +kernel
theorem d_P_codeAt_11 : decode b_P_codeAt 11 = .ok (.aload_n 0, 1) := by decide +kernel
theorem d_P_codeAt_12 : decode b_P_codeAt 12 = .ok (.getfield 9, 3) := by decide +kernel
theorem d_P_codeAt_15 : decode b_P_codeAt 15 = .ok (.iload_n 1, 1) := by decide +kernel
theorem d_P_codeAt_16 : decode b_P_codeAt 16 = .ok (.iaload, 1) := by decide +kernel
theorem d_P_codeAt_17 : decode b_P_codeAt 17 = .ok (.goto 4, 3) := by decide +kernel
theorem d_P_codeAt_20 : decode b_P_codeAt 20 = .ok (.iconst 0, 1) := by decide +kernel
theorem d_P_codeAt_21 : decode b_P_codeAt 21 = .ok (.ireturn, 1) := by decide +kernel
theorem d_P_start_0 : decode b_P_start 0 = .ok (.iload_n 1, 1) := by decide +kernel
theorem d_P_start_1 : decode b_P_start 1 = .ok (.invokestatic 47, 3) := by decide +kernel
theorem d_P_start_4 : decode b_P_start 4 = .ok (.ifCond .eq 12, 3) := by decide +kernel
theorem d_P_start_7 : decode b_P_start 7 = .ok (.aload_n 0, 1) := by decide +kernel
theorem d_P_start_8 : decode b_P_start 8 = .ok (.getfield 19, 3) := by decide +kernel
theorem d_P_start_11 : decode b_P_start 11 = .ok (.iload_n 1, 1) := by decide +kernel
theorem d_P_start_12 : decode b_P_start 12 = .ok (.iaload, 1) := by decide +kernel
theorem d_P_start_13 : decode b_P_start 13 = .ok (.goto 4, 3) := by decide +kernel
theorem d_P_start_16 : decode b_P_start 16 = .ok (.iconst 0, 1) := by decide +kernel
theorem d_P_start_17 : decode b_P_start 17 = .ok (.ireturn, 1) := by decide +kernel
theorem d_P_end_0 : decode b_P_end 0 = .ok (.iload_n 1, 1) := by decide +kernel
theorem d_P_end_1 : decode b_P_end 1 = .ok (.invokestatic 47, 3) := by decide +kernel
theorem d_P_end_4 : decode b_P_end 4 = .ok (.ifCond .eq 14, 3) := by decide +kernel
theorem d_P_end_7 : decode b_P_end 7 = .ok (.aload_n 0, 1) := by decide +kernel
theorem d_P_end_8 : decode b_P_end 8 = .ok (.getfield 19, 3) := by decide +kernel
theorem d_P_end_11 : decode b_P_end 11 = .ok (.iload_n 1, 1) := by decide +kernel
theorem d_P_end_12 : decode b_P_end 12 = .ok (.iconst 1, 1) := by decide +kernel
theorem d_P_end_13 : decode b_P_end 13 = .ok (.iadd, 1) := by decide +kernel
theorem d_P_end_14 : decode b_P_end 14 = .ok (.iaload, 1) := by decide +kernel
theorem d_P_end_15 : decode b_P_end 15 = .ok (.goto 4, 3) := by decide +kernel
theorem d_P_end_18 : decode b_P_end 18 = .ok (.iconst 0, 1) := by decide +kernel
theorem d_P_end_19 : decode b_P_end 19 = .ok (.ireturn, 1) := by decide +kernel
theorem d_P_alikesAt_0 : decode b_P_alikesAt 0 = .ok (.iload_n 1, 1) := by decide +kernel
theorem d_P_alikesAt_1 : decode b_P_alikesAt 1 = .ok (.ifCond .lt 19, 3) := by decide +kernel
theorem d_P_alikesAt_4 : decode b_P_alikesAt 4 = .ok (.iload_n 1, 1) := by decide +kernel
theorem d_P_alikesAt_5 : decode b_P_alikesAt 5 = .ok (.sipush 3341, 3) := by decide +kernel
theorem d_P_alikesAt_8 : decode b_P_alikesAt 8 = .ok (.if_icmp .ge 12, 3) := by decide +kernel
theorem d_P_alikesAt_11 : decode b_P_alikesAt 11 = .ok (.aload_n 0, 1) := by decide +kernel
theorem d_P_alikesAt_12 : decode b_P_alikesAt 12 = .ok (.getfield 15, 3) := by decide +kernel
theorem d_P_alikesAt_15 : decode b_P_alikesAt 15 = .ok (.iload_n 1, 1) := by decide +kernel
theorem d_P_alikesAt_16 : decode b_P_alikesAt 16 = .ok (.baload, 1) := by decide +kernel
theorem d_P_alikesAt_17 : decode b_P_alikesAt 17 = .ok (.goto 4, 3) := by decide +kernel
theorem d_P_alikesAt_20 : decode b_P_alikesAt 20 = .ok (.iconst 0, 1) := by decide +kernel
theorem d_P_alikesAt_21 : decode b_P_alikesAt 21 = .ok (.ireturn, 1) := by decide +kernel
