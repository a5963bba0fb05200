theorem dX0_init_0 : decode cX0_init 0 = .ok (.aload_n 0, 1) := by decide +kernel
theorem dX0_init_1 : decode cX0_init 1 = .ok (.invokespecial 3, 3) := by decide +kernel
theorem dX0_init_4 : decode cX0_init 4 = .ok (.aload_n 0, 1) := by decide +kernel
theorem dX0_init_5 : decode cX0_init 5 = .ok (.sipush 313, 3) := by decide +kernel
theorem dX0_init_8 : decode cX0_init 8 = .ok (.newarray .long, 2) := by decide +kernel
theorem dX0_init_10 : decode cX0_init 10 = .ok (.putfield 9, 3) := by decide +kernel
theorem dX0_init_13 : decode cX0_init 13 = .ok (.return_, 1) := by decide +kernel
theorem dX0_isFeast_0 : decode cX0_isFeast 0 = .ok (.iload_n 1, 1) := by decide +kernel
theorem dX0_isFeast_1 : decode cX0_isFeast 1 = .ok (.bipush 6, 2) := by decide +kernel
theorem dX0_isFeast_3 : decode cX0_isFeast 3 = .ok (.ishr, 1) := by decide +kernel
theorem dX0_isFeast_4 : decode cX0_isFeast 4 = .ok (.istore_n 2, 1) := by decide +kernel
theorem dX0_isFeast_5 : decode cX0_isFeast 5 = .ok (.iload_n 2, 1) := by decide +kernel
theorem dX0_isFeast_6 : decode cX0_isFeast 6 = .ok (.ifCond .lt 12, 3) := by decide +kernel
theorem dX0_isFeast_9 : decode cX0_isFeast 9 = .ok (.iload_n 2, 1) := by decide +kernel
theorem dX0_isFeast_10 : decode cX0_isFeast 10 = .ok (.aload_n 0, 1) := by decide +kernel
theorem dX0_isFeast_11 : decode cX0_isFeast 11 = .ok (.getfield 9, 3) := by decide +kernel
theorem dX0_isFeast_14 : decode cX0_isFeast 14 = .ok (.arraylength, 1) := by decide +kernel
theorem dX0_isFeast_15 : decode cX0_isFeast 15 = .ok (.if_icmp .lt 5, 3) := by decide +kernel
theorem dX0_isFeast_18 : decode cX0_isFeast 18 = .ok (.iconst 0, 1) := by decide +kernel
theorem dX0_isFeast_19 : decode cX0_isFeast 19 = .ok (.ireturn, 1) := by decide +kernel
theorem dX0_isFeast_20 : decode cX0_isFeast 20 = .ok (.iload_n 1, 1) := by decide +kernel
theorem dX0_isFeast_21 : decode cX0_isFeast 21 = .ok (.bipush 7, 2) := by decide +kernel
theorem dX0_isFeast_23 : decode cX0_isFeast 23 = .ok (.irem, 1) := by decide +kernel
theorem dX0_isFeast_24 : decode cX0_isFeast 24 = .ok (.bipush 6, 2) := by decide +kernel
theorem dX0_isFeast_26 : decode cX0_isFeast 26 = .ok (.if_icmp .eq 21, 3) := by decide +kernel
theorem dX0_isFeast_29 : decode cX0_isFeast 29 = .ok (.aload_n 0, 1) := by decide +kernel
theorem dX0_isFeast_30 : decode cX0_isFeast 30 = .ok (.getfield 9, 3) := by decide +kernel
theorem dX0_isFeast_33 : decode cX0_isFeast 33 = .ok (.iload_n 2, 1) := by decide +kernel
theorem dX0_isFeast_34 : decode cX0_isFeast 34 = .ok (.laload, 1) := by decide +kernel
theorem dX0_isFeast_35 : decode cX0_isFeast 35 = .ok (.iload_n 1, 1) := by decide +kernel
theorem dX0_isFeast_36 : decode cX0_isFeast 36 = .ok (.bipush 63, 2) := by decide +kernel
theorem dX0_isFeast_38 : decode cX0_isFeast 38 = .ok (.iand, 1) := by decide +kernel
theorem dX0_isFeast_39 : decode cX0_isFeast 39 = .ok (.lshr, 1) := by decide +kernel
theorem dX0_isFeast_40 : decode cX0_isFeast 40 = .ok (.lconst 1, 1) := by decide +kernel
theorem dX0_isFeast_41 : decode cX0_isFeast 41 = .ok (.land, 1) := by decide +kernel
theorem dX0_isFeast_42 : decode cX0_isFeast 42 = .ok (.lconst 0, 1) := by decide +kernel
theorem dX0_isFeast_43 : decode cX0_isFeast 43 = .ok (.lcmp, 1) := by decide +kernel
theorem dX0_isFeast_44 : decode cX0_isFeast 44 = .ok (.ifCond .eq 7, 3) := by decide +kernel
theorem dX0_isFeast_47 : decode cX0_isFeast 47 = .ok (.iconst 1, 1) := by decide +kernel
theorem dX0_isFeast_48 : decode cX0_isFeast 48 = .ok (.goto 4, 3) := by decide +kernel
theorem dX0_isFeast_51 : decode cX0_isFeast 51 = .ok (.iconst 0, 1) := by decide +kernel
theorem dX0_isFeast_52 : decode cX0_isFeast 52 = .ok (.ireturn, 1) := by decide +kernel
theorem dX0_addFeast_0 : decode cX0_addFeast 0 = .ok (.iload_n 1, 1) := by decide +kernel
theorem dX0_addFeast_1 : decode cX0_addFeast 1 = .ok (.bipush 6, 2) := by decide +kernel
theorem dX0_addFeast_3 : decode cX0_addFeast 3 = .ok (.ishr, 1) := by decide +kernel
theorem dX0_addFeast_4 : decode cX0_addFeast 4 = .ok (.istore_n 2, 1) := by decide +kernel
theorem dX0_addFeast_5 : decode cX0_addFeast 5 = .ok (.iload_n 2, 1) := by decide +kernel
theorem dX0_addFeast_6 : decode cX0_addFeast 6 = .ok (.ifCond .lt 27, 3) := by decide +kernel
theorem dX0_addFeast_9 : decode cX0_addFeast 9 = .ok (.iload_n 2, 1) := by decide +kernel
theorem dX0_addFeast_10 : decode cX0_addFeast 10 = .ok (.aload_n 0, 1) := by decide +kernel
theorem dX0_addFeast_11 : decode cX0_addFeast 11 = .ok (.getfield 9, 3) := by decide +kernel
theorem dX0_addFeast_14 : decode cX0_addFeast 14 = .ok (.arraylength, 1) := by decide +kernel
theorem dX0_addFeast_15 : decode cX0_addFeast 15 = .ok (.if_icmp .ge 18, 3) := by decide +kernel
theorem dX0_addFeast_18 : decode cX0_addFeast 18 = .ok (.aload_n 0, 1) := by decide +kernel
theorem dX0_addFeast_19 : decode cX0_addFeast 19 = .ok (.getfield 9, 3) := by decide +kernel
theorem dX0_addFeast_22 : decode cX0_addFeast 22 = .ok (.iload_n 2, 1) := by decide +kernel
theorem dX0_addFeast_23 : decode cX0_addFeast 23 = .ok (.dup2, 1) := by decide +kernel
theorem dX0_addFeast_24 : decode cX0_addFeast 24 = .ok (.laload, 1) := by decide +kernel
theorem dX0_addFeast_25 : decode cX0_addFeast 25 = .ok (.lconst 1, 1) := by decide +kernel
theorem dX0_addFeast_26 : decode cX0_addFeast 26 = .ok (.iload_n 1, 1) := by decide +kernel
theorem dX0_addFeast_27 : decode cX0_addFeast 27 = .ok (.bipush 63, 2) := by decide +kernel
theorem dX0_addFeast_29 : decode cX0_addFeast 29 = .ok (.iand, 1) := by decide +kernel
theorem dX0_addFeast_30 : decode cX0_addFeast 30 = .ok (.lshl, 1) := by decide +kernel
theorem dX0_addFeast_31 : decode cX0_addFeast 31 = .ok (.lor, 1) := by decide +kernel
theorem dX0_addFeast_32 : decode cX0_addFeast 32 = .ok (.lastore, 1) := by decide +kernel
theorem dX0_addFeast_33 : decode cX0_addFeast 33 = .ok (.return_, 1) := by decide +kernel
theorem dX0_workdaysBetween_0 : decode cX0_workdaysBetween 0 = .ok (.iload_n 2, 1) := by decide +kernel
theorem dX0_workdaysBetween_1 : decode cX0_workdaysBetween 1 = .ok (.iload_n 1, 1) := by decide +kernel
theorem dX0_workdaysBetween_2 : decode cX0_workdaysBetween 2 = .ok (.iconst 1, 1) := by decide +kernel
theorem dX0_workdaysBetween_3 : decode cX0_workdaysBetween 3 = .ok (.iadd, 1) := by decide +kernel
theorem dX0_workdaysBetween_4 : decode cX0_workdaysBetween 4 = .ok (.if_icmp .gt 5, 3) := by decide +kernel
theorem dX0_workdaysBetween_7 : decode cX0_workdaysBetween 7 = .ok (.iconst 0, 1) := by decide +kernel
theorem dX0_workdaysBetween_8 : decode cX0_workdaysBetween 8 = .ok (.ireturn, 1) := by decide +kernel
theorem dX0_workdaysBetween_9 : decode cX0_workdaysBetween 9 = .ok (.iload_n 2, 1) := by decide +kernel
theorem dX0_workdaysBetween_10 : decode cX0_workdaysBetween 10 = .ok (.iload_n 1, 1) := by decide +kernel
theorem dX0_workdaysBetween_11 : decode cX0_workdaysBetween 11 = .ok (.isub, 1) := by decide +kernel
theorem dX0_workdaysBetween_12 : decode cX0_workdaysBetween 12 = .ok (.iconst 1, 1) := by decide +kernel
theorem dX0_workdaysBetween_13 : decode cX0_workdaysBetween 13 = .ok (.isub, 1) := by decide +kernel
theorem dX0_workdaysBetween_14 : decode cX0_workdaysBetween 14 = .ok (.aload_n 0, 1) := by decide +kernel
theorem dX0_workdaysBetween_15 : decode cX0_workdaysBetween 15 = .ok (.iload_n 2, 1) := by decide +kernel
theorem dX0_workdaysBetween_16 : decode cX0_workdaysBetween 16 = .ok (.invokevirtual 15, 3) := by decide +kernel
theorem dX0_workdaysBetween_19 : decode cX0_workdaysBetween 19 = .ok (.aload_n 0, 1) := by decide +kernel
theorem dX0_workdaysBetween_20 : decode cX0_workdaysBetween 20 = .ok (.iload_n 1, 1) := by decide +kernel
theorem dX0_workdaysBetween_21 : decode cX0_workdaysBetween 21 = .ok (.iconst 1, 1) := by decide +kernel
theorem dX0_workdaysBetween_22 : decode cX0_workdaysBetween 22 = .ok (.iadd, 1) := by decide +kernel
theorem dX0_workdaysBetween_23 : decode cX0_workdaysBetween 23 = .ok (.invokevirtual 15, 3) := by decide +kernel
theorem dX0_workdaysBetween_26 : decode cX0_workdaysBetween 26 = .ok (.isub, 1) := by decide +kernel
theorem dX0_workdaysBetween_27 : decode cX0_workdaysBetween 27 = .ok (.isub, 1) := by decide +kernel
theorem dX0_workdaysBetween_28 : decode cX0_workdaysBetween 28 = .ok (.ireturn, 1) := by decide +kernel
theorem dX0_feastsAheadOf_0 : decode cX0_feastsAheadOf 0 = .ok (.iload_n 1, 1) := by decide +kernel
theorem dX0_feastsAheadOf_1 : decode cX0_feastsAheadOf 1 = .ok (.bipush 6, 2) := by decide +kernel
theorem dX0_feastsAheadOf_3 : decode cX0_feastsAheadOf 3 = .ok (.ishr, 1) := by decide +kernel
theorem dX0_feastsAheadOf_4 : decode cX0_feastsAheadOf 4 = .ok (.istore_n 2, 1) := by decide +kernel
theorem dX0_feastsAheadOf_5 : decode cX0_feastsAheadOf 5 = .ok (.iload_n 1, 1) := by decide +kernel
theorem dX0_feastsAheadOf_6 : decode cX0_feastsAheadOf 6 = .ok (.bipush 7, 2) := by decide +kernel
theorem dX0_feastsAheadOf_8 : decode cX0_feastsAheadOf 8 = .ok (.idiv, 1) := by decide +kernel
theorem dX0_feastsAheadOf_9 : decode cX0_feastsAheadOf 9 = .ok (.istore_n 3, 1) := by decide +kernel
theorem dX0_feastsAheadOf_10 : decode cX0_feastsAheadOf 10 = .ok (.iconst 0, 1) := by decide +kernel
theorem dX0_feastsAheadOf_11 : decode cX0_feastsAheadOf 11 = .ok (.istore 4, 2) := by decide +kernel
theorem dX0_feastsAheadOf_13 : decode cX0_feastsAheadOf 13 = .ok (.iload 4, 2) := by decide +kernel
theorem dX0_feastsAheadOf_15 : decode cX0_feastsAheadOf 15 = .ok (.iload_n 2, 1) := by decide +kernel
theorem dX0_feastsAheadOf_16 : decode cX0_feastsAheadOf 16 = .ok (.if_icmp .ge 32, 3) := by decide +kernel
theorem dX0_feastsAheadOf_19 : decode cX0_feastsAheadOf 19 = .ok (.iload 4, 2) := by decide +kernel
theorem dX0_feastsAheadOf_21 : decode cX0_feastsAheadOf 21 = .ok (.aload_n 0, 1) := by decide +kernel
theorem dX0_feastsAheadOf_22 : decode cX0_feastsAheadOf 22 = .ok (.getfield 9, 3) := by decide +kernel
theorem dX0_feastsAheadOf_25 : decode cX0_feastsAheadOf 25 = .ok (.arraylength, 1) := by decide +kernel
theorem dX0_feastsAheadOf_26 : decode cX0_feastsAheadOf 26 = .ok (.if_icmp .ge 22, 3) := by decide +kernel
theorem dX0_feastsAheadOf_29 : decode cX0_feastsAheadOf 29 = .ok (.iload_n 3, 1) := by decide +kernel
theorem dX0_feastsAheadOf_30 : decode cX0_feastsAheadOf 30 = .ok (.aload_n 0, 1) := by decide +kernel
theorem dX0_feastsAheadOf_31 : decode cX0_feastsAheadOf 31 = .ok (.getfield 9, 3) := by decide +kernel
theorem dX0_feastsAheadOf_34 : decode cX0_feastsAheadOf 34 = .ok (.iload 4, 2) := by decide +kernel
theorem dX0_feastsAheadOf_36 : decode cX0_feastsAheadOf 36 = .ok (.laload, 1) := by decide +kernel
theorem dX0_feastsAheadOf_37 : decode cX0_feastsAheadOf 37 = .ok (.invokestatic 19, 3) := by decide +kernel
theorem dX0_feastsAheadOf_40 : decode cX0_feastsAheadOf 40 = .ok (.iadd, 1) := by decide +kernel
theorem dX0_feastsAheadOf_41 : decode cX0_feastsAheadOf 41 = .ok (.istore_n 3, 1) := by decide +kernel
theorem dX0_feastsAheadOf_42 : decode cX0_feastsAheadOf 42 = .ok (.iinc 4 1, 3) := by decide +kernel
theorem dX0_feastsAheadOf_45 : decode cX0_feastsAheadOf 45 = .ok (.goto (-32), 3) := by decide +kernel
theorem dX0_feastsAheadOf_48 : decode cX0_feastsAheadOf 48 = .ok (.iload_n 2, 1) := by decide +kernel
theorem dX0_feastsAheadOf_49 : decode cX0_feastsAheadOf 49 = .ok (.ifCond .lt 33, 3) := by decide +kernel
theorem dX0_feastsAheadOf_52 : decode cX0_feastsAheadOf 52 = .ok (.iload_n 2, 1) := by decide +kernel
theorem dX0_feastsAheadOf_53 : decode cX0_feastsAheadOf 53 = .ok (.aload_n 0, 1) := by decide +kernel
theorem dX0_feastsAheadOf_54 : decode cX0_feastsAheadOf 54 = .ok (.getfield 9, 3) := by decide +kernel
theorem dX0_feastsAheadOf_57 : decode cX0_feastsAheadOf 57 = .ok (.arraylength, 1) := by decide +kernel
theorem dX0_feastsAheadOf_58 : decode cX0_feastsAheadOf 58 = .ok (.if_icmp .ge 24, 3) := by decide +kernel
theorem dX0_feastsAheadOf_61 : decode cX0_feastsAheadOf 61 = .ok (.iload_n 3, 1) := by decide +kernel
theorem dX0_feastsAheadOf_62 : decode cX0_feastsAheadOf 62 = .ok (.aload_n 0, 1) := by decide +kernel
theorem dX0_feastsAheadOf_63 : decode cX0_feastsAheadOf 63 = .ok (.getfield 9, 3) := by decide +kernel
theorem dX0_feastsAheadOf_66 : decode cX0_feastsAheadOf 66 = .ok (.iload_n 2, 1) := by decide +kernel
theorem dX0_feastsAheadOf_67 : decode cX0_feastsAheadOf 67 = .ok (.laload, 1) := by decide +kernel
theorem dX0_feastsAheadOf_68 : decode cX0_feastsAheadOf 68 = .ok (.lconst 1, 1) := by decide +kernel
theorem dX0_feastsAheadOf_69 : decode cX0_feastsAheadOf 69 = .ok (.iload_n 1, 1) := by decide +kernel
theorem dX0_feastsAheadOf_70 : decode cX0_feastsAheadOf 70 = .ok (.bipush 63, 2) := by decide +kernel
theorem dX0_feastsAheadOf_72 : decode cX0_feastsAheadOf 72 = .ok (.iand, 1) := by decide +kernel
theorem dX0_feastsAheadOf_73 : decode cX0_feastsAheadOf 73 = .ok (.lshl, 1) := by decide +kernel
theorem dX0_feastsAheadOf_74 : decode cX0_feastsAheadOf 74 = .ok (.lconst 1, 1) := by decide +kernel
theorem dX0_feastsAheadOf_75 : decode cX0_feastsAheadOf 75 = .ok (.lsub, 1) := by decide +kernel
theorem dX0_feastsAheadOf_76 : decode cX0_feastsAheadOf 76 = .ok (.land, 1) := by decide +kernel
theorem dX0_feastsAheadOf_77 : decode cX0_feastsAheadOf 77 = .ok (.invokestatic 19, 3) := by decide +kernel
theorem dX0_feastsAheadOf_80 : decode cX0_feastsAheadOf 80 = .ok (.iadd, 1) := by decide +kernel
theorem dX0_feastsAheadOf_81 : decode cX0_feastsAheadOf 81 = .ok (.istore_n 3, 1) := by decide +kernel
theorem dX0_feastsAheadOf_82 : decode cX0_feastsAheadOf 82 = .ok (.iload_n 3, 1) := by decide +kernel
theorem dX0_feastsAheadOf_83 : decode cX0_feastsAheadOf 83 = .ok (.ireturn, 1) := by decide +kernel
theorem dX1_init_0 : decode cX1_init 0 = .ok (.aload_n 0, 1) := by decide +kernel
theorem dX1_init_1 : decode cX1_init 1 = .ok (.invokespecial 1, 3) := by decide +kernel
theorem dX1_init_4 : decode cX1_init 4 = .ok (.aload_n 0, 1) := by decide +kernel
theorem dX1_init_5 : decode cX1_init 5 = .ok (.iload_n 1, 1) := by decide +kernel
theorem dX1_init_6 : decode cX1_init 6 = .ok (.putfield 7, 3) := by decide +kernel
theorem dX1_init_9 : decode cX1_init 9 = .ok (.aload_n 0, 1) := by decide +kernel
theorem dX1_init_10 : decode cX1_init 10 = .ok (.iload_n 2, 1) := by decide +kernel
theorem dX1_init_11 : decode cX1_init 11 = .ok (.putfield 13, 3) := by decide +kernel
theorem dX1_init_14 : decode cX1_init 14 = .ok (.aload_n 0, 1) := by decide +kernel
theorem dX1_init_15 : decode cX1_init 15 = .ok (.iload_n 3, 1) := by decide +kernel
theorem dX1_init_16 : decode cX1_init 16 = .ok (.putfield 16, 3) := by decide +kernel
theorem dX1_init_19 : decode cX1_init 19 = .ok (.aload_n 0, 1) := by decide +kernel
theorem dX1_init_20 : decode cX1_init 20 = .ok (.iload 4, 2) := by decide +kernel
theorem dX1_init_22 : decode cX1_init 22 = .ok (.putfield 19, 3) := by decide +kernel
theorem dX1_init_25 : decode cX1_init 25 = .ok (.return_, 1) := by decide +kernel
theorem dX2_init_0 : decode cX2_init 0 = .ok (.aload_n 0, 1) := by decide +kernel
theorem dX2_init_1 : decode cX2_init 1 = .ok (.invokespecial 3, 3) := by decide +kernel
theorem dX2_init_4 : decode cX2_init 4 = .ok (.aload_n 0, 1) := by decide +kernel
theorem dX2_init_5 : decode cX2_init 5 = .ok (.bipush 10, 2) := by decide +kernel
theorem dX2_init_7 : decode cX2_init 7 = .ok (.newarray .int, 2) := by decide +kernel
theorem dX2_init_9 : decode cX2_init 9 = .ok (.putfield 9, 3) := by decide +kernel
theorem dX2_init_12 : decode cX2_init 12 = .ok (.aload_n 0, 1) := by decide +kernel
theorem dX2_init_13 : decode cX2_init 13 = .ok (.bipush 60, 2) := by decide +kernel
theorem dX2_init_15 : decode cX2_init 15 = .ok (.newarray .int, 2) := by decide +kernel
theorem dX2_init_17 : decode cX2_init 17 = .ok (.putfield 15, 3) := by decide +kernel
theorem dX2_init_20 : decode cX2_init 20 = .ok (.return_, 1) := by decide +kernel
theorem dX2_clear_0 : decode cX2_clear 0 = .ok (.aload_n 0, 1) := by decide +kernel
theorem dX2_clear_1 : decode cX2_clear 1 = .ok (.getfield 9, 3) := by decide +kernel
theorem dX2_clear_4 : decode cX2_clear 4 = .ok (.iconst 0, 1) := by decide +kernel
theorem dX2_clear_5 : decode cX2_clear 5 = .ok (.invokestatic 18, 3) := by decide +kernel
theorem dX2_clear_8 : decode cX2_clear 8 = .ok (.aload_n 0, 1) := by decide +kernel
theorem dX2_clear_9 : decode cX2_clear 9 = .ok (.getfield 15, 3) := by decide +kernel
theorem dX2_clear_12 : decode cX2_clear 12 = .ok (.iconst (-1), 1) := by decide +kernel
theorem dX2_clear_13 : decode cX2_clear 13 = .ok (.invokestatic 18, 3) := by decide +kernel
theorem dX2_clear_16 : decode cX2_clear 16 = .ok (.return_, 1) := by decide +kernel
theorem dX2_take_0 : decode cX2_take 0 = .ok (.iload_n 1, 1) := by decide +kernel
theorem dX2_take_1 : decode cX2_take 1 = .ok (.invokestatic 24, 3) := by decide +kernel
theorem dX2_take_4 : decode cX2_take 4 = .ok (.istore_n 2, 1) := by decide +kernel
theorem dX2_take_5 : decode cX2_take 5 = .ok (.aload_n 0, 1) := by decide +kernel
theorem dX2_take_6 : decode cX2_take 6 = .ok (.iload_n 2, 1) := by decide +kernel
theorem dX2_take_7 : decode cX2_take 7 = .ok (.iload_n 1, 1) := by decide +kernel
theorem dX2_take_8 : decode cX2_take 8 = .ok (.invokestatic 28, 3) := by decide +kernel
theorem dX2_take_11 : decode cX2_take 11 = .ok (.invokevirtual 31, 3) := by decide +kernel
theorem dX2_take_14 : decode cX2_take 14 = .ok (.istore_n 3, 1) := by decide +kernel
theorem dX2_take_15 : decode cX2_take 15 = .ok (.iload_n 3, 1) := by decide +kernel
theorem dX2_take_16 : decode cX2_take 16 = .ok (.iconst (-1), 1) := by decide +kernel
theorem dX2_take_17 : decode cX2_take 17 = .ok (.if_icmp .ne 4, 3) := by decide +kernel
theorem dX2_take_20 : decode cX2_take 20 = .ok (.return_, 1) := by decide +kernel
theorem dX2_take_21 : decode cX2_take 21 = .ok (.aload_n 0, 1) := by decide +kernel
theorem dX2_take_22 : decode cX2_take 22 = .ok (.getfield 9, 3) := by decide +kernel
theorem dX2_take_25 : decode cX2_take 25 = .ok (.iload_n 2, 1) := by decide +kernel
theorem dX2_take_26 : decode cX2_take 26 = .ok (.bipush 8, 2) := by decide +kernel
theorem dX2_take_28 : decode cX2_take 28 = .ok (.isub, 1) := by decide +kernel
theorem dX2_take_29 : decode cX2_take 29 = .ok (.dup2, 1) := by decide +kernel
theorem dX2_take_30 : decode cX2_take 30 = .ok (.iaload, 1) := by decide +kernel
theorem dX2_take_31 : decode cX2_take 31 = .ok (.iconst 1, 1) := by decide +kernel
theorem dX2_take_32 : decode cX2_take 32 = .ok (.iload_n 1, 1) := by decide +kernel
theorem dX2_take_33 : decode cX2_take 33 = .ok (.invokestatic 35, 3) := by decide +kernel
theorem dX2_take_36 : decode cX2_take 36 = .ok (.ishl, 1) := by decide +kernel
theorem dX2_take_37 : decode cX2_take 37 = .ok (.ior, 1) := by decide +kernel
theorem dX2_take_38 : decode cX2_take 38 = .ok (.iastore, 1) := by decide +kernel
theorem dX2_take_39 : decode cX2_take 39 = .ok (.aload_n 0, 1) := by decide +kernel
theorem dX2_take_40 : decode cX2_take 40 = .ok (.getfield 15, 3) := by decide +kernel
theorem dX2_take_43 : decode cX2_take 43 = .ok (.iload_n 3, 1) := by decide +kernel
theorem dX2_take_44 : decode cX2_take 44 = .ok (.iload_n 1, 1) := by decide +kernel
theorem dX2_take_45 : decode cX2_take 45 = .ok (.invokestatic 35, 3) := by decide +kernel
theorem dX2_take_48 : decode cX2_take 48 = .ok (.iastore, 1) := by decide +kernel
theorem dX2_take_49 : decode cX2_take 49 = .ok (.return_, 1) := by decide +kernel
theorem dX2_barTo_0 : decode cX2_barTo 0 = .ok (.iload_n 1, 1) := by decide +kernel
theorem dX2_barTo_1 : decode cX2_barTo 1 = .ok (.invokestatic 24, 3) := by decide +kernel
theorem dX2_barTo_4 : decode cX2_barTo 4 = .ok (.istore_n 2, 1) := by decide +kernel
theorem dX2_barTo_5 : decode cX2_barTo 5 = .ok (.iload_n 1, 1) := by decide +kernel
theorem dX2_barTo_6 : decode cX2_barTo 6 = .ok (.invokestatic 35, 3) := by decide +kernel
theorem dX2_barTo_9 : decode cX2_barTo 9 = .ok (.istore_n 3, 1) := by decide +kernel
theorem dX2_barTo_10 : decode cX2_barTo 10 = .ok (.iload_n 1, 1) := by decide +kernel
theorem dX2_barTo_11 : decode cX2_barTo 11 = .ok (.invokestatic 28, 3) := by decide +kernel
theorem dX2_barTo_14 : decode cX2_barTo 14 = .ok (.istore 4, 2) := by decide +kernel
theorem dX2_barTo_16 : decode cX2_barTo 16 = .ok (.aload_n 0, 1) := by decide +kernel
theorem dX2_barTo_17 : decode cX2_barTo 17 = .ok (.iload_n 2, 1) := by decide +kernel
theorem dX2_barTo_18 : decode cX2_barTo 18 = .ok (.iload_n 3, 1) := by decide +kernel
theorem dX2_barTo_19 : decode cX2_barTo 19 = .ok (.invokevirtual 38, 3) := by decide +kernel
theorem dX2_barTo_22 : decode cX2_barTo 22 = .ok (.ifCond .eq 5, 3) := by decide +kernel
theorem dX2_barTo_25 : decode cX2_barTo 25 = .ok (.iconst 4, 1) := by decide +kernel
theorem dX2_barTo_26 : decode cX2_barTo 26 = .ok (.ireturn, 1) := by decide +kernel
theorem dX2_barTo_27 : decode cX2_barTo 27 = .ok (.aload_n 0, 1) := by decide +kernel
theorem dX2_barTo_28 : decode cX2_barTo 28 = .ok (.iload_n 2, 1) := by decide +kernel
theorem dX2_barTo_29 : decode cX2_barTo 29 = .ok (.iload 4, 2) := by decide +kernel
theorem dX2_barTo_31 : decode cX2_barTo 31 = .ok (.invokevirtual 42, 3) := by decide +kernel
theorem dX2_barTo_34 : decode cX2_barTo 34 = .ok (.iconst (-1), 1) := by decide +kernel
theorem dX2_barTo_35 : decode cX2_barTo 35 = .ok (.if_icmp .eq 5, 3) := by decide +kernel
theorem dX2_barTo_38 : decode cX2_barTo 38 = .ok (.iconst 5, 1) := by decide +kernel
theorem dX2_barTo_39 : decode cX2_barTo 39 = .ok (.ireturn, 1) := by decide +kernel
theorem dX2_barTo_40 : decode cX2_barTo 40 = .ok (.aload_n 0, 1) := by decide +kernel
theorem dX2_barTo_41 : decode cX2_barTo 41 = .ok (.iload_n 2, 1) := by decide +kernel
theorem dX2_barTo_42 : decode cX2_barTo 42 = .ok (.iconst 1, 1) := by decide +kernel
theorem dX2_barTo_43 : decode cX2_barTo 43 = .ok (.isub, 1) := by decide +kernel
theorem dX2_barTo_44 : decode cX2_barTo 44 = .ok (.iload 4, 2) := by decide +kernel
theorem dX2_barTo_46 : decode cX2_barTo 46 = .ok (.invokevirtual 42, 3) := by decide +kernel
theorem dX2_barTo_49 : decode cX2_barTo 49 = .ok (.istore 5, 2) := by decide +kernel
theorem dX2_barTo_51 : decode cX2_barTo 51 = .ok (.aload_n 0, 1) := by decide +kernel
theorem dX2_barTo_52 : decode cX2_barTo 52 = .ok (.iload_n 2, 1) := by decide +kernel
theorem dX2_barTo_53 : decode cX2_barTo 53 = .ok (.iconst 1, 1) := by decide +kernel
theorem dX2_barTo_54 : decode cX2_barTo 54 = .ok (.iadd, 1) := by decide +kernel
theorem dX2_barTo_55 : decode cX2_barTo 55 = .ok (.iload 4, 2) := by decide +kernel
theorem dX2_barTo_57 : decode cX2_barTo 57 = .ok (.invokevirtual 42, 3) := by decide +kernel
theorem dX2_barTo_60 : decode cX2_barTo 60 = .ok (.istore 6, 2) := by decide +kernel
theorem dX2_barTo_62 : decode cX2_barTo 62 = .ok (.iload 5, 2) := by decide +kernel
theorem dX2_barTo_64 : decode cX2_barTo 64 = .ok (.iconst (-1), 1) := by decide +kernel
theorem dX2_barTo_65 : decode cX2_barTo 65 = .ok (.if_icmp .eq 9, 3) := by decide +kernel
theorem dX2_barTo_68 : decode cX2_barTo 68 = .ok (.iload 5, 2) := by decide +kernel
theorem dX2_barTo_70 : decode cX2_barTo 70 = .ok (.iload_n 3, 1) := by decide +kernel
theorem dX2_barTo_71 : decode cX2_barTo 71 = .ok (.if_icmp .ne 15, 3) := by decide +kernel
theorem dX2_barTo_74 : decode cX2_barTo 74 = .ok (.iload 6, 2) := by decide +kernel
theorem dX2_barTo_76 : decode cX2_barTo 76 = .ok (.iconst (-1), 1) := by decide +kernel
theorem dX2_barTo_77 : decode cX2_barTo 77 = .ok (.if_icmp .eq 12, 3) := by decide +kernel
theorem dX2_barTo_80 : decode cX2_barTo 80 = .ok (.iload 6, 2) := by decide +kernel
theorem dX2_barTo_82 : decode cX2_barTo 82 = .ok (.iload_n 3, 1) := by decide +kernel
theorem dX2_barTo_83 : decode cX2_barTo 83 = .ok (.if_icmp .eq 6, 3) := by decide +kernel
theorem dX2_barTo_86 : decode cX2_barTo 86 = .ok (.bipush 6, 2) := by decide +kernel
theorem dX2_barTo_88 : decode cX2_barTo 88 = .ok (.ireturn, 1) := by decide +kernel
theorem dX2_barTo_89 : decode cX2_barTo 89 = .ok (.iconst 0, 1) := by decide +kernel
theorem dX2_barTo_90 : decode cX2_barTo 90 = .ok (.ireturn, 1) := by decide +kernel
theorem dX2_isTaken_0 : decode cX2_isTaken 0 = .ok (.iload_n 1, 1) := by decide +kernel
theorem dX2_isTaken_1 : decode cX2_isTaken 1 = .ok (.bipush 8, 2) := by decide +kernel
theorem dX2_isTaken_3 : decode cX2_isTaken 3 = .ok (.isub, 1) := by decide +kernel
theorem dX2_isTaken_4 : decode cX2_isTaken 4 = .ok (.istore_n 3, 1) := by decide +kernel
theorem dX2_isTaken_5 : decode cX2_isTaken 5 = .ok (.iload_n 3, 1) := by decide +kernel
theorem dX2_isTaken_6 : decode cX2_isTaken 6 = .ok (.ifCond .lt 26, 3) := by decide +kernel
theorem dX2_isTaken_9 : decode cX2_isTaken 9 = .ok (.iload_n 3, 1) := by decide +kernel
theorem dX2_isTaken_10 : decode cX2_isTaken 10 = .ok (.bipush 10, 2) := by decide +kernel
theorem dX2_isTaken_12 : decode cX2_isTaken 12 = .ok (.if_icmp .ge 20, 3) := by decide +kernel
theorem dX2_isTaken_15 : decode cX2_isTaken 15 = .ok (.aload_n 0, 1) := by decide +kernel
theorem dX2_isTaken_16 : decode cX2_isTaken 16 = .ok (.getfield 9, 3) := by decide +kernel
theorem dX2_isTaken_19 : decode cX2_isTaken 19 = .ok (.iload_n 3, 1) := by decide +kernel
theorem dX2_isTaken_20 : decode cX2_isTaken 20 = .ok (.iaload, 1) := by decide +kernel
theorem dX2_isTaken_21 : decode cX2_isTaken 21 = .ok (.iload_n 2, 1) := by decide +kernel
theorem dX2_isTaken_22 : decode cX2_isTaken 22 = .ok (.ishr, 1) := by decide +kernel
theorem dX2_isTaken_23 : decode cX2_isTaken 23 = .ok (.iconst 1, 1) := by decide +kernel
theorem dX2_isTaken_24 : decode cX2_isTaken 24 = .ok (.iand, 1) := by decide +kernel
theorem dX2_isTaken_25 : decode cX2_isTaken 25 = .ok (.ifCond .eq 7, 3) := by decide +kernel
theorem dX2_isTaken_28 : decode cX2_isTaken 28 = .ok (.iconst 1, 1) := by decide +kernel
theorem dX2_isTaken_29 : decode cX2_isTaken 29 = .ok (.goto 4, 3) := by decide +kernel
theorem dX2_isTaken_32 : decode cX2_isTaken 32 = .ok (.iconst 0, 1) := by decide +kernel
theorem dX2_isTaken_33 : decode cX2_isTaken 33 = .ok (.ireturn, 1) := by decide +kernel
theorem dX2_hallAt_0 : decode cX2_hallAt 0 = .ok (.aload_n 0, 1) := by decide +kernel
theorem dX2_hallAt_1 : decode cX2_hallAt 1 = .ok (.iload_n 1, 1) := by decide +kernel
theorem dX2_hallAt_2 : decode cX2_hallAt 2 = .ok (.iload_n 2, 1) := by decide +kernel
theorem dX2_hallAt_3 : decode cX2_hallAt 3 = .ok (.invokevirtual 31, 3) := by decide +kernel
theorem dX2_hallAt_6 : decode cX2_hallAt 6 = .ok (.istore_n 3, 1) := by decide +kernel
theorem dX2_hallAt_7 : decode cX2_hallAt 7 = .ok (.iload_n 3, 1) := by decide +kernel
theorem dX2_hallAt_8 : decode cX2_hallAt 8 = .ok (.iconst (-1), 1) := by decide +kernel
theorem dX2_hallAt_9 : decode cX2_hallAt 9 = .ok (.if_icmp .ne 7, 3) := by decide +kernel
theorem dX2_hallAt_12 : decode cX2_hallAt 12 = .ok (.iconst (-1), 1) := by decide +kernel
theorem dX2_hallAt_13 : decode cX2_hallAt 13 = .ok (.goto 9, 3) := by decide +kernel
theorem dX2_hallAt_16 : decode cX2_hallAt 16 = .ok (.aload_n 0, 1) := by decide +kernel
theorem dX2_hallAt_17 : decode cX2_hallAt 17 = .ok (.getfield 15, 3) := by decide +kernel
theorem dX2_hallAt_20 : decode cX2_hallAt 20 = .ok (.iload_n 3, 1) := by decide +kernel
theorem dX2_hallAt_21 : decode cX2_hallAt 21 = .ok (.iaload, 1) := by decide +kernel
theorem dX2_hallAt_22 : decode cX2_hallAt 22 = .ok (.ireturn, 1) := by decide +kernel
theorem dX2_placeOf_0 : decode cX2_placeOf 0 = .ok (.iload_n 1, 1) := by decide +kernel
theorem dX2_placeOf_1 : decode cX2_placeOf 1 = .ok (.bipush 8, 2) := by decide +kernel
theorem dX2_placeOf_3 : decode cX2_placeOf 3 = .ok (.isub, 1) := by decide +kernel
theorem dX2_placeOf_4 : decode cX2_placeOf 4 = .ok (.istore_n 3, 1) := by decide +kernel
theorem dX2_placeOf_5 : decode cX2_placeOf 5 = .ok (.iload_n 3, 1) := by decide +kernel
theorem dX2_placeOf_6 : decode cX2_placeOf 6 = .ok (.ifCond .lt 19, 3) := by decide +kernel
theorem dX2_placeOf_9 : decode cX2_placeOf 9 = .ok (.iload_n 3, 1) := by decide +kernel
theorem dX2_placeOf_10 : decode cX2_placeOf 10 = .ok (.bipush 10, 2) := by decide +kernel
theorem dX2_placeOf_12 : decode cX2_placeOf 12 = .ok (.if_icmp .ge 13, 3) := by decide +kernel
theorem dX2_placeOf_15 : decode cX2_placeOf 15 = .ok (.iload_n 2, 1) := by decide +kernel
theorem dX2_placeOf_16 : decode cX2_placeOf 16 = .ok (.ifCond .lt 9, 3) := by decide +kernel
theorem dX2_placeOf_19 : decode cX2_placeOf 19 = .ok (.iload_n 2, 1) := by decide +kernel
theorem dX2_placeOf_20 : decode cX2_placeOf 20 = .ok (.bipush 6, 2) := by decide +kernel
theorem dX2_placeOf_22 : decode cX2_placeOf 22 = .ok (.if_icmp .lt 5, 3) := by decide +kernel
theorem dX2_placeOf_25 : decode cX2_placeOf 25 = .ok (.iconst (-1), 1) := by decide +kernel
theorem dX2_placeOf_26 : decode cX2_placeOf 26 = .ok (.ireturn, 1) := by decide +kernel
theorem dX2_placeOf_27 : decode cX2_placeOf 27 = .ok (.iload_n 3, 1) := by decide +kernel
theorem dX2_placeOf_28 : decode cX2_placeOf 28 = .ok (.bipush 6, 2) := by decide +kernel
theorem dX2_placeOf_30 : decode cX2_placeOf 30 = .ok (.imul, 1) := by decide +kernel
theorem dX2_placeOf_31 : decode cX2_placeOf 31 = .ok (.iload_n 2, 1) := by decide +kernel
theorem dX2_placeOf_32 : decode cX2_placeOf 32 = .ok (.iadd, 1) := by decide +kernel
theorem dX2_placeOf_33 : decode cX2_placeOf 33 = .ok (.ireturn, 1) := by decide +kernel
theorem dX3_init_0 : decode cX3_init 0 = .ok (.aload_n 0, 1) := by decide +kernel
theorem dX3_init_1 : decode cX3_init 1 = .ok (.invokespecial 3, 3) := by decide +kernel
theorem dX3_init_4 : decode cX3_init 4 = .ok (.aload_n 0, 1) := by decide +kernel
theorem dX3_init_5 : decode cX3_init 5 = .ok (.aload_n 1, 1) := by decide +kernel
theorem dX3_init_6 : decode cX3_init 6 = .ok (.putfield 9, 3) := by decide +kernel
theorem dX3_init_9 : decode cX3_init 9 = .ok (.aload_n 0, 1) := by decide +kernel
theorem dX3_init_10 : decode cX3_init 10 = .ok (.iload_n 2, 1) := by decide +kernel
theorem dX3_init_11 : decode cX3_init 11 = .ok (.putfield 15, 3) := by decide +kernel
theorem dX3_init_14 : decode cX3_init 14 = .ok (.aload_n 0, 1) := by decide +kernel
theorem dX3_init_15 : decode cX3_init 15 = .ok (.aload_n 1, 1) := by decide +kernel
theorem dX3_init_16 : decode cX3_init 16 = .ok (.getfield 19, 3) := by decide +kernel
theorem dX3_init_19 : decode cX3_init 19 = .ok (.getfield 25, 3) := by decide +kernel
theorem dX3_init_22 : decode cX3_init 22 = .ok (.putfield 30, 3) := by decide +kernel
theorem dX3_init_25 : decode cX3_init 25 = .ok (.aload_n 0, 1) := by decide +kernel
theorem dX3_init_26 : decode cX3_init 26 = .ok (.aload_n 1, 1) := by decide +kernel
theorem dX3_init_27 : decode cX3_init 27 = .ok (.getfield 33, 3) := by decide +kernel
theorem dX3_init_30 : decode cX3_init 30 = .ok (.getfield 25, 3) := by decide +kernel
theorem dX3_init_33 : decode cX3_init 33 = .ok (.putfield 36, 3) := by decide +kernel
theorem dX3_init_36 : decode cX3_init 36 = .ok (.aload_n 0, 1) := by decide +kernel
theorem dX3_init_37 : decode cX3_init 37 = .ok (.aload_n 1, 1) := by decide +kernel
theorem dX3_init_38 : decode cX3_init 38 = .ok (.getfield 39, 3) := by decide +kernel
theorem dX3_init_41 : decode cX3_init 41 = .ok (.invokestatic 42, 3) := by decide +kernel
theorem dX3_init_44 : decode cX3_init 44 = .ok (.putfield 46, 3) := by decide +kernel
theorem dX3_init_47 : decode cX3_init 47 = .ok (.aload_n 0, 1) := by decide +kernel
theorem dX3_init_48 : decode cX3_init 48 = .ok (.aload_n 1, 1) := by decide +kernel
theorem dX3_init_49 : decode cX3_init 49 = .ok (.getfield 39, 3) := by decide +kernel
theorem dX3_init_52 : decode cX3_init 52 = .ok (.invokestatic 49, 3) := by decide +kernel
theorem dX3_init_55 : decode cX3_init 55 = .ok (.putfield 52, 3) := by decide +kernel
theorem dX3_init_58 : decode cX3_init 58 = .ok (.return_, 1) := by decide +kernel
theorem dX3_written_0 : decode cX3_written 0 = .ok (.iload_n 1, 1) := by decide +kernel
theorem dX3_written_1 : decode cX3_written 1 = .ok (.tableswitch 102 0 7 #[47, 52, 57, 62, 67, 72, 83, 94], 47) := by decide +kernel
theorem dX3_written_48 : decode cX3_written 48 = .ok (.aload_n 0, 1) := by decide +kernel
theorem dX3_written_49 : decode cX3_written 49 = .ok (.getfield 15, 3) := by decide +kernel
theorem dX3_written_52 : decode cX3_written 52 = .ok (.ireturn, 1) := by decide +kernel
theorem dX3_written_53 : decode cX3_written 53 = .ok (.aload_n 0, 1) := by decide +kernel
theorem dX3_written_54 : decode cX3_written 54 = .ok (.getfield 30, 3) := by decide +kernel
theorem dX3_written_57 : decode cX3_written 57 = .ok (.ireturn, 1) := by decide +kernel
theorem dX3_written_58 : decode cX3_written 58 = .ok (.aload_n 0, 1) := by decide +kernel
theorem dX3_written_59 : decode cX3_written 59 = .ok (.getfield 36, 3) := by decide +kernel
theorem dX3_written_62 : decode cX3_written 62 = .ok (.ireturn, 1) := by decide +kernel
theorem dX3_written_63 : decode cX3_written 63 = .ok (.aload_n 0, 1) := by decide +kernel
theorem dX3_written_64 : decode cX3_written 64 = .ok (.getfield 46, 3) := by decide +kernel
theorem dX3_written_67 : decode cX3_written 67 = .ok (.ireturn, 1) := by decide +kernel
theorem dX3_written_68 : decode cX3_written 68 = .ok (.aload_n 0, 1) := by decide +kernel
theorem dX3_written_69 : decode cX3_written 69 = .ok (.getfield 52, 3) := by decide +kernel
theorem dX3_written_72 : decode cX3_written 72 = .ok (.ireturn, 1) := by decide +kernel
theorem dX3_written_73 : decode cX3_written 73 = .ok (.aload_n 0, 1) := by decide +kernel
theorem dX3_written_74 : decode cX3_written 74 = .ok (.getfield 9, 3) := by decide +kernel
theorem dX3_written_77 : decode cX3_written 77 = .ok (.getfield 19, 3) := by decide +kernel
theorem dX3_written_80 : decode cX3_written 80 = .ok (.getfield 55, 3) := by decide +kernel
theorem dX3_written_83 : decode cX3_written 83 = .ok (.ireturn, 1) := by decide +kernel
theorem dX3_written_84 : decode cX3_written 84 = .ok (.aload_n 0, 1) := by decide +kernel
theorem dX3_written_85 : decode cX3_written 85 = .ok (.getfield 9, 3) := by decide +kernel
theorem dX3_written_88 : decode cX3_written 88 = .ok (.getfield 33, 3) := by decide +kernel
theorem dX3_written_91 : decode cX3_written 91 = .ok (.getfield 55, 3) := by decide +kernel
theorem dX3_written_94 : decode cX3_written 94 = .ok (.ireturn, 1) := by decide +kernel
theorem dX3_written_95 : decode cX3_written 95 = .ok (.aload_n 0, 1) := by decide +kernel
theorem dX3_written_96 : decode cX3_written 96 = .ok (.getfield 9, 3) := by decide +kernel
theorem dX3_written_99 : decode cX3_written 99 = .ok (.getfield 58, 3) := by decide +kernel
theorem dX3_written_102 : decode cX3_written 102 = .ok (.ireturn, 1) := by decide +kernel
theorem dX3_written_103 : decode cX3_written 103 = .ok (.iconst (-1), 1) := by decide +kernel
theorem dX3_written_104 : decode cX3_written 104 = .ok (.ireturn, 1) := by decide +kernel
theorem dX4_init_0 : decode cX4_init 0 = .ok (.aload_n 0, 1) := by decide +kernel
theorem dX4_init_1 : decode cX4_init 1 = .ok (.invokespecial 1, 3) := by decide +kernel
theorem dX4_init_4 : decode cX4_init 4 = .ok (.aload_n 0, 1) := by decide +kernel
theorem dX4_init_5 : decode cX4_init 5 = .ok (.iload_n 1, 1) := by decide +kernel
theorem dX4_init_6 : decode cX4_init 6 = .ok (.putfield 7, 3) := by decide +kernel
theorem dX4_init_9 : decode cX4_init 9 = .ok (.aload_n 0, 1) := by decide +kernel
theorem dX4_init_10 : decode cX4_init 10 = .ok (.iload_n 2, 1) := by decide +kernel
theorem dX4_init_11 : decode cX4_init 11 = .ok (.putfield 13, 3) := by decide +kernel
theorem dX4_init_14 : decode cX4_init 14 = .ok (.aload_n 0, 1) := by decide +kernel
theorem dX4_init_15 : decode cX4_init 15 = .ok (.iload_n 3, 1) := by decide +kernel
theorem dX4_init_16 : decode cX4_init 16 = .ok (.ldc 16, 2) := by decide +kernel
theorem dX4_init_18 : decode cX4_init 18 = .ok (.idiv, 1) := by decide +kernel
theorem dX4_init_19 : decode cX4_init 19 = .ok (.putfield 17, 3) := by decide +kernel
theorem dX4_init_22 : decode cX4_init 22 = .ok (.aload_n 0, 1) := by decide +kernel
theorem dX4_init_23 : decode cX4_init 23 = .ok (.iload_n 3, 1) := by decide +kernel
theorem dX4_init_24 : decode cX4_init 24 = .ok (.ldc 20, 2) := by decide +kernel
theorem dX4_init_26 : decode cX4_init 26 = .ok (.idiv, 1) := by decide +kernel
theorem dX4_init_27 : decode cX4_init 27 = .ok (.bipush 10, 2) := by decide +kernel
theorem dX4_init_29 : decode cX4_init 29 = .ok (.irem, 1) := by decide +kernel
theorem dX4_init_30 : decode cX4_init 30 = .ok (.putfield 21, 3) := by decide +kernel
theorem dX4_init_33 : decode cX4_init 33 = .ok (.aload_n 0, 1) := by decide +kernel
theorem dX4_init_34 : decode cX4_init 34 = .ok (.iload_n 3, 1) := by decide +kernel
theorem dX4_init_35 : decode cX4_init 35 = .ok (.sipush 10000, 3) := by decide +kernel
theorem dX4_init_38 : decode cX4_init 38 = .ok (.idiv, 1) := by decide +kernel
theorem dX4_init_39 : decode cX4_init 39 = .ok (.bipush 10, 2) := by decide +kernel
theorem dX4_init_41 : decode cX4_init 41 = .ok (.irem, 1) := by decide +kernel
theorem dX4_init_42 : decode cX4_init 42 = .ok (.putfield 24, 3) := by decide +kernel
theorem dX4_init_45 : decode cX4_init 45 = .ok (.aload_n 0, 1) := by decide +kernel
theorem dX4_init_46 : decode cX4_init 46 = .ok (.iload_n 3, 1) := by decide +kernel
theorem dX4_init_47 : decode cX4_init 47 = .ok (.sipush 1000, 3) := by decide +kernel
theorem dX4_init_50 : decode cX4_init 50 = .ok (.idiv, 1) := by decide +kernel
theorem dX4_init_51 : decode cX4_init 51 = .ok (.bipush 10, 2) := by decide +kernel
theorem dX4_init_53 : decode cX4_init 53 = .ok (.irem, 1) := by decide +kernel
theorem dX4_init_54 : decode cX4_init 54 = .ok (.putfield 27, 3) := by decide +kernel
theorem dX4_init_57 : decode cX4_init 57 = .ok (.aload_n 0, 1) := by decide +kernel
theorem dX4_init_58 : decode cX4_init 58 = .ok (.iload_n 3, 1) := by decide +kernel
theorem dX4_init_59 : decode cX4_init 59 = .ok (.sipush 1000, 3) := by decide +kernel
theorem dX4_init_62 : decode cX4_init 62 = .ok (.irem, 1) := by decide +kernel
theorem dX4_init_63 : decode cX4_init 63 = .ok (.putfield 30, 3) := by decide +kernel
theorem dX4_init_66 : decode cX4_init 66 = .ok (.aload_n 0, 1) := by decide +kernel
theorem dX4_init_67 : decode cX4_init 67 = .ok (.iload 4, 2) := by decide +kernel
theorem dX4_init_69 : decode cX4_init 69 = .ok (.putfield 33, 3) := by decide +kernel
theorem dX4_init_72 : decode cX4_init 72 = .ok (.return_, 1) := by decide +kernel
theorem dX4_canBe_0 : decode cX4_canBe 0 = .ok (.iload_n 0, 1) := by decide +kernel
theorem dX4_canBe_1 : decode cX4_canBe 1 = .ok (.ifCond .lt 82, 3) := by decide +kernel
theorem dX4_canBe_4 : decode cX4_canBe 4 = .ok (.iload_n 0, 1) := by decide +kernel
theorem dX4_canBe_5 : decode cX4_canBe 5 = .ok (.ldc 16, 2) := by decide +kernel
theorem dX4_canBe_7 : decode cX4_canBe 7 = .ok (.idiv, 1) := by decide +kernel
theorem dX4_canBe_8 : decode cX4_canBe 8 = .ok (.bipush 30, 2) := by decide +kernel
theorem dX4_canBe_10 : decode cX4_canBe 10 = .ok (.if_icmp .gt 73, 3) := by decide +kernel
theorem dX4_canBe_13 : decode cX4_canBe 13 = .ok (.iload_n 0, 1) := by decide +kernel
theorem dX4_canBe_14 : decode cX4_canBe 14 = .ok (.ldc 20, 2) := by decide +kernel
theorem dX4_canBe_16 : decode cX4_canBe 16 = .ok (.idiv, 1) := by decide +kernel
theorem dX4_canBe_17 : decode cX4_canBe 17 = .ok (.bipush 10, 2) := by decide +kernel
theorem dX4_canBe_19 : decode cX4_canBe 19 = .ok (.irem, 1) := by decide +kernel
theorem dX4_canBe_20 : decode cX4_canBe 20 = .ok (.iconst 3, 1) := by decide +kernel
theorem dX4_canBe_21 : decode cX4_canBe 21 = .ok (.if_icmp .gt 62, 3) := by decide +kernel
theorem dX4_canBe_24 : decode cX4_canBe 24 = .ok (.iload_n 0, 1) := by decide +kernel
theorem dX4_canBe_25 : decode cX4_canBe 25 = .ok (.sipush 10000, 3) := by decide +kernel
theorem dX4_canBe_28 : decode cX4_canBe 28 = .ok (.idiv, 1) := by decide +kernel
theorem dX4_canBe_29 : decode cX4_canBe 29 = .ok (.bipush 10, 2) := by decide +kernel
theorem dX4_canBe_31 : decode cX4_canBe 31 = .ok (.irem, 1) := by decide +kernel
theorem dX4_canBe_32 : decode cX4_canBe 32 = .ok (.bipush 7, 2) := by decide +kernel
theorem dX4_canBe_34 : decode cX4_canBe 34 = .ok (.if_icmp .gt 49, 3) := by decide +kernel
theorem dX4_canBe_37 : decode cX4_canBe 37 = .ok (.iload_n 0, 1) := by decide +kernel
theorem dX4_canBe_38 : decode cX4_canBe 38 = .ok (.sipush 1000, 3) := by decide +kernel
theorem dX4_canBe_41 : decode cX4_canBe 41 = .ok (.idiv, 1) := by decide +kernel
theorem dX4_canBe_42 : decode cX4_canBe 42 = .ok (.bipush 10, 2) := by decide +kernel
theorem dX4_canBe_44 : decode cX4_canBe 44 = .ok (.irem, 1) := by decide +kernel
theorem dX4_canBe_45 : decode cX4_canBe 45 = .ok (.iconst 2, 1) := by decide +kernel
theorem dX4_canBe_46 : decode cX4_canBe 46 = .ok (.if_icmp .gt 37, 3) := by decide +kernel
theorem dX4_canBe_49 : decode cX4_canBe 49 = .ok (.iload_n 0, 1) := by decide +kernel
theorem dX4_canBe_50 : decode cX4_canBe 50 = .ok (.sipush 1000, 3) := by decide +kernel
theorem dX4_canBe_53 : decode cX4_canBe 53 = .ok (.irem, 1) := by decide +kernel
theorem dX4_canBe_54 : decode cX4_canBe 54 = .ok (.iconst 1, 1) := by decide +kernel
theorem dX4_canBe_55 : decode cX4_canBe 55 = .ok (.if_icmp .lt 28, 3) := by decide +kernel
theorem dX4_canBe_58 : decode cX4_canBe 58 = .ok (.iload_n 0, 1) := by decide +kernel
theorem dX4_canBe_59 : decode cX4_canBe 59 = .ok (.sipush 1000, 3) := by decide +kernel
theorem dX4_canBe_62 : decode cX4_canBe 62 = .ok (.irem, 1) := by decide +kernel
theorem dX4_canBe_63 : decode cX4_canBe 63 = .ok (.sipush 400, 3) := by decide +kernel
theorem dX4_canBe_66 : decode cX4_canBe 66 = .ok (.if_icmp .gt 17, 3) := by decide +kernel
theorem dX4_canBe_69 : decode cX4_canBe 69 = .ok (.iload_n 1, 1) := by decide +kernel
theorem dX4_canBe_70 : decode cX4_canBe 70 = .ok (.ifCond .lt 13, 3) := by decide +kernel
theorem dX4_canBe_73 : decode cX4_canBe 73 = .ok (.iload_n 1, 1) := by decide +kernel
theorem dX4_canBe_74 : decode cX4_canBe 74 = .ok (.bipush 30, 2) := by decide +kernel
theorem dX4_canBe_76 : decode cX4_canBe 76 = .ok (.if_icmp .gt 7, 3) := by decide +kernel
theorem dX4_canBe_79 : decode cX4_canBe 79 = .ok (.iconst 1, 1) := by decide +kernel
theorem dX4_canBe_80 : decode cX4_canBe 80 = .ok (.goto 4, 3) := by decide +kernel
theorem dX4_canBe_83 : decode cX4_canBe 83 = .ok (.iconst 0, 1) := by decide +kernel
theorem dX4_canBe_84 : decode cX4_canBe 84 = .ok (.ireturn, 1) := by decide +kernel
theorem dX4_wantsPaper_0 : decode cX4_wantsPaper 0 = .ok (.aload_n 0, 1) := by decide +kernel
theorem dX4_wantsPaper_1 : decode cX4_wantsPaper 1 = .ok (.getfield 24, 3) := by decide +kernel
theorem dX4_wantsPaper_4 : decode cX4_wantsPaper 4 = .ok (.iload_n 1, 1) := by decide +kernel
theorem dX4_wantsPaper_5 : decode cX4_wantsPaper 5 = .ok (.ishr, 1) := by decide +kernel
theorem dX4_wantsPaper_6 : decode cX4_wantsPaper 6 = .ok (.iconst 1, 1) := by decide +kernel
theorem dX4_wantsPaper_7 : decode cX4_wantsPaper 7 = .ok (.iand, 1) := by decide +kernel
theorem dX4_wantsPaper_8 : decode cX4_wantsPaper 8 = .ok (.ifCond .eq 7, 3) := by decide +kernel
theorem dX4_wantsPaper_11 : decode cX4_wantsPaper 11 = .ok (.iconst 1, 1) := by decide +kernel
theorem dX4_wantsPaper_12 : decode cX4_wantsPaper 12 = .ok (.goto 4, 3) := by decide +kernel
theorem dX4_wantsPaper_15 : decode cX4_wantsPaper 15 = .ok (.iconst 0, 1) := by decide +kernel
theorem dX4_wantsPaper_16 : decode cX4_wantsPaper 16 = .ok (.ireturn, 1) := by decide +kernel
theorem dX5_init_0 : decode cX5_init 0 = .ok (.aload_n 0, 1) := by decide +kernel
theorem dX5_init_1 : decode cX5_init 1 = .ok (.invokespecial 3, 3) := by decide +kernel
theorem dX5_init_4 : decode cX5_init 4 = .ok (.aload_n 0, 1) := by decide +kernel
theorem dX5_init_5 : decode cX5_init 5 = .ok (.new 9, 3) := by decide +kernel
theorem dX5_init_8 : decode cX5_init 8 = .ok (.dup, 1) := by decide +kernel
theorem dX5_init_9 : decode cX5_init 9 = .ok (.invokespecial 11, 3) := by decide +kernel
theorem dX5_init_12 : decode cX5_init 12 = .ok (.putfield 12, 3) := by decide +kernel
theorem dX5_init_15 : decode cX5_init 15 = .ok (.aload_n 0, 1) := by decide +kernel
theorem dX5_init_16 : decode cX5_init 16 = .ok (.new 18, 3) := by decide +kernel
theorem dX5_init_19 : decode cX5_init 19 = .ok (.dup, 1) := by decide +kernel
theorem dX5_init_20 : decode cX5_init 20 = .ok (.iconst (-1), 1) := by decide +kernel
theorem dX5_init_21 : decode cX5_init 21 = .ok (.iconst (-1), 1) := by decide +kernel
theorem dX5_init_22 : decode cX5_init 22 = .ok (.iconst 1, 1) := by decide +kernel
theorem dX5_init_23 : decode cX5_init 23 = .ok (.iconst 0, 1) := by decide +kernel
theorem dX5_init_24 : decode cX5_init 24 = .ok (.invokespecial 20, 3) := by decide +kernel
theorem dX5_init_27 : decode cX5_init 27 = .ok (.putfield 23, 3) := by decide +kernel
theorem dX5_init_30 : decode cX5_init 30 = .ok (.return_, 1) := by decide +kernel
theorem dX5_isFull_0 : decode cX5_isFull 0 = .ok (.aload_n 0, 1) := by decide +kernel
theorem dX5_isFull_1 : decode cX5_isFull 1 = .ok (.getfield 12, 3) := by decide +kernel
theorem dX5_isFull_4 : decode cX5_isFull 4 = .ok (.invokevirtual 27, 3) := by decide +kernel
theorem dX5_isFull_7 : decode cX5_isFull 7 = .ok (.bipush 60, 2) := by decide +kernel
theorem dX5_isFull_9 : decode cX5_isFull 9 = .ok (.if_icmp .lt 7, 3) := by decide +kernel
theorem dX5_isFull_12 : decode cX5_isFull 12 = .ok (.iconst 1, 1) := by decide +kernel
theorem dX5_isFull_13 : decode cX5_isFull 13 = .ok (.goto 4, 3) := by decide +kernel
theorem dX5_isFull_16 : decode cX5_isFull 16 = .ok (.iconst 0, 1) := by decide +kernel
theorem dX5_isFull_17 : decode cX5_isFull 17 = .ok (.ireturn, 1) := by decide +kernel
theorem dX5_tell_0 : decode cX5_tell 0 = .ok (.aload_n 0, 1) := by decide +kernel
theorem dX5_tell_1 : decode cX5_tell 1 = .ok (.getfield 12, 3) := by decide +kernel
theorem dX5_tell_4 : decode cX5_tell 4 = .ok (.aload_n 1, 1) := by decide +kernel
theorem dX5_tell_5 : decode cX5_tell 5 = .ok (.invokevirtual 31, 3) := by decide +kernel
theorem dX5_tell_8 : decode cX5_tell 8 = .ok (.pop, 1) := by decide +kernel
theorem dX5_tell_9 : decode cX5_tell 9 = .ok (.return_, 1) := by decide +kernel
theorem dX5_inForce_0 : decode cX5_inForce 0 = .ok (.aload_n 0, 1) := by decide +kernel
theorem dX5_inForce_1 : decode cX5_inForce 1 = .ok (.getfield 23, 3) := by decide +kernel
theorem dX5_inForce_4 : decode cX5_inForce 4 = .ok (.astore_n 3, 1) := by decide +kernel
theorem dX5_inForce_5 : decode cX5_inForce 5 = .ok (.iconst 0, 1) := by decide +kernel
theorem dX5_inForce_6 : decode cX5_inForce 6 = .ok (.istore 4, 2) := by decide +kernel
theorem dX5_inForce_8 : decode cX5_inForce 8 = .ok (.iload 4, 2) := by decide +kernel
theorem dX5_inForce_10 : decode cX5_inForce 10 = .ok (.aload_n 0, 1) := by decide +kernel
theorem dX5_inForce_11 : decode cX5_inForce 11 = .ok (.getfield 12, 3) := by decide +kernel
theorem dX5_inForce_14 : decode cX5_inForce 14 = .ok (.invokevirtual 27, 3) := by decide +kernel
theorem dX5_inForce_17 : decode cX5_inForce 17 = .ok (.if_icmp .ge 56, 3) := by decide +kernel
theorem dX5_inForce_20 : decode cX5_inForce 20 = .ok (.aload_n 0, 1) := by decide +kernel
theorem dX5_inForce_21 : decode cX5_inForce 21 = .ok (.getfield 12, 3) := by decide +kernel
theorem dX5_inForce_24 : decode cX5_inForce 24 = .ok (.iload 4, 2) := by decide +kernel
theorem dX5_inForce_26 : decode cX5_inForce 26 = .ok (.invokevirtual 35, 3) := by decide +kernel
theorem dX5_inForce_29 : decode cX5_inForce 29 = .ok (.checkcast 18, 3) := by decide +kernel
theorem dX5_inForce_32 : decode cX5_inForce 32 = .ok (.astore 5, 2) := by decide +kernel
theorem dX5_inForce_34 : decode cX5_inForce 34 = .ok (.aload 5, 2) := by decide +kernel
theorem dX5_inForce_36 : decode cX5_inForce 36 = .ok (.getfield 39, 3) := by decide +kernel
theorem dX5_inForce_39 : decode cX5_inForce 39 = .ok (.iload_n 1, 1) := by decide +kernel
theorem dX5_inForce_40 : decode cX5_inForce 40 = .ok (.if_icmp .ne 27, 3) := by decide +kernel
theorem dX5_inForce_43 : decode cX5_inForce 43 = .ok (.aload 5, 2) := by decide +kernel
theorem dX5_inForce_45 : decode cX5_inForce 45 = .ok (.getfield 43, 3) := by decide +kernel
theorem dX5_inForce_48 : decode cX5_inForce 48 = .ok (.iload_n 2, 1) := by decide +kernel
theorem dX5_inForce_49 : decode cX5_inForce 49 = .ok (.if_icmp .gt 18, 3) := by decide +kernel
theorem dX5_inForce_52 : decode cX5_inForce 52 = .ok (.aload 5, 2) := by decide +kernel
theorem dX5_inForce_54 : decode cX5_inForce 54 = .ok (.getfield 43, 3) := by decide +kernel
theorem dX5_inForce_57 : decode cX5_inForce 57 = .ok (.aload_n 3, 1) := by decide +kernel
theorem dX5_inForce_58 : decode cX5_inForce 58 = .ok (.getfield 43, 3) := by decide +kernel
theorem dX5_inForce_61 : decode cX5_inForce 61 = .ok (.if_icmp .lt 6, 3) := by decide +kernel
theorem dX5_inForce_64 : decode cX5_inForce 64 = .ok (.aload 5, 2) := by decide +kernel
theorem dX5_inForce_66 : decode cX5_inForce 66 = .ok (.astore_n 3, 1) := by decide +kernel
theorem dX5_inForce_67 : decode cX5_inForce 67 = .ok (.iinc 4 1, 3) := by decide +kernel
theorem dX5_inForce_70 : decode cX5_inForce 70 = .ok (.goto (-62), 3) := by decide +kernel
theorem dX5_inForce_73 : decode cX5_inForce 73 = .ok (.aload_n 3, 1) := by decide +kernel
theorem dX5_inForce_74 : decode cX5_inForce 74 = .ok (.areturn, 1) := by decide +kernel
theorem dX6_init_0 : decode cX6_init 0 = .ok (.aload_n 0, 1) := by decide +kernel
theorem dX6_init_1 : decode cX6_init 1 = .ok (.invokespecial 3, 3) := by decide +kernel
theorem dX6_init_4 : decode cX6_init 4 = .ok (.aload_n 0, 1) := by decide +kernel
theorem dX6_init_5 : decode cX6_init 5 = .ok (.iload_n 1, 1) := by decide +kernel
theorem dX6_init_6 : decode cX6_init 6 = .ok (.putfield 9, 3) := by decide +kernel
theorem dX6_init_9 : decode cX6_init 9 = .ok (.aload_n 0, 1) := by decide +kernel
theorem dX6_init_10 : decode cX6_init 10 = .ok (.aload_n 2, 1) := by decide +kernel
theorem dX6_init_11 : decode cX6_init 11 = .ok (.putfield 15, 3) := by decide +kernel
theorem dX6_init_14 : decode cX6_init 14 = .ok (.aload_n 0, 1) := by decide +kernel
theorem dX6_init_15 : decode cX6_init 15 = .ok (.aload_n 3, 1) := by decide +kernel
theorem dX6_init_16 : decode cX6_init 16 = .ok (.putfield 19, 3) := by decide +kernel
theorem dX6_init_19 : decode cX6_init 19 = .ok (.aload_n 0, 1) := by decide +kernel
theorem dX6_init_20 : decode cX6_init 20 = .ok (.iload 4, 2) := by decide +kernel
theorem dX6_init_22 : decode cX6_init 22 = .ok (.putfield 22, 3) := by decide +kernel
theorem dX6_init_25 : decode cX6_init 25 = .ok (.aload_n 0, 1) := by decide +kernel
theorem dX6_init_26 : decode cX6_init 26 = .ok (.iconst 0, 1) := by decide +kernel
theorem dX6_init_27 : decode cX6_init 27 = .ok (.putfield 25, 3) := by decide +kernel
theorem dX6_init_30 : decode cX6_init 30 = .ok (.aload_n 0, 1) := by decide +kernel
theorem dX6_init_31 : decode cX6_init 31 = .ok (.iconst 0, 1) := by decide +kernel
theorem dX6_init_32 : decode cX6_init 32 = .ok (.putfield 28, 3) := by decide +kernel
theorem dX6_init_35 : decode cX6_init 35 = .ok (.aload_n 0, 1) := by decide +kernel
theorem dX6_init_36 : decode cX6_init 36 = .ok (.iconst (-1), 1) := by decide +kernel
theorem dX6_init_37 : decode cX6_init 37 = .ok (.putfield 31, 3) := by decide +kernel
theorem dX6_init_40 : decode cX6_init 40 = .ok (.aload_n 0, 1) := by decide +kernel
theorem dX6_init_41 : decode cX6_init 41 = .ok (.iconst (-1), 1) := by decide +kernel
theorem dX6_init_42 : decode cX6_init 42 = .ok (.putfield 34, 3) := by decide +kernel
theorem dX6_init_45 : decode cX6_init 45 = .ok (.return_, 1) := by decide +kernel
theorem dX6_isOf_0 : decode cX6_isOf 0 = .ok (.aload_n 0, 1) := by decide +kernel
theorem dX6_isOf_1 : decode cX6_isOf 1 = .ok (.getfield 15, 3) := by decide +kernel
theorem dX6_isOf_4 : decode cX6_isOf 4 = .ok (.aload_n 1, 1) := by decide +kernel
theorem dX6_isOf_5 : decode cX6_isOf 5 = .ok (.if_acmp .ne 11, 3) := by decide +kernel
theorem dX6_isOf_8 : decode cX6_isOf 8 = .ok (.aload_n 0, 1) := by decide +kernel
theorem dX6_isOf_9 : decode cX6_isOf 9 = .ok (.getfield 19, 3) := by decide +kernel
theorem dX6_isOf_12 : decode cX6_isOf 12 = .ok (.aload_n 2, 1) := by decide +kernel
theorem dX6_isOf_13 : decode cX6_isOf 13 = .ok (.if_acmp .eq 19, 3) := by decide +kernel
theorem dX6_isOf_16 : decode cX6_isOf 16 = .ok (.aload_n 0, 1) := by decide +kernel
theorem dX6_isOf_17 : decode cX6_isOf 17 = .ok (.getfield 15, 3) := by decide +kernel
theorem dX6_isOf_20 : decode cX6_isOf 20 = .ok (.aload_n 2, 1) := by decide +kernel
theorem dX6_isOf_21 : decode cX6_isOf 21 = .ok (.if_acmp .ne 15, 3) := by decide +kernel
theorem dX6_isOf_24 : decode cX6_isOf 24 = .ok (.aload_n 0, 1) := by decide +kernel
theorem dX6_isOf_25 : decode cX6_isOf 25 = .ok (.getfield 19, 3) := by decide +kernel
theorem dX6_isOf_28 : decode cX6_isOf 28 = .ok (.aload_n 1, 1) := by decide +kernel
theorem dX6_isOf_29 : decode cX6_isOf 29 = .ok (.if_acmp .ne 7, 3) := by decide +kernel
theorem dX6_isOf_32 : decode cX6_isOf 32 = .ok (.iconst 1, 1) := by decide +kernel
theorem dX6_isOf_33 : decode cX6_isOf 33 = .ok (.goto 4, 3) := by decide +kernel
theorem dX6_isOf_36 : decode cX6_isOf 36 = .ok (.iconst 0, 1) := by decide +kernel
theorem dX6_isOf_37 : decode cX6_isOf 37 = .ok (.ireturn, 1) := by decide +kernel
theorem dX6_isBooked_0 : decode cX6_isBooked 0 = .ok (.aload_n 0, 1) := by decide +kernel
theorem dX6_isBooked_1 : decode cX6_isBooked 1 = .ok (.getfield 31, 3) := by decide +kernel
theorem dX6_isBooked_4 : decode cX6_isBooked 4 = .ok (.iconst (-1), 1) := by decide +kernel
theorem dX6_isBooked_5 : decode cX6_isBooked 5 = .ok (.if_icmp .eq 7, 3) := by decide +kernel
theorem dX6_isBooked_8 : decode cX6_isBooked 8 = .ok (.iconst 1, 1) := by decide +kernel
theorem dX6_isBooked_9 : decode cX6_isBooked 9 = .ok (.goto 4, 3) := by decide +kernel
theorem dX6_isBooked_12 : decode cX6_isBooked 12 = .ok (.iconst 0, 1) := by decide +kernel
theorem dX6_isBooked_13 : decode cX6_isBooked 13 = .ok (.ireturn, 1) := by decide +kernel
theorem dX6_setBooking_0 : decode cX6_setBooking 0 = .ok (.aload_n 0, 1) := by decide +kernel
theorem dX6_setBooking_1 : decode cX6_setBooking 1 = .ok (.iload_n 1, 1) := by decide +kernel
theorem dX6_setBooking_2 : decode cX6_setBooking 2 = .ok (.putfield 31, 3) := by decide +kernel
theorem dX6_setBooking_5 : decode cX6_setBooking 5 = .ok (.aload_n 0, 1) := by decide +kernel
theorem dX6_setBooking_6 : decode cX6_setBooking 6 = .ok (.iload_n 2, 1) := by decide +kernel
theorem dX6_setBooking_7 : decode cX6_setBooking 7 = .ok (.putfield 34, 3) := by decide +kernel
theorem dX6_setBooking_10 : decode cX6_setBooking 10 = .ok (.return_, 1) := by decide +kernel
theorem dX7_init_0 : decode cX7_init 0 = .ok (.aload_n 0, 1) := by decide +kernel
theorem dX7_init_1 : decode cX7_init 1 = .ok (.invokespecial 1, 3) := by decide +kernel
theorem dX7_init_4 : decode cX7_init 4 = .ok (.aload_n 0, 1) := by decide +kernel
theorem dX7_init_5 : decode cX7_init 5 = .ok (.aload_n 1, 1) := by decide +kernel
theorem dX7_init_6 : decode cX7_init 6 = .ok (.putfield 7, 3) := by decide +kernel
theorem dX7_init_9 : decode cX7_init 9 = .ok (.aload_n 0, 1) := by decide +kernel
theorem dX7_init_10 : decode cX7_init 10 = .ok (.iconst 1, 1) := by decide +kernel
theorem dX7_init_11 : decode cX7_init 11 = .ok (.putfield 13, 3) := by decide +kernel
theorem dX7_init_14 : decode cX7_init 14 = .ok (.return_, 1) := by decide +kernel
theorem dX8_init_0 : decode cX8_init 0 = .ok (.aload_n 0, 1) := by decide +kernel
theorem dX8_init_1 : decode cX8_init 1 = .ok (.invokespecial 1, 3) := by decide +kernel
theorem dX8_init_4 : decode cX8_init 4 = .ok (.aload_n 0, 1) := by decide +kernel
theorem dX8_init_5 : decode cX8_init 5 = .ok (.iload_n 1, 1) := by decide +kernel
theorem dX8_init_6 : decode cX8_init 6 = .ok (.putfield 7, 3) := by decide +kernel
theorem dX8_init_9 : decode cX8_init 9 = .ok (.aload_n 0, 1) := by decide +kernel
theorem dX8_init_10 : decode cX8_init 10 = .ok (.iload_n 2, 1) := by decide +kernel
theorem dX8_init_11 : decode cX8_init 11 = .ok (.putfield 13, 3) := by decide +kernel
theorem dX8_init_14 : decode cX8_init 14 = .ok (.return_, 1) := by decide +kernel
theorem dX9_init_0 : decode cX9_init 0 = .ok (.aload_n 0, 1) := by decide +kernel
theorem dX9_init_1 : decode cX9_init 1 = .ok (.invokespecial 3, 3) := by decide +kernel
theorem dX9_init_4 : decode cX9_init 4 = .ok (.aload_n 0, 1) := by decide +kernel
theorem dX9_init_5 : decode cX9_init 5 = .ok (.iload_n 1, 1) := by decide +kernel
theorem dX9_init_6 : decode cX9_init 6 = .ok (.putfield 9, 3) := by decide +kernel
theorem dX9_init_9 : decode cX9_init 9 = .ok (.aload_n 0, 1) := by decide +kernel
theorem dX9_init_10 : decode cX9_init 10 = .ok (.iload_n 2, 1) := by decide +kernel
theorem dX9_init_11 : decode cX9_init 11 = .ok (.ldc 15, 2) := by decide +kernel
theorem dX9_init_13 : decode cX9_init 13 = .ok (.idiv, 1) := by decide +kernel
theorem dX9_init_14 : decode cX9_init 14 = .ok (.putfield 16, 3) := by decide +kernel
theorem dX9_init_17 : decode cX9_init 17 = .ok (.aload_n 0, 1) := by decide +kernel
theorem dX9_init_18 : decode cX9_init 18 = .ok (.iload_n 2, 1) := by decide +kernel
theorem dX9_init_19 : decode cX9_init 19 = .ok (.sipush 10000, 3) := by decide +kernel
theorem dX9_init_22 : decode cX9_init 22 = .ok (.idiv, 1) := by decide +kernel
theorem dX9_init_23 : decode cX9_init 23 = .ok (.bipush 100, 2) := by decide +kernel
theorem dX9_init_25 : decode cX9_init 25 = .ok (.irem, 1) := by decide +kernel
theorem dX9_init_26 : decode cX9_init 26 = .ok (.putfield 19, 3) := by decide +kernel
theorem dX9_init_29 : decode cX9_init 29 = .ok (.aload_n 0, 1) := by decide +kernel
theorem dX9_init_30 : decode cX9_init 30 = .ok (.iload_n 2, 1) := by decide +kernel
theorem dX9_init_31 : decode cX9_init 31 = .ok (.sipush 10000, 3) := by decide +kernel
theorem dX9_init_34 : decode cX9_init 34 = .ok (.irem, 1) := by decide +kernel
theorem dX9_init_35 : decode cX9_init 35 = .ok (.putfield 22, 3) := by decide +kernel
theorem dX9_init_38 : decode cX9_init 38 = .ok (.aload_n 0, 1) := by decide +kernel
theorem dX9_init_39 : decode cX9_init 39 = .ok (.iload_n 3, 1) := by decide +kernel
theorem dX9_init_40 : decode cX9_init 40 = .ok (.putfield 25, 3) := by decide +kernel
theorem dX9_init_43 : decode cX9_init 43 = .ok (.aload_n 0, 1) := by decide +kernel
theorem dX9_init_44 : decode cX9_init 44 = .ok (.aload 4, 2) := by decide +kernel
theorem dX9_init_46 : decode cX9_init 46 = .ok (.putfield 28, 3) := by decide +kernel
theorem dX9_init_49 : decode cX9_init 49 = .ok (.aload_n 0, 1) := by decide +kernel
theorem dX9_init_50 : decode cX9_init 50 = .ok (.aload 5, 2) := by decide +kernel
theorem dX9_init_52 : decode cX9_init 52 = .ok (.putfield 32, 3) := by decide +kernel
theorem dX9_init_55 : decode cX9_init 55 = .ok (.aload_n 0, 1) := by decide +kernel
theorem dX9_init_56 : decode cX9_init 56 = .ok (.new 35, 3) := by decide +kernel
theorem dX9_init_59 : decode cX9_init 59 = .ok (.dup, 1) := by decide +kernel
theorem dX9_init_60 : decode cX9_init 60 = .ok (.invokespecial 37, 3) := by decide +kernel
theorem dX9_init_63 : decode cX9_init 63 = .ok (.putfield 38, 3) := by decide +kernel
theorem dX9_init_66 : decode cX9_init 66 = .ok (.aload_n 0, 1) := by decide +kernel
theorem dX9_init_67 : decode cX9_init 67 = .ok (.aconst_null, 1) := by decide +kernel
theorem dX9_init_68 : decode cX9_init 68 = .ok (.putfield 42, 3) := by decide +kernel
theorem dX9_init_71 : decode cX9_init 71 = .ok (.return_, 1) := by decide +kernel
theorem dX9_canBe_0 : decode cX9_canBe 0 = .ok (.iload_n 0, 1) := by decide +kernel
theorem dX9_canBe_1 : decode cX9_canBe 1 = .ok (.ifCond .lt 38, 3) := by decide +kernel
theorem dX9_canBe_4 : decode cX9_canBe 4 = .ok (.iload_n 0, 1) := by decide +kernel
theorem dX9_canBe_5 : decode cX9_canBe 5 = .ok (.ldc 15, 2) := by decide +kernel
theorem dX9_canBe_7 : decode cX9_canBe 7 = .ok (.idiv, 1) := by decide +kernel
theorem dX9_canBe_8 : decode cX9_canBe 8 = .ok (.bipush 6, 2) := by decide +kernel
theorem dX9_canBe_10 : decode cX9_canBe 10 = .ok (.if_icmp .ge 29, 3) := by decide +kernel
theorem dX9_canBe_13 : decode cX9_canBe 13 = .ok (.iload_n 0, 1) := by decide +kernel
theorem dX9_canBe_14 : decode cX9_canBe 14 = .ok (.sipush 10000, 3) := by decide +kernel
theorem dX9_canBe_17 : decode cX9_canBe 17 = .ok (.idiv, 1) := by decide +kernel
theorem dX9_canBe_18 : decode cX9_canBe 18 = .ok (.bipush 100, 2) := by decide +kernel
theorem dX9_canBe_20 : decode cX9_canBe 20 = .ok (.irem, 1) := by decide +kernel
theorem dX9_canBe_21 : decode cX9_canBe 21 = .ok (.bipush 31, 2) := by decide +kernel
theorem dX9_canBe_23 : decode cX9_canBe 23 = .ok (.if_icmp .gt 16, 3) := by decide +kernel
theorem dX9_canBe_26 : decode cX9_canBe 26 = .ok (.iload_n 0, 1) := by decide +kernel
theorem dX9_canBe_27 : decode cX9_canBe 27 = .ok (.sipush 10000, 3) := by decide +kernel
theorem dX9_canBe_30 : decode cX9_canBe 30 = .ok (.irem, 1) := by decide +kernel
theorem dX9_canBe_31 : decode cX9_canBe 31 = .ok (.iconst 1, 1) := by decide +kernel
theorem dX9_canBe_32 : decode cX9_canBe 32 = .ok (.if_icmp .lt 7, 3) := by decide +kernel
theorem dX9_canBe_35 : decode cX9_canBe 35 = .ok (.iconst 1, 1) := by decide +kernel
theorem dX9_canBe_36 : decode cX9_canBe 36 = .ok (.goto 4, 3) := by decide +kernel
theorem dX9_canBe_39 : decode cX9_canBe 39 = .ok (.iconst 0, 1) := by decide +kernel
theorem dX9_canBe_40 : decode cX9_canBe 40 = .ok (.ireturn, 1) := by decide +kernel
theorem dX9_isChildOf_0 : decode cX9_isChildOf 0 = .ok (.aload_n 0, 1) := by decide +kernel
theorem dX9_isChildOf_1 : decode cX9_isChildOf 1 = .ok (.getfield 28, 3) := by decide +kernel
theorem dX9_isChildOf_4 : decode cX9_isChildOf 4 = .ok (.aload_n 1, 1) := by decide +kernel
theorem dX9_isChildOf_5 : decode cX9_isChildOf 5 = .ok (.if_acmp .eq 11, 3) := by decide +kernel
theorem dX9_isChildOf_8 : decode cX9_isChildOf 8 = .ok (.aload_n 0, 1) := by decide +kernel
theorem dX9_isChildOf_9 : decode cX9_isChildOf 9 = .ok (.getfield 32, 3) := by decide +kernel
theorem dX9_isChildOf_12 : decode cX9_isChildOf 12 = .ok (.aload_n 1, 1) := by decide +kernel
theorem dX9_isChildOf_13 : decode cX9_isChildOf 13 = .ok (.if_acmp .ne 7, 3) := by decide +kernel
theorem dX9_isChildOf_16 : decode cX9_isChildOf 16 = .ok (.iconst 1, 1) := by decide +kernel
theorem dX9_isChildOf_17 : decode cX9_isChildOf 17 = .ok (.goto 4, 3) := by decide +kernel
theorem dX9_isChildOf_20 : decode cX9_isChildOf 20 = .ok (.iconst 0, 1) := by decide +kernel
theorem dX9_isChildOf_21 : decode cX9_isChildOf 21 = .ok (.ireturn, 1) := by decide +kernel
theorem dX9_sharesParentWith_0 : decode cX9_sharesParentWith 0 = .ok (.aload_n 0, 1) := by decide +kernel
theorem dX9_sharesParentWith_1 : decode cX9_sharesParentWith 1 = .ok (.getfield 28, 3) := by decide +kernel
theorem dX9_sharesParentWith_4 : decode cX9_sharesParentWith 4 = .ok (.ifnull 14, 3) := by decide +kernel
theorem dX9_sharesParentWith_7 : decode cX9_sharesParentWith 7 = .ok (.aload_n 0, 1) := by decide +kernel
theorem dX9_sharesParentWith_8 : decode cX9_sharesParentWith 8 = .ok (.getfield 28, 3) := by decide +kernel
theorem dX9_sharesParentWith_11 : decode cX9_sharesParentWith 11 = .ok (.aload_n 1, 1) := by decide +kernel
theorem dX9_sharesParentWith_12 : decode cX9_sharesParentWith 12 = .ok (.getfield 28, 3) := by decide +kernel
theorem dX9_sharesParentWith_15 : decode cX9_sharesParentWith 15 = .ok (.if_acmp .eq 21, 3) := by decide +kernel
theorem dX9_sharesParentWith_18 : decode cX9_sharesParentWith 18 = .ok (.aload_n 0, 1) := by decide +kernel
theorem dX9_sharesParentWith_19 : decode cX9_sharesParentWith 19 = .ok (.getfield 32, 3) := by decide +kernel
theorem dX9_sharesParentWith_22 : decode cX9_sharesParentWith 22 = .ok (.ifnull 18, 3) := by decide +kernel
theorem dX9_sharesParentWith_25 : decode cX9_sharesParentWith 25 = .ok (.aload_n 0, 1) := by decide +kernel
theorem dX9_sharesParentWith_26 : decode cX9_sharesParentWith 26 = .ok (.getfield 32, 3) := by decide +kernel
theorem dX9_sharesParentWith_29 : decode cX9_sharesParentWith 29 = .ok (.aload_n 1, 1) := by decide +kernel
theorem dX9_sharesParentWith_30 : decode cX9_sharesParentWith 30 = .ok (.getfield 32, 3) := by decide +kernel
theorem dX9_sharesParentWith_33 : decode cX9_sharesParentWith 33 = .ok (.if_acmp .ne 7, 3) := by decide +kernel
theorem dX9_sharesParentWith_36 : decode cX9_sharesParentWith 36 = .ok (.iconst 1, 1) := by decide +kernel
theorem dX9_sharesParentWith_37 : decode cX9_sharesParentWith 37 = .ok (.goto 4, 3) := by decide +kernel
theorem dX9_sharesParentWith_40 : decode cX9_sharesParentWith 40 = .ok (.iconst 0, 1) := by decide +kernel
theorem dX9_sharesParentWith_41 : decode cX9_sharesParentWith 41 = .ok (.ireturn, 1) := by decide +kernel
theorem dX9_hasPaper_0 : decode cX9_hasPaper 0 = .ok (.iconst 0, 1) := by decide +kernel
theorem dX9_hasPaper_1 : decode cX9_hasPaper 1 = .ok (.istore 4, 2) := by decide +kernel
theorem dX9_hasPaper_3 : decode cX9_hasPaper 3 = .ok (.iload 4, 2) := by decide +kernel
theorem dX9_hasPaper_5 : decode cX9_hasPaper 5 = .ok (.aload_n 0, 1) := by decide +kernel
theorem dX9_hasPaper_6 : decode cX9_hasPaper 6 = .ok (.getfield 38, 3) := by decide +kernel
theorem dX9_hasPaper_9 : decode cX9_hasPaper 9 = .ok (.invokevirtual 45, 3) := by decide +kernel
theorem dX9_hasPaper_12 : decode cX9_hasPaper 12 = .ok (.if_icmp .ge 54, 3) := by decide +kernel
theorem dX9_hasPaper_15 : decode cX9_hasPaper 15 = .ok (.aload_n 0, 1) := by decide +kernel
theorem dX9_hasPaper_16 : decode cX9_hasPaper 16 = .ok (.getfield 38, 3) := by decide +kernel
theorem dX9_hasPaper_19 : decode cX9_hasPaper 19 = .ok (.iload 4, 2) := by decide +kernel
theorem dX9_hasPaper_21 : decode cX9_hasPaper 21 = .ok (.invokevirtual 49, 3) := by decide +kernel
theorem dX9_hasPaper_24 : decode cX9_hasPaper 24 = .ok (.checkcast 53, 3) := by decide +kernel
theorem dX9_hasPaper_27 : decode cX9_hasPaper 27 = .ok (.astore 5, 2) := by decide +kernel
theorem dX9_hasPaper_29 : decode cX9_hasPaper 29 = .ok (.aload 5, 2) := by decide +kernel
theorem dX9_hasPaper_31 : decode cX9_hasPaper 31 = .ok (.getfield 55, 3) := by decide +kernel
theorem dX9_hasPaper_34 : decode cX9_hasPaper 34 = .ok (.iload_n 1, 1) := by decide +kernel
theorem dX9_hasPaper_35 : decode cX9_hasPaper 35 = .ok (.if_icmp .ne 25, 3) := by decide +kernel
theorem dX9_hasPaper_38 : decode cX9_hasPaper 38 = .ok (.aload 5, 2) := by decide +kernel
theorem dX9_hasPaper_40 : decode cX9_hasPaper 40 = .ok (.getfield 58, 3) := by decide +kernel
theorem dX9_hasPaper_43 : decode cX9_hasPaper 43 = .ok (.iload_n 2, 1) := by decide +kernel
theorem dX9_hasPaper_44 : decode cX9_hasPaper 44 = .ok (.if_icmp .gt 16, 3) := by decide +kernel
theorem dX9_hasPaper_47 : decode cX9_hasPaper 47 = .ok (.iload_n 3, 1) := by decide +kernel
theorem dX9_hasPaper_48 : decode cX9_hasPaper 48 = .ok (.iload_n 2, 1) := by decide +kernel
theorem dX9_hasPaper_49 : decode cX9_hasPaper 49 = .ok (.aload 5, 2) := by decide +kernel
theorem dX9_hasPaper_51 : decode cX9_hasPaper 51 = .ok (.getfield 58, 3) := by decide +kernel
theorem dX9_hasPaper_54 : decode cX9_hasPaper 54 = .ok (.isub, 1) := by decide +kernel
theorem dX9_hasPaper_55 : decode cX9_hasPaper 55 = .ok (.if_icmp .le 5, 3) := by decide +kernel
theorem dX9_hasPaper_58 : decode cX9_hasPaper 58 = .ok (.iconst 1, 1) := by decide +kernel
theorem dX9_hasPaper_59 : decode cX9_hasPaper 59 = .ok (.ireturn, 1) := by decide +kernel
theorem dX9_hasPaper_60 : decode cX9_hasPaper 60 = .ok (.iinc 4 1, 3) := by decide +kernel
theorem dX9_hasPaper_63 : decode cX9_hasPaper 63 = .ok (.goto (-60), 3) := by decide +kernel
theorem dX9_hasPaper_66 : decode cX9_hasPaper 66 = .ok (.iconst 0, 1) := by decide +kernel
theorem dX9_hasPaper_67 : decode cX9_hasPaper 67 = .ok (.ireturn, 1) := by decide +kernel
theorem dJ13_bitCount_95d88_0 : decode cJ13_bitCount_95d88 0 = .ok (.lload_n 0, 1) := by decide +kernel
theorem dJ13_bitCount_95d88_1 : decode cJ13_bitCount_95d88 1 = .ok (.lload_n 0, 1) := by decide +kernel
theorem dJ13_bitCount_95d88_2 : decode cJ13_bitCount_95d88 2 = .ok (.iconst 1, 1) := by decide +kernel
theorem dJ13_bitCount_95d88_3 : decode cJ13_bitCount_95d88 3 = .ok (.lushr, 1) := by decide +kernel
theorem dJ13_bitCount_95d88_4 : decode cJ13_bitCount_95d88 4 = .ok (.ldc2_w 314, 3) := by decide +kernel
theorem dJ13_bitCount_95d88_7 : decode cJ13_bitCount_95d88 7 = .ok (.land, 1) := by decide +kernel
theorem dJ13_bitCount_95d88_8 : decode cJ13_bitCount_95d88 8 = .ok (.lsub, 1) := by decide +kernel
theorem dJ13_bitCount_95d88_9 : decode cJ13_bitCount_95d88 9 = .ok (.lstore_n 0, 1) := by decide +kernel
theorem dJ13_bitCount_95d88_10 : decode cJ13_bitCount_95d88 10 = .ok (.lload_n 0, 1) := by decide +kernel
theorem dJ13_bitCount_95d88_11 : decode cJ13_bitCount_95d88 11 = .ok (.ldc2_w 316, 3) := by decide +kernel
theorem dJ13_bitCount_95d88_14 : decode cJ13_bitCount_95d88 14 = .ok (.land, 1) := by decide +kernel
theorem dJ13_bitCount_95d88_15 : decode cJ13_bitCount_95d88 15 = .ok (.lload_n 0, 1) := by decide +kernel
theorem dJ13_bitCount_95d88_16 : decode cJ13_bitCount_95d88 16 = .ok (.iconst 2, 1) := by decide +kernel
theorem dJ13_bitCount_95d88_17 : decode cJ13_bitCount_95d88 17 = .ok (.lushr, 1) := by decide +kernel
theorem dJ13_bitCount_95d88_18 : decode cJ13_bitCount_95d88 18 = .ok (.ldc2_w 316, 3) := by decide +kernel
theorem dJ13_bitCount_95d88_21 : decode cJ13_bitCount_95d88 21 = .ok (.land, 1) := by decide +kernel
theorem dJ13_bitCount_95d88_22 : decode cJ13_bitCount_95d88 22 = .ok (.ladd, 1) := by decide +kernel
theorem dJ13_bitCount_95d88_23 : decode cJ13_bitCount_95d88 23 = .ok (.lstore_n 0, 1) := by decide +kernel
theorem dJ13_bitCount_95d88_24 : decode cJ13_bitCount_95d88 24 = .ok (.lload_n 0, 1) := by decide +kernel
theorem dJ13_bitCount_95d88_25 : decode cJ13_bitCount_95d88 25 = .ok (.lload_n 0, 1) := by decide +kernel
theorem dJ13_bitCount_95d88_26 : decode cJ13_bitCount_95d88 26 = .ok (.iconst 4, 1) := by decide +kernel
theorem dJ13_bitCount_95d88_27 : decode cJ13_bitCount_95d88 27 = .ok (.lushr, 1) := by decide +kernel
theorem dJ13_bitCount_95d88_28 : decode cJ13_bitCount_95d88 28 = .ok (.ladd, 1) := by decide +kernel
theorem dJ13_bitCount_95d88_29 : decode cJ13_bitCount_95d88 29 = .ok (.ldc2_w 318, 3) := by decide +kernel
theorem dJ13_bitCount_95d88_32 : decode cJ13_bitCount_95d88 32 = .ok (.land, 1) := by decide +kernel
theorem dJ13_bitCount_95d88_33 : decode cJ13_bitCount_95d88 33 = .ok (.lstore_n 0, 1) := by decide +kernel
theorem dJ13_bitCount_95d88_34 : decode cJ13_bitCount_95d88 34 = .ok (.lload_n 0, 1) := by decide +kernel
theorem dJ13_bitCount_95d88_35 : decode cJ13_bitCount_95d88 35 = .ok (.lload_n 0, 1) := by decide +kernel
theorem dJ13_bitCount_95d88_36 : decode cJ13_bitCount_95d88 36 = .ok (.bipush 8, 2) := by decide +kernel
theorem dJ13_bitCount_95d88_38 : decode cJ13_bitCount_95d88 38 = .ok (.lushr, 1) := by decide +kernel
theorem dJ13_bitCount_95d88_39 : decode cJ13_bitCount_95d88 39 = .ok (.ladd, 1) := by decide +kernel
theorem dJ13_bitCount_95d88_40 : decode cJ13_bitCount_95d88 40 = .ok (.lstore_n 0, 1) := by decide +kernel
theorem dJ13_bitCount_95d88_41 : decode cJ13_bitCount_95d88 41 = .ok (.lload_n 0, 1) := by decide +kernel
theorem dJ13_bitCount_95d88_42 : decode cJ13_bitCount_95d88 42 = .ok (.lload_n 0, 1) := by decide +kernel
theorem dJ13_bitCount_95d88_43 : decode cJ13_bitCount_95d88 43 = .ok (.bipush 16, 2) := by decide +kernel
theorem dJ13_bitCount_95d88_45 : decode cJ13_bitCount_95d88 45 = .ok (.lushr, 1) := by decide +kernel
theorem dJ13_bitCount_95d88_46 : decode cJ13_bitCount_95d88 46 = .ok (.ladd, 1) := by decide +kernel
theorem dJ13_bitCount_95d88_47 : decode cJ13_bitCount_95d88 47 = .ok (.lstore_n 0, 1) := by decide +kernel
theorem dJ13_bitCount_95d88_48 : decode cJ13_bitCount_95d88 48 = .ok (.lload_n 0, 1) := by decide +kernel
theorem dJ13_bitCount_95d88_49 : decode cJ13_bitCount_95d88 49 = .ok (.lload_n 0, 1) := by decide +kernel
theorem dJ13_bitCount_95d88_50 : decode cJ13_bitCount_95d88 50 = .ok (.bipush 32, 2) := by decide +kernel
theorem dJ13_bitCount_95d88_52 : decode cJ13_bitCount_95d88 52 = .ok (.lushr, 1) := by decide +kernel
theorem dJ13_bitCount_95d88_53 : decode cJ13_bitCount_95d88 53 = .ok (.ladd, 1) := by decide +kernel
theorem dJ13_bitCount_95d88_54 : decode cJ13_bitCount_95d88 54 = .ok (.lstore_n 0, 1) := by decide +kernel
theorem dJ13_bitCount_95d88_55 : decode cJ13_bitCount_95d88 55 = .ok (.lload_n 0, 1) := by decide +kernel
theorem dJ13_bitCount_95d88_56 : decode cJ13_bitCount_95d88 56 = .ok (.l2i, 1) := by decide +kernel
theorem dJ13_bitCount_95d88_57 : decode cJ13_bitCount_95d88 57 = .ok (.bipush 127, 2) := by decide +kernel
theorem dJ13_bitCount_95d88_59 : decode cJ13_bitCount_95d88 59 = .ok (.iand, 1) := by decide +kernel
theorem dJ13_bitCount_95d88_60 : decode cJ13_bitCount_95d88 60 = .ok (.ireturn, 1) := by decide +kernel
theorem dJ9_max_7cf53_0 : decode cJ9_max_7cf53 0 = .ok (.iload_n 0, 1) := by decide +kernel
theorem dJ9_max_7cf53_1 : decode cJ9_max_7cf53 1 = .ok (.iload_n 1, 1) := by decide +kernel
theorem dJ9_max_7cf53_2 : decode cJ9_max_7cf53 2 = .ok (.if_icmp .lt 7, 3) := by decide +kernel
theorem dJ9_max_7cf53_5 : decode cJ9_max_7cf53 5 = .ok (.iload_n 0, 1) := by decide +kernel
theorem dJ9_max_7cf53_6 : decode cJ9_max_7cf53 6 = .ok (.goto 4, 3) := by decide +kernel
theorem dJ9_max_7cf53_9 : decode cJ9_max_7cf53 9 = .ok (.iload_n 1, 1) := by decide +kernel
theorem dJ9_max_7cf53_10 : decode cJ9_max_7cf53 10 = .ok (.ireturn, 1) := by decide +kernel
theorem dJ9_min_7cf53_0 : decode cJ9_min_7cf53 0 = .ok (.iload_n 0, 1) := by decide +kernel
theorem dJ9_min_7cf53_1 : decode cJ9_min_7cf53 1 = .ok (.iload_n 1, 1) := by decide +kernel
theorem dJ9_min_7cf53_2 : decode cJ9_min_7cf53 2 = .ok (.if_icmp .gt 7, 3) := by decide +kernel
theorem dJ9_min_7cf53_5 : decode cJ9_min_7cf53 5 = .ok (.iload_n 0, 1) := by decide +kernel
theorem dJ9_min_7cf53_6 : decode cJ9_min_7cf53 6 = .ok (.goto 4, 3) := by decide +kernel
theorem dJ9_min_7cf53_9 : decode cJ9_min_7cf53 9 = .ok (.iload_n 1, 1) := by decide +kernel
theorem dJ9_min_7cf53_10 : decode cJ9_min_7cf53 10 = .ok (.ireturn, 1) := by decide +kernel
theorem dJxa1e45_init_da8c8_0 : decode cJxa1e45_init_da8c8 0 = .ok (.aload_n 0, 1) := by decide +kernel
theorem dJxa1e45_init_da8c8_1 : decode cJxa1e45_init_da8c8 1 = .ok (.invokespecial 1, 3) := by decide +kernel
theorem dJxa1e45_init_da8c8_4 : decode cJxa1e45_init_da8c8 4 = .ok (.return_, 1) := by decide +kernel
theorem dJxc12de_init_da8c8_0 : decode cJxc12de_init_da8c8 0 = .ok (.aload_n 0, 1) := by decide +kernel
theorem dJxc12de_init_da8c8_1 : decode cJxc12de_init_da8c8 1 = .ok (.invokespecial 1, 3) := by decide +kernel
theorem dJxc12de_init_da8c8_4 : decode cJxc12de_init_da8c8 4 = .ok (.aload_n 0, 1) := by decide +kernel
theorem dJxc12de_init_da8c8_5 : decode cJxc12de_init_da8c8 5 = .ok (.iconst 0, 1) := by decide +kernel
theorem dJxc12de_init_da8c8_6 : decode cJxc12de_init_da8c8 6 = .ok (.putfield 7, 3) := by decide +kernel
theorem dJxc12de_init_da8c8_9 : decode cJxc12de_init_da8c8 9 = .ok (.return_, 1) := by decide +kernel
theorem dJx4a65c_init_da8c8_0 : decode cJx4a65c_init_da8c8 0 = .ok (.aload_n 0, 1) := by decide +kernel
theorem dJx4a65c_init_da8c8_1 : decode cJx4a65c_init_da8c8 1 = .ok (.invokespecial 1, 3) := by decide +kernel
theorem dJx4a65c_init_da8c8_4 : decode cJx4a65c_init_da8c8 4 = .ok (.aload_n 0, 1) := by decide +kernel
theorem dJx4a65c_init_da8c8_5 : decode cJx4a65c_init_da8c8 5 = .ok (.getstatic 39, 3) := by decide +kernel
theorem dJx4a65c_init_da8c8_8 : decode cJx4a65c_init_da8c8 8 = .ok (.putfield 9, 3) := by decide +kernel
theorem dJx4a65c_init_da8c8_11 : decode cJx4a65c_init_da8c8 11 = .ok (.return_, 1) := by decide +kernel
theorem dJx4a65c_grow_92f84_0 : decode cJx4a65c_grow_92f84 0 = .ok (.aload_n 0, 1) := by decide +kernel
theorem dJx4a65c_grow_92f84_1 : decode cJx4a65c_grow_92f84 1 = .ok (.getfield 9, 3) := by decide +kernel
theorem dJx4a65c_grow_92f84_4 : decode cJx4a65c_grow_92f84 4 = .ok (.arraylength, 1) := by decide +kernel
theorem dJx4a65c_grow_92f84_5 : decode cJx4a65c_grow_92f84 5 = .ok (.istore_n 2, 1) := by decide +kernel
theorem dJx4a65c_grow_92f84_6 : decode cJx4a65c_grow_92f84 6 = .ok (.iload_n 2, 1) := by decide +kernel
theorem dJx4a65c_grow_92f84_7 : decode cJx4a65c_grow_92f84 7 = .ok (.ifCond .gt 13, 3) := by decide +kernel
theorem dJx4a65c_grow_92f84_10 : decode cJx4a65c_grow_92f84 10 = .ok (.aload_n 0, 1) := by decide +kernel
theorem dJx4a65c_grow_92f84_11 : decode cJx4a65c_grow_92f84 11 = .ok (.getfield 9, 3) := by decide +kernel
theorem dJx4a65c_grow_92f84_14 : decode cJx4a65c_grow_92f84 14 = .ok (.getstatic 39, 3) := by decide +kernel
theorem dJx4a65c_grow_92f84_17 : decode cJx4a65c_grow_92f84 17 = .ok (.if_acmp .eq 28, 3) := by decide +kernel
theorem dJx4a65c_grow_92f84_20 : decode cJx4a65c_grow_92f84 20 = .ok (.iload_n 2, 1) := by decide +kernel
theorem dJx4a65c_grow_92f84_21 : decode cJx4a65c_grow_92f84 21 = .ok (.iload_n 1, 1) := by decide +kernel
theorem dJx4a65c_grow_92f84_22 : decode cJx4a65c_grow_92f84 22 = .ok (.iload_n 2, 1) := by decide +kernel
theorem dJx4a65c_grow_92f84_23 : decode cJx4a65c_grow_92f84 23 = .ok (.isub, 1) := by decide +kernel
theorem dJx4a65c_grow_92f84_24 : decode cJx4a65c_grow_92f84 24 = .ok (.iload_n 2, 1) := by decide +kernel
theorem dJx4a65c_grow_92f84_25 : decode cJx4a65c_grow_92f84 25 = .ok (.iconst 1, 1) := by decide +kernel
theorem dJx4a65c_grow_92f84_26 : decode cJx4a65c_grow_92f84 26 = .ok (.ishr, 1) := by decide +kernel
theorem dJx4a65c_grow_92f84_27 : decode cJx4a65c_grow_92f84 27 = .ok (.invokestatic 73, 3) := by decide +kernel
theorem dJx4a65c_grow_92f84_30 : decode cJx4a65c_grow_92f84 30 = .ok (.istore_n 3, 1) := by decide +kernel
theorem dJx4a65c_grow_92f84_31 : decode cJx4a65c_grow_92f84 31 = .ok (.aload_n 0, 1) := by decide +kernel
theorem dJx4a65c_grow_92f84_32 : decode cJx4a65c_grow_92f84 32 = .ok (.aload_n 0, 1) := by decide +kernel
theorem dJx4a65c_grow_92f84_33 : decode cJx4a65c_grow_92f84 33 = .ok (.getfield 9, 3) := by decide +kernel
theorem dJx4a65c_grow_92f84_36 : decode cJx4a65c_grow_92f84 36 = .ok (.iload_n 3, 1) := by decide +kernel
theorem dJx4a65c_grow_92f84_37 : decode cJx4a65c_grow_92f84 37 = .ok (.invokestatic 66, 3) := by decide +kernel
theorem dJx4a65c_grow_92f84_40 : decode cJx4a65c_grow_92f84 40 = .ok (.dup_x1, 1) := by decide +kernel
theorem dJx4a65c_grow_92f84_41 : decode cJx4a65c_grow_92f84 41 = .ok (.putfield 9, 3) := by decide +kernel
theorem dJx4a65c_grow_92f84_44 : decode cJx4a65c_grow_92f84 44 = .ok (.areturn, 1) := by decide +kernel
theorem dJx4a65c_grow_92f84_45 : decode cJx4a65c_grow_92f84 45 = .ok (.aload_n 0, 1) := by decide +kernel
theorem dJx4a65c_grow_92f84_46 : decode cJx4a65c_grow_92f84 46 = .ok (.bipush 10, 2) := by decide +kernel
theorem dJx4a65c_grow_92f84_48 : decode cJx4a65c_grow_92f84 48 = .ok (.iload_n 1, 1) := by decide +kernel
theorem dJx4a65c_grow_92f84_49 : decode cJx4a65c_grow_92f84 49 = .ok (.invokestatic 79, 3) := by decide +kernel
theorem dJx4a65c_grow_92f84_52 : decode cJx4a65c_grow_92f84 52 = .ok (.anewarray 7, 3) := by decide +kernel
theorem dJx4a65c_grow_92f84_55 : decode cJx4a65c_grow_92f84 55 = .ok (.dup_x1, 1) := by decide +kernel
theorem dJx4a65c_grow_92f84_56 : decode cJx4a65c_grow_92f84 56 = .ok (.putfield 9, 3) := by decide +kernel
theorem dJx4a65c_grow_92f84_59 : decode cJx4a65c_grow_92f84 59 = .ok (.areturn, 1) := by decide +kernel
theorem dJx4a65c_grow_d5877_0 : decode cJx4a65c_grow_d5877 0 = .ok (.aload_n 0, 1) := by decide +kernel
theorem dJx4a65c_grow_d5877_1 : decode cJx4a65c_grow_d5877 1 = .ok (.aload_n 0, 1) := by decide +kernel
theorem dJx4a65c_grow_d5877_2 : decode cJx4a65c_grow_d5877 2 = .ok (.getfield 48, 3) := by decide +kernel
theorem dJx4a65c_grow_d5877_5 : decode cJx4a65c_grow_d5877 5 = .ok (.iconst 1, 1) := by decide +kernel
theorem dJx4a65c_grow_d5877_6 : decode cJx4a65c_grow_d5877 6 = .ok (.iadd, 1) := by decide +kernel
theorem dJx4a65c_grow_d5877_7 : decode cJx4a65c_grow_d5877 7 = .ok (.invokevirtual 69, 3) := by decide +kernel
theorem dJx4a65c_grow_d5877_10 : decode cJx4a65c_grow_d5877 10 = .ok (.areturn, 1) := by decide +kernel
theorem dJx4a65c_size_8abf5_0 : decode cJx4a65c_size_8abf5 0 = .ok (.aload_n 0, 1) := by decide +kernel
theorem dJx4a65c_size_8abf5_1 : decode cJx4a65c_size_8abf5 1 = .ok (.getfield 48, 3) := by decide +kernel
theorem dJx4a65c_size_8abf5_4 : decode cJx4a65c_size_8abf5 4 = .ok (.ireturn, 1) := by decide +kernel
theorem dJx4a65c_elementData_915e3_0 : decode cJx4a65c_elementData_915e3 0 = .ok (.aload_n 0, 1) := by decide +kernel
theorem dJx4a65c_elementData_915e3_1 : decode cJx4a65c_elementData_915e3 1 = .ok (.getfield 9, 3) := by decide +kernel
theorem dJx4a65c_elementData_915e3_4 : decode cJx4a65c_elementData_915e3 4 = .ok (.iload_n 1, 1) := by decide +kernel
theorem dJx4a65c_elementData_915e3_5 : decode cJx4a65c_elementData_915e3 5 = .ok (.aaload, 1) := by decide +kernel
theorem dJx4a65c_elementData_915e3_6 : decode cJx4a65c_elementData_915e3 6 = .ok (.areturn, 1) := by decide +kernel
theorem dJx4a65c_get_915e3_0 : decode cJx4a65c_get_915e3 0 = .ok (.iload_n 1, 1) := by decide +kernel
theorem dJx4a65c_get_915e3_1 : decode cJx4a65c_get_915e3 1 = .ok (.aload_n 0, 1) := by decide +kernel
theorem dJx4a65c_get_915e3_2 : decode cJx4a65c_get_915e3 2 = .ok (.getfield 48, 3) := by decide +kernel
theorem dJx4a65c_get_915e3_5 : decode cJx4a65c_get_915e3 5 = .ok (.invokestatic 118, 3) := by decide +kernel
theorem dJx4a65c_get_915e3_8 : decode cJx4a65c_get_915e3 8 = .ok (.pop, 1) := by decide +kernel
theorem dJx4a65c_get_915e3_9 : decode cJx4a65c_get_915e3 9 = .ok (.aload_n 0, 1) := by decide +kernel
theorem dJx4a65c_get_915e3_10 : decode cJx4a65c_get_915e3 10 = .ok (.iload_n 1, 1) := by decide +kernel
theorem dJx4a65c_get_915e3_11 : decode cJx4a65c_get_915e3 11 = .ok (.invokevirtual 123, 3) := by decide +kernel
theorem dJx4a65c_get_915e3_14 : decode cJx4a65c_get_915e3 14 = .ok (.areturn, 1) := by decide +kernel
theorem dJx4a65c_add_72be8_0 : decode cJx4a65c_add_72be8 0 = .ok (.iload_n 3, 1) := by decide +kernel
theorem dJx4a65c_add_72be8_1 : decode cJx4a65c_add_72be8 1 = .ok (.aload_n 2, 1) := by decide +kernel
theorem dJx4a65c_add_72be8_2 : decode cJx4a65c_add_72be8 2 = .ok (.arraylength, 1) := by decide +kernel
theorem dJx4a65c_add_72be8_3 : decode cJx4a65c_add_72be8 3 = .ok (.if_icmp .ne 8, 3) := by decide +kernel
theorem dJx4a65c_add_72be8_6 : decode cJx4a65c_add_72be8 6 = .ok (.aload_n 0, 1) := by decide +kernel
theorem dJx4a65c_add_72be8_7 : decode cJx4a65c_add_72be8 7 = .ok (.invokevirtual 129, 3) := by decide +kernel
theorem dJx4a65c_add_72be8_10 : decode cJx4a65c_add_72be8 10 = .ok (.astore_n 2, 1) := by decide +kernel
theorem dJx4a65c_add_72be8_11 : decode cJx4a65c_add_72be8 11 = .ok (.aload_n 2, 1) := by decide +kernel
theorem dJx4a65c_add_72be8_12 : decode cJx4a65c_add_72be8 12 = .ok (.iload_n 3, 1) := by decide +kernel
theorem dJx4a65c_add_72be8_13 : decode cJx4a65c_add_72be8 13 = .ok (.aload_n 1, 1) := by decide +kernel
theorem dJx4a65c_add_72be8_14 : decode cJx4a65c_add_72be8 14 = .ok (.aastore, 1) := by decide +kernel
theorem dJx4a65c_add_72be8_15 : decode cJx4a65c_add_72be8 15 = .ok (.aload_n 0, 1) := by decide +kernel
theorem dJx4a65c_add_72be8_16 : decode cJx4a65c_add_72be8 16 = .ok (.iload_n 3, 1) := by decide +kernel
theorem dJx4a65c_add_72be8_17 : decode cJx4a65c_add_72be8 17 = .ok (.iconst 1, 1) := by decide +kernel
theorem dJx4a65c_add_72be8_18 : decode cJx4a65c_add_72be8 18 = .ok (.iadd, 1) := by decide +kernel
theorem dJx4a65c_add_72be8_19 : decode cJx4a65c_add_72be8 19 = .ok (.putfield 48, 3) := by decide +kernel
theorem dJx4a65c_add_72be8_22 : decode cJx4a65c_add_72be8 22 = .ok (.return_, 1) := by decide +kernel
theorem dJx4a65c_add_9ea2d_0 : decode cJx4a65c_add_9ea2d 0 = .ok (.aload_n 0, 1) := by decide +kernel
theorem dJx4a65c_add_9ea2d_1 : decode cJx4a65c_add_9ea2d 1 = .ok (.dup, 1) := by decide +kernel
theorem dJx4a65c_add_9ea2d_2 : decode cJx4a65c_add_9ea2d 2 = .ok (.getfield 63, 3) := by decide +kernel
theorem dJx4a65c_add_9ea2d_5 : decode cJx4a65c_add_9ea2d 5 = .ok (.iconst 1, 1) := by decide +kernel
theorem dJx4a65c_add_9ea2d_6 : decode cJx4a65c_add_9ea2d 6 = .ok (.iadd, 1) := by decide +kernel
theorem dJx4a65c_add_9ea2d_7 : decode cJx4a65c_add_9ea2d 7 = .ok (.putfield 63, 3) := by decide +kernel
theorem dJx4a65c_add_9ea2d_10 : decode cJx4a65c_add_9ea2d 10 = .ok (.aload_n 0, 1) := by decide +kernel
theorem dJx4a65c_add_9ea2d_11 : decode cJx4a65c_add_9ea2d 11 = .ok (.aload_n 1, 1) := by decide +kernel
theorem dJx4a65c_add_9ea2d_12 : decode cJx4a65c_add_9ea2d 12 = .ok (.aload_n 0, 1) := by decide +kernel
theorem dJx4a65c_add_9ea2d_13 : decode cJx4a65c_add_9ea2d 13 = .ok (.getfield 9, 3) := by decide +kernel
theorem dJx4a65c_add_9ea2d_16 : decode cJx4a65c_add_9ea2d 16 = .ok (.aload_n 0, 1) := by decide +kernel
theorem dJx4a65c_add_9ea2d_17 : decode cJx4a65c_add_9ea2d 17 = .ok (.getfield 48, 3) := by decide +kernel
theorem dJx4a65c_add_9ea2d_20 : decode cJx4a65c_add_9ea2d 20 = .ok (.invokevirtual 131, 3) := by decide +kernel
theorem dJx4a65c_add_9ea2d_23 : decode cJx4a65c_add_9ea2d 23 = .ok (.iconst 1, 1) := by decide +kernel
theorem dJx4a65c_add_9ea2d_24 : decode cJx4a65c_add_9ea2d 24 = .ok (.ireturn, 1) := by decide +kernel
theorem dJ7_fill_53178_0 : decode cJ7_fill_53178 0 = .ok (.iconst 0, 1) := by decide +kernel
theorem dJ7_fill_53178_1 : decode cJ7_fill_53178 1 = .ok (.istore_n 2, 1) := by decide +kernel
theorem dJ7_fill_53178_2 : decode cJ7_fill_53178 2 = .ok (.aload_n 0, 1) := by decide +kernel
theorem dJ7_fill_53178_3 : decode cJ7_fill_53178 3 = .ok (.arraylength, 1) := by decide +kernel
theorem dJ7_fill_53178_4 : decode cJ7_fill_53178 4 = .ok (.istore_n 3, 1) := by decide +kernel
theorem dJ7_fill_53178_5 : decode cJ7_fill_53178 5 = .ok (.iload_n 2, 1) := by decide +kernel
theorem dJ7_fill_53178_6 : decode cJ7_fill_53178 6 = .ok (.iload_n 3, 1) := by decide +kernel
theorem dJ7_fill_53178_7 : decode cJ7_fill_53178 7 = .ok (.if_icmp .ge 13, 3) := by decide +kernel
theorem dJ7_fill_53178_10 : decode cJ7_fill_53178 10 = .ok (.aload_n 0, 1) := by decide +kernel
theorem dJ7_fill_53178_11 : decode cJ7_fill_53178 11 = .ok (.iload_n 2, 1) := by decide +kernel
theorem dJ7_fill_53178_12 : decode cJ7_fill_53178 12 = .ok (.iload_n 1, 1) := by decide +kernel
theorem dJ7_fill_53178_13 : decode cJ7_fill_53178 13 = .ok (.iastore, 1) := by decide +kernel
theorem dJ7_fill_53178_14 : decode cJ7_fill_53178 14 = .ok (.iinc 2 1, 3) := by decide +kernel
theorem dJ7_fill_53178_17 : decode cJ7_fill_53178 17 = .ok (.goto (-12), 3) := by decide +kernel
theorem dJ7_fill_53178_20 : decode cJ7_fill_53178 20 = .ok (.return_, 1) := by decide +kernel
theorem dJ7_copyOf_1904c_0 : decode cJ7_copyOf_1904c 0 = .ok (.aload_n 0, 1) := by decide +kernel
theorem dJ7_copyOf_1904c_1 : decode cJ7_copyOf_1904c 1 = .ok (.iload_n 1, 1) := by decide +kernel
theorem dJ7_copyOf_1904c_2 : decode cJ7_copyOf_1904c 2 = .ok (.aload_n 0, 1) := by decide +kernel
theorem dJ7_copyOf_1904c_3 : decode cJ7_copyOf_1904c 3 = .ok (.invokevirtual 86, 3) := by decide +kernel
theorem dJ7_copyOf_1904c_6 : decode cJ7_copyOf_1904c 6 = .ok (.invokestatic 300, 3) := by decide +kernel
theorem dJ7_copyOf_1904c_9 : decode cJ7_copyOf_1904c 9 = .ok (.areturn, 1) := by decide +kernel
theorem dJ7_copyOf_6403c_0 : decode cJ7_copyOf_6403c 0 = .ok (.aload_n 2, 1) := by decide +kernel
theorem dJ7_copyOf_6403c_1 : decode cJ7_copyOf_6403c 1 = .ok (.ldc 110, 2) := by decide +kernel
theorem dJ7_copyOf_6403c_3 : decode cJ7_copyOf_6403c 3 = .ok (.if_acmp .ne 10, 3) := by decide +kernel
theorem dJ7_copyOf_6403c_6 : decode cJ7_copyOf_6403c 6 = .ok (.iload_n 1, 1) := by decide +kernel
theorem dJ7_copyOf_6403c_7 : decode cJ7_copyOf_6403c 7 = .ok (.anewarray 2, 3) := by decide +kernel
theorem dJ7_copyOf_6403c_10 : decode cJ7_copyOf_6403c 10 = .ok (.goto 14, 3) := by decide +kernel
theorem dJ7_copyOf_6403c_13 : decode cJ7_copyOf_6403c 13 = .ok (.aload_n 2, 1) := by decide +kernel
theorem dJ7_copyOf_6403c_14 : decode cJ7_copyOf_6403c 14 = .ok (.invokevirtual 90, 3) := by decide +kernel
theorem dJ7_copyOf_6403c_17 : decode cJ7_copyOf_6403c 17 = .ok (.iload_n 1, 1) := by decide +kernel
theorem dJ7_copyOf_6403c_18 : decode cJ7_copyOf_6403c 18 = .ok (.invokestatic 95, 3) := by decide +kernel
theorem dJ7_copyOf_6403c_21 : decode cJ7_copyOf_6403c 21 = .ok (.checkcast 110, 3) := by decide +kernel
theorem dJ7_copyOf_6403c_24 : decode cJ7_copyOf_6403c 24 = .ok (.astore_n 3, 1) := by decide +kernel
theorem dJ7_copyOf_6403c_25 : decode cJ7_copyOf_6403c 25 = .ok (.aload_n 0, 1) := by decide +kernel
theorem dJ7_copyOf_6403c_26 : decode cJ7_copyOf_6403c 26 = .ok (.iconst 0, 1) := by decide +kernel
theorem dJ7_copyOf_6403c_27 : decode cJ7_copyOf_6403c 27 = .ok (.aload_n 3, 1) := by decide +kernel
theorem dJ7_copyOf_6403c_28 : decode cJ7_copyOf_6403c 28 = .ok (.iconst 0, 1) := by decide +kernel
theorem dJ7_copyOf_6403c_29 : decode cJ7_copyOf_6403c 29 = .ok (.aload_n 0, 1) := by decide +kernel
theorem dJ7_copyOf_6403c_30 : decode cJ7_copyOf_6403c 30 = .ok (.arraylength, 1) := by decide +kernel
theorem dJ7_copyOf_6403c_31 : decode cJ7_copyOf_6403c 31 = .ok (.iload_n 1, 1) := by decide +kernel
theorem dJ7_copyOf_6403c_32 : decode cJ7_copyOf_6403c 32 = .ok (.invokestatic 304, 3) := by decide +kernel
theorem dJ7_copyOf_6403c_35 : decode cJ7_copyOf_6403c 35 = .ok (.invokestatic 150, 3) := by decide +kernel
theorem dJ7_copyOf_6403c_38 : decode cJ7_copyOf_6403c 38 = .ok (.aload_n 3, 1) := by decide +kernel
theorem dJ7_copyOf_6403c_39 : decode cJ7_copyOf_6403c 39 = .ok (.areturn, 1) := by decide +kernel
theorem dJ15_checkIndex_7cf53_0 : decode cJ15_checkIndex_7cf53 0 = .ok (.iload_n 0, 1) := by decide +kernel
theorem dJ15_checkIndex_7cf53_1 : decode cJ15_checkIndex_7cf53 1 = .ok (.iload_n 1, 1) := by decide +kernel
theorem dJ15_checkIndex_7cf53_2 : decode cJ15_checkIndex_7cf53 2 = .ok (.aconst_null, 1) := by decide +kernel
theorem dJ15_checkIndex_7cf53_3 : decode cJ15_checkIndex_7cf53 3 = .ok (.invokestatic 105, 3) := by decide +kernel
theorem dJ15_checkIndex_7cf53_6 : decode cJ15_checkIndex_7cf53 6 = .ok (.ireturn, 1) := by decide +kernel
theorem dJ8_newLength_cabcc_0 : decode cJ8_newLength_cabcc 0 = .ok (.iload_n 0, 1) := by decide +kernel
theorem dJ8_newLength_cabcc_1 : decode cJ8_newLength_cabcc 1 = .ok (.iload_n 1, 1) := by decide +kernel
theorem dJ8_newLength_cabcc_2 : decode cJ8_newLength_cabcc 2 = .ok (.iload_n 2, 1) := by decide +kernel
theorem dJ8_newLength_cabcc_3 : decode cJ8_newLength_cabcc 3 = .ok (.invokestatic 194, 3) := by decide +kernel
theorem dJ8_newLength_cabcc_6 : decode cJ8_newLength_cabcc 6 = .ok (.iadd, 1) := by decide +kernel
theorem dJ8_newLength_cabcc_7 : decode cJ8_newLength_cabcc 7 = .ok (.istore_n 3, 1) := by decide +kernel
theorem dJ8_newLength_cabcc_8 : decode cJ8_newLength_cabcc 8 = .ok (.iconst 0, 1) := by decide +kernel
theorem dJ8_newLength_cabcc_9 : decode cJ8_newLength_cabcc 9 = .ok (.iload_n 3, 1) := by decide +kernel
theorem dJ8_newLength_cabcc_10 : decode cJ8_newLength_cabcc 10 = .ok (.if_icmp .ge 11, 3) := by decide +kernel
theorem dJ8_newLength_cabcc_13 : decode cJ8_newLength_cabcc 13 = .ok (.iload_n 3, 1) := by decide +kernel
theorem dJ8_newLength_cabcc_14 : decode cJ8_newLength_cabcc 14 = .ok (.ldc 200, 2) := by decide +kernel
theorem dJ8_newLength_cabcc_16 : decode cJ8_newLength_cabcc 16 = .ok (.if_icmp .gt 5, 3) := by decide +kernel
theorem dJ8_newLength_cabcc_19 : decode cJ8_newLength_cabcc 19 = .ok (.iload_n 3, 1) := by decide +kernel
theorem dJ8_newLength_cabcc_20 : decode cJ8_newLength_cabcc 20 = .ok (.ireturn, 1) := by decide +kernel
theorem dJ8_newLength_cabcc_21 : decode cJ8_newLength_cabcc 21 = .ok (.iload_n 0, 1) := by decide +kernel
theorem dJ8_newLength_cabcc_22 : decode cJ8_newLength_cabcc 22 = .ok (.iload_n 1, 1) := by decide +kernel
theorem dJ8_newLength_cabcc_23 : decode cJ8_newLength_cabcc 23 = .ok (.invokestatic 201, 3) := by decide +kernel
theorem dJ8_newLength_cabcc_26 : decode cJ8_newLength_cabcc 26 = .ok (.ireturn, 1) := by decide +kernel
theorem dJ8_hugeLength_7cf53_0 : decode cJ8_hugeLength_7cf53 0 = .ok (.iload_n 0, 1) := by decide +kernel
theorem dJ8_hugeLength_7cf53_1 : decode cJ8_hugeLength_7cf53 1 = .ok (.iload_n 1, 1) := by decide +kernel
theorem dJ8_hugeLength_7cf53_2 : decode cJ8_hugeLength_7cf53 2 = .ok (.iadd, 1) := by decide +kernel
theorem dJ8_hugeLength_7cf53_3 : decode cJ8_hugeLength_7cf53 3 = .ok (.istore_n 2, 1) := by decide +kernel
theorem dJ8_hugeLength_7cf53_4 : decode cJ8_hugeLength_7cf53 4 = .ok (.iload_n 2, 1) := by decide +kernel
theorem dJ8_hugeLength_7cf53_5 : decode cJ8_hugeLength_7cf53 5 = .ok (.ifCond .ge 44, 3) := by decide +kernel
theorem dJ8_hugeLength_7cf53_8 : decode cJ8_hugeLength_7cf53 8 = .ok (.new 204, 3) := by decide +kernel
theorem dJ8_hugeLength_7cf53_11 : decode cJ8_hugeLength_7cf53 11 = .ok (.dup, 1) := by decide +kernel
theorem dJ8_hugeLength_7cf53_12 : decode cJ8_hugeLength_7cf53 12 = .ok (.new 89, 3) := by decide +kernel
theorem dJ8_hugeLength_7cf53_15 : decode cJ8_hugeLength_7cf53 15 = .ok (.dup, 1) := by decide +kernel
theorem dJ8_hugeLength_7cf53_16 : decode cJ8_hugeLength_7cf53 16 = .ok (.invokespecial 91, 3) := by decide +kernel
theorem dJ8_hugeLength_7cf53_19 : decode cJ8_hugeLength_7cf53 19 = .ok (.ldc 206, 2) := by decide +kernel
theorem dJ8_hugeLength_7cf53_21 : decode cJ8_hugeLength_7cf53 21 = .ok (.invokevirtual 94, 3) := by decide +kernel
theorem dJ8_hugeLength_7cf53_24 : decode cJ8_hugeLength_7cf53 24 = .ok (.iload_n 0, 1) := by decide +kernel
theorem dJ8_hugeLength_7cf53_25 : decode cJ8_hugeLength_7cf53 25 = .ok (.invokevirtual 98, 3) := by decide +kernel
theorem dJ8_hugeLength_7cf53_28 : decode cJ8_hugeLength_7cf53 28 = .ok (.ldc 208, 2) := by decide +kernel
theorem dJ8_hugeLength_7cf53_30 : decode cJ8_hugeLength_7cf53 30 = .ok (.invokevirtual 94, 3) := by decide +kernel
theorem dJ8_hugeLength_7cf53_33 : decode cJ8_hugeLength_7cf53 33 = .ok (.iload_n 1, 1) := by decide +kernel
theorem dJ8_hugeLength_7cf53_34 : decode cJ8_hugeLength_7cf53 34 = .ok (.invokevirtual 98, 3) := by decide +kernel
theorem dJ8_hugeLength_7cf53_37 : decode cJ8_hugeLength_7cf53 37 = .ok (.ldc 210, 2) := by decide +kernel
theorem dJ8_hugeLength_7cf53_39 : decode cJ8_hugeLength_7cf53 39 = .ok (.invokevirtual 94, 3) := by decide +kernel
theorem dJ8_hugeLength_7cf53_42 : decode cJ8_hugeLength_7cf53 42 = .ok (.invokevirtual 101, 3) := by decide +kernel
theorem dJ8_hugeLength_7cf53_45 : decode cJ8_hugeLength_7cf53 45 = .ok (.invokespecial 212, 3) := by decide +kernel
theorem dJ8_hugeLength_7cf53_48 : decode cJ8_hugeLength_7cf53 48 = .ok (.athrow, 1) := by decide +kernel
theorem dJ8_hugeLength_7cf53_49 : decode cJ8_hugeLength_7cf53 49 = .ok (.iload_n 2, 1) := by decide +kernel
theorem dJ8_hugeLength_7cf53_50 : decode cJ8_hugeLength_7cf53 50 = .ok (.ldc 200, 2) := by decide +kernel
theorem dJ8_hugeLength_7cf53_52 : decode cJ8_hugeLength_7cf53 52 = .ok (.if_icmp .gt 6, 3) := by decide +kernel
theorem dJ8_hugeLength_7cf53_55 : decode cJ8_hugeLength_7cf53 55 = .ok (.ldc 200, 2) := by decide +kernel
theorem dJ8_hugeLength_7cf53_57 : decode cJ8_hugeLength_7cf53 57 = .ok (.ireturn, 1) := by decide +kernel
theorem dJ8_hugeLength_7cf53_58 : decode cJ8_hugeLength_7cf53 58 = .ok (.iload_n 2, 1) := by decide +kernel
theorem dJ8_hugeLength_7cf53_59 : decode cJ8_hugeLength_7cf53 59 = .ok (.ireturn, 1) := by decide +kernel
theorem dJ3_checkIndex_8e157_0 : decode cJ3_checkIndex_8e157 0 = .ok (.iload_n 0, 1) := by decide +kernel
theorem dJ3_checkIndex_8e157_1 : decode cJ3_checkIndex_8e157 1 = .ok (.ifCond .lt 8, 3) := by decide +kernel
theorem dJ3_checkIndex_8e157_4 : decode cJ3_checkIndex_8e157 4 = .ok (.iload_n 0, 1) := by decide +kernel
theorem dJ3_checkIndex_8e157_5 : decode cJ3_checkIndex_8e157 5 = .ok (.iload_n 1, 1) := by decide +kernel
theorem dJ3_checkIndex_8e157_6 : decode cJ3_checkIndex_8e157 6 = .ok (.if_icmp .lt 10, 3) := by decide +kernel
theorem dJ3_checkIndex_8e157_9 : decode cJ3_checkIndex_8e157 9 = .ok (.aload_n 2, 1) := by decide +kernel
theorem dJ3_checkIndex_8e157_10 : decode cJ3_checkIndex_8e157 10 = .ok (.iload_n 0, 1) := by decide +kernel
theorem dJ3_checkIndex_8e157_11 : decode cJ3_checkIndex_8e157 11 = .ok (.iload_n 1, 1) := by decide +kernel
theorem dJ3_checkIndex_8e157_12 : decode cJ3_checkIndex_8e157 12 = .ok (.invokestatic 95, 3) := by decide +kernel
theorem dJ3_checkIndex_8e157_15 : decode cJ3_checkIndex_8e157 15 = .ok (.athrow, 1) := by decide +kernel
theorem dJ3_checkIndex_8e157_16 : decode cJ3_checkIndex_8e157 16 = .ok (.iload_n 0, 1) := by decide +kernel
theorem dJ3_checkIndex_8e157_17 : decode cJ3_checkIndex_8e157 17 = .ok (.ireturn, 1) := by decide +kernel
