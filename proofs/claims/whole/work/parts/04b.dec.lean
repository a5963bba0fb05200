theorem dX10_init_0 : decode cX10_init 0 = .ok (.aload_n 0, 1) := by decide +kernel
theorem dX10_init_1 : decode cX10_init 1 = .ok (.invokespecial 1, 3) := by decide +kernel
theorem dX10_init_4 : decode cX10_init 4 = .ok (.aload_n 0, 1) := by decide +kernel
theorem dX10_init_5 : decode cX10_init 5 = .ok (.iconst 0, 1) := by decide +kernel
theorem dX10_init_6 : decode cX10_init 6 = .ok (.putfield 7, 3) := by decide +kernel
theorem dX10_init_9 : decode cX10_init 9 = .ok (.aload_n 0, 1) := by decide +kernel
theorem dX10_init_10 : decode cX10_init 10 = .ok (.iconst 0, 1) := by decide +kernel
theorem dX10_init_11 : decode cX10_init 11 = .ok (.putfield 13, 3) := by decide +kernel
theorem dX10_init_14 : decode cX10_init 14 = .ok (.aload_n 0, 1) := by decide +kernel
theorem dX10_init_15 : decode cX10_init 15 = .ok (.iconst 0, 1) := by decide +kernel
theorem dX10_init_16 : decode cX10_init 16 = .ok (.putfield 16, 3) := by decide +kernel
theorem dX10_init_19 : decode cX10_init 19 = .ok (.aload_n 0, 1) := by decide +kernel
theorem dX10_init_20 : decode cX10_init 20 = .ok (.bipush 6, 2) := by decide +kernel
theorem dX10_init_22 : decode cX10_init 22 = .ok (.newarray .int, 2) := by decide +kernel
theorem dX10_init_24 : decode cX10_init 24 = .ok (.putfield 19, 3) := by decide +kernel
theorem dX10_init_27 : decode cX10_init 27 = .ok (.aload_n 0, 1) := by decide +kernel
theorem dX10_init_28 : decode cX10_init 28 = .ok (.new 23, 3) := by decide +kernel
theorem dX10_init_31 : decode cX10_init 31 = .ok (.dup, 1) := by decide +kernel
theorem dX10_init_32 : decode cX10_init 32 = .ok (.invokespecial 25, 3) := by decide +kernel
theorem dX10_init_35 : decode cX10_init 35 = .ok (.putfield 26, 3) := by decide +kernel
theorem dX10_init_38 : decode cX10_init 38 = .ok (.aload_n 0, 1) := by decide +kernel
theorem dX10_init_39 : decode cX10_init 39 = .ok (.new 30, 3) := by decide +kernel
theorem dX10_init_42 : decode cX10_init 42 = .ok (.dup, 1) := by decide +kernel
theorem dX10_init_43 : decode cX10_init 43 = .ok (.invokespecial 32, 3) := by decide +kernel
theorem dX10_init_46 : decode cX10_init 46 = .ok (.putfield 33, 3) := by decide +kernel
theorem dX10_init_49 : decode cX10_init 49 = .ok (.aload_n 0, 1) := by decide +kernel
theorem dX10_init_50 : decode cX10_init 50 = .ok (.new 37, 3) := by decide +kernel
theorem dX10_init_53 : decode cX10_init 53 = .ok (.dup, 1) := by decide +kernel
theorem dX10_init_54 : decode cX10_init 54 = .ok (.invokespecial 39, 3) := by decide +kernel
theorem dX10_init_57 : decode cX10_init 57 = .ok (.putfield 40, 3) := by decide +kernel
theorem dX10_init_60 : decode cX10_init 60 = .ok (.aload_n 0, 1) := by decide +kernel
theorem dX10_init_61 : decode cX10_init 61 = .ok (.new 37, 3) := by decide +kernel
theorem dX10_init_64 : decode cX10_init 64 = .ok (.dup, 1) := by decide +kernel
theorem dX10_init_65 : decode cX10_init 65 = .ok (.invokespecial 39, 3) := by decide +kernel
theorem dX10_init_68 : decode cX10_init 68 = .ok (.putfield 44, 3) := by decide +kernel
theorem dX10_init_71 : decode cX10_init 71 = .ok (.aload_n 0, 1) := by decide +kernel
theorem dX10_init_72 : decode cX10_init 72 = .ok (.new 37, 3) := by decide +kernel
theorem dX10_init_75 : decode cX10_init 75 = .ok (.dup, 1) := by decide +kernel
theorem dX10_init_76 : decode cX10_init 76 = .ok (.invokespecial 39, 3) := by decide +kernel
theorem dX10_init_79 : decode cX10_init 79 = .ok (.putfield 47, 3) := by decide +kernel
theorem dX10_init_82 : decode cX10_init 82 = .ok (.aload_n 0, 1) := by decide +kernel
theorem dX10_init_83 : decode cX10_init 83 = .ok (.new 37, 3) := by decide +kernel
theorem dX10_init_86 : decode cX10_init 86 = .ok (.dup, 1) := by decide +kernel
theorem dX10_init_87 : decode cX10_init 87 = .ok (.invokespecial 39, 3) := by decide +kernel
theorem dX10_init_90 : decode cX10_init 90 = .ok (.putfield 50, 3) := by decide +kernel
theorem dX10_init_93 : decode cX10_init 93 = .ok (.aload_n 0, 1) := by decide +kernel
theorem dX10_init_94 : decode cX10_init 94 = .ok (.new 37, 3) := by decide +kernel
theorem dX10_init_97 : decode cX10_init 97 = .ok (.dup, 1) := by decide +kernel
theorem dX10_init_98 : decode cX10_init 98 = .ok (.invokespecial 39, 3) := by decide +kernel
theorem dX10_init_101 : decode cX10_init 101 = .ok (.putfield 53, 3) := by decide +kernel
theorem dX10_init_104 : decode cX10_init 104 = .ok (.aload_n 0, 1) := by decide +kernel
theorem dX10_init_105 : decode cX10_init 105 = .ok (.new 56, 3) := by decide +kernel
theorem dX10_init_108 : decode cX10_init 108 = .ok (.dup, 1) := by decide +kernel
theorem dX10_init_109 : decode cX10_init 109 = .ok (.invokespecial 58, 3) := by decide +kernel
theorem dX10_init_112 : decode cX10_init 112 = .ok (.putfield 59, 3) := by decide +kernel
theorem dX10_init_115 : decode cX10_init 115 = .ok (.return_, 1) := by decide +kernel
theorem dX10_law_0 : decode cX10_law 0 = .ok (.iload_n 1, 1) := by decide +kernel
theorem dX10_law_1 : decode cX10_law 1 = .ok (.ifCond .lt 35, 3) := by decide +kernel
theorem dX10_law_4 : decode cX10_law 4 = .ok (.iload_n 1, 1) := by decide +kernel
theorem dX10_law_5 : decode cX10_law 5 = .ok (.bipush 6, 2) := by decide +kernel
theorem dX10_law_7 : decode cX10_law 7 = .ok (.if_icmp .ge 29, 3) := by decide +kernel
theorem dX10_law_10 : decode cX10_law 10 = .ok (.iload_n 2, 1) := by decide +kernel
theorem dX10_law_11 : decode cX10_law 11 = .ok (.invokestatic 63, 3) := by decide +kernel
theorem dX10_law_14 : decode cX10_law 14 = .ok (.ifCond .eq 22, 3) := by decide +kernel
theorem dX10_law_17 : decode cX10_law 17 = .ok (.iload_n 3, 1) := by decide +kernel
theorem dX10_law_18 : decode cX10_law 18 = .ok (.iload 4, 2) := by decide +kernel
theorem dX10_law_20 : decode cX10_law 20 = .ok (.invokestatic 67, 3) := by decide +kernel
theorem dX10_law_23 : decode cX10_law 23 = .ok (.ifCond .eq 13, 3) := by decide +kernel
theorem dX10_law_26 : decode cX10_law 26 = .ok (.aload_n 0, 1) := by decide +kernel
theorem dX10_law_27 : decode cX10_law 27 = .ok (.getfield 33, 3) := by decide +kernel
theorem dX10_law_30 : decode cX10_law 30 = .ok (.invokevirtual 73, 3) := by decide +kernel
theorem dX10_law_33 : decode cX10_law 33 = .ok (.ifCond .eq 5, 3) := by decide +kernel
theorem dX10_law_36 : decode cX10_law 36 = .ok (.iconst 0, 1) := by decide +kernel
theorem dX10_law_37 : decode cX10_law 37 = .ok (.ireturn, 1) := by decide +kernel
theorem dX10_law_38 : decode cX10_law 38 = .ok (.aload_n 0, 1) := by decide +kernel
theorem dX10_law_39 : decode cX10_law 39 = .ok (.getfield 33, 3) := by decide +kernel
theorem dX10_law_42 : decode cX10_law 42 = .ok (.new 68, 3) := by decide +kernel
theorem dX10_law_45 : decode cX10_law 45 = .ok (.dup, 1) := by decide +kernel
theorem dX10_law_46 : decode cX10_law 46 = .ok (.iload_n 1, 1) := by decide +kernel
theorem dX10_law_47 : decode cX10_law 47 = .ok (.iload_n 2, 1) := by decide +kernel
theorem dX10_law_48 : decode cX10_law 48 = .ok (.iload_n 3, 1) := by decide +kernel
theorem dX10_law_49 : decode cX10_law 49 = .ok (.iload 4, 2) := by decide +kernel
theorem dX10_law_51 : decode cX10_law 51 = .ok (.invokespecial 77, 3) := by decide +kernel
theorem dX10_law_54 : decode cX10_law 54 = .ok (.invokevirtual 80, 3) := by decide +kernel
theorem dX10_law_57 : decode cX10_law 57 = .ok (.iconst 1, 1) := by decide +kernel
theorem dX10_law_58 : decode cX10_law 58 = .ok (.ireturn, 1) := by decide +kernel
theorem dX10_person_0 : decode cX10_person 0 = .ok (.iload_n 1, 1) := by decide +kernel
theorem dX10_person_1 : decode cX10_person 1 = .ok (.invokestatic 84, 3) := by decide +kernel
theorem dX10_person_4 : decode cX10_person 4 = .ok (.ifCond .eq 30, 3) := by decide +kernel
theorem dX10_person_7 : decode cX10_person 7 = .ok (.iload_n 2, 1) := by decide +kernel
theorem dX10_person_8 : decode cX10_person 8 = .ok (.sipush (-30000), 3) := by decide +kernel
theorem dX10_person_11 : decode cX10_person 11 = .ok (.if_icmp .lt 23, 3) := by decide +kernel
theorem dX10_person_14 : decode cX10_person 14 = .ok (.iload_n 2, 1) := by decide +kernel
theorem dX10_person_15 : decode cX10_person 15 = .ok (.aload_n 0, 1) := by decide +kernel
theorem dX10_person_16 : decode cX10_person 16 = .ok (.getfield 7, 3) := by decide +kernel
theorem dX10_person_19 : decode cX10_person 19 = .ok (.if_icmp .gt 15, 3) := by decide +kernel
theorem dX10_person_22 : decode cX10_person 22 = .ok (.aload_n 0, 1) := by decide +kernel
theorem dX10_person_23 : decode cX10_person 23 = .ok (.getfield 40, 3) := by decide +kernel
theorem dX10_person_26 : decode cX10_person 26 = .ok (.invokevirtual 88, 3) := by decide +kernel
theorem dX10_person_29 : decode cX10_person 29 = .ok (.bipush 40, 2) := by decide +kernel
theorem dX10_person_31 : decode cX10_person 31 = .ok (.if_icmp .lt 5, 3) := by decide +kernel
theorem dX10_person_34 : decode cX10_person 34 = .ok (.iconst (-1), 1) := by decide +kernel
theorem dX10_person_35 : decode cX10_person 35 = .ok (.ireturn, 1) := by decide +kernel
theorem dX10_person_36 : decode cX10_person 36 = .ok (.aload_n 0, 1) := by decide +kernel
theorem dX10_person_37 : decode cX10_person 37 = .ok (.iload_n 3, 1) := by decide +kernel
theorem dX10_person_38 : decode cX10_person 38 = .ok (.iload 4, 2) := by decide +kernel
theorem dX10_person_40 : decode cX10_person 40 = .ok (.invokevirtual 92, 3) := by decide +kernel
theorem dX10_person_43 : decode cX10_person 43 = .ok (.ifCond .ne 5, 3) := by decide +kernel
theorem dX10_person_46 : decode cX10_person 46 = .ok (.iconst (-1), 1) := by decide +kernel
theorem dX10_person_47 : decode cX10_person 47 = .ok (.ireturn, 1) := by decide +kernel
theorem dX10_person_48 : decode cX10_person 48 = .ok (.aload_n 0, 1) := by decide +kernel
theorem dX10_person_49 : decode cX10_person 49 = .ok (.getfield 40, 3) := by decide +kernel
theorem dX10_person_52 : decode cX10_person 52 = .ok (.invokevirtual 88, 3) := by decide +kernel
theorem dX10_person_55 : decode cX10_person 55 = .ok (.istore 5, 2) := by decide +kernel
theorem dX10_person_57 : decode cX10_person 57 = .ok (.aload_n 0, 1) := by decide +kernel
theorem dX10_person_58 : decode cX10_person 58 = .ok (.getfield 40, 3) := by decide +kernel
theorem dX10_person_61 : decode cX10_person 61 = .ok (.new 85, 3) := by decide +kernel
theorem dX10_person_64 : decode cX10_person 64 = .ok (.dup, 1) := by decide +kernel
theorem dX10_person_65 : decode cX10_person 65 = .ok (.iload 5, 2) := by decide +kernel
theorem dX10_person_67 : decode cX10_person 67 = .ok (.iload_n 1, 1) := by decide +kernel
theorem dX10_person_68 : decode cX10_person 68 = .ok (.iload_n 2, 1) := by decide +kernel
theorem dX10_person_69 : decode cX10_person 69 = .ok (.aload_n 0, 1) := by decide +kernel
theorem dX10_person_70 : decode cX10_person 70 = .ok (.iload_n 3, 1) := by decide +kernel
theorem dX10_person_71 : decode cX10_person 71 = .ok (.invokevirtual 95, 3) := by decide +kernel
theorem dX10_person_74 : decode cX10_person 74 = .ok (.aload_n 0, 1) := by decide +kernel
theorem dX10_person_75 : decode cX10_person 75 = .ok (.iload 4, 2) := by decide +kernel
theorem dX10_person_77 : decode cX10_person 77 = .ok (.invokevirtual 95, 3) := by decide +kernel
theorem dX10_person_80 : decode cX10_person 80 = .ok (.invokespecial 99, 3) := by decide +kernel
theorem dX10_person_83 : decode cX10_person 83 = .ok (.invokevirtual 102, 3) := by decide +kernel
theorem dX10_person_86 : decode cX10_person 86 = .ok (.pop, 1) := by decide +kernel
theorem dX10_person_87 : decode cX10_person 87 = .ok (.iload 5, 2) := by decide +kernel
theorem dX10_person_89 : decode cX10_person 89 = .ok (.ireturn, 1) := by decide +kernel
theorem dX10_paper_0 : decode cX10_paper 0 = .ok (.aload_n 0, 1) := by decide +kernel
theorem dX10_paper_1 : decode cX10_paper 1 = .ok (.iload_n 1, 1) := by decide +kernel
theorem dX10_paper_2 : decode cX10_paper 2 = .ok (.invokevirtual 95, 3) := by decide +kernel
theorem dX10_paper_5 : decode cX10_paper 5 = .ok (.astore 4, 2) := by decide +kernel
theorem dX10_paper_7 : decode cX10_paper 7 = .ok (.aload 4, 2) := by decide +kernel
theorem dX10_paper_9 : decode cX10_paper 9 = .ok (.ifnull 34, 3) := by decide +kernel
theorem dX10_paper_12 : decode cX10_paper 12 = .ok (.iload_n 2, 1) := by decide +kernel
theorem dX10_paper_13 : decode cX10_paper 13 = .ok (.ifCond .lt 30, 3) := by decide +kernel
theorem dX10_paper_16 : decode cX10_paper 16 = .ok (.iload_n 2, 1) := by decide +kernel
theorem dX10_paper_17 : decode cX10_paper 17 = .ok (.iconst 3, 1) := by decide +kernel
theorem dX10_paper_18 : decode cX10_paper 18 = .ok (.if_icmp .ge 25, 3) := by decide +kernel
theorem dX10_paper_21 : decode cX10_paper 21 = .ok (.iload_n 3, 1) := by decide +kernel
theorem dX10_paper_22 : decode cX10_paper 22 = .ok (.ifCond .lt 21, 3) := by decide +kernel
theorem dX10_paper_25 : decode cX10_paper 25 = .ok (.iload_n 3, 1) := by decide +kernel
theorem dX10_paper_26 : decode cX10_paper 26 = .ok (.aload_n 0, 1) := by decide +kernel
theorem dX10_paper_27 : decode cX10_paper 27 = .ok (.getfield 7, 3) := by decide +kernel
theorem dX10_paper_30 : decode cX10_paper 30 = .ok (.if_icmp .gt 13, 3) := by decide +kernel
theorem dX10_paper_33 : decode cX10_paper 33 = .ok (.aload_n 0, 1) := by decide +kernel
theorem dX10_paper_34 : decode cX10_paper 34 = .ok (.getfield 13, 3) := by decide +kernel
theorem dX10_paper_37 : decode cX10_paper 37 = .ok (.sipush 200, 3) := by decide +kernel
theorem dX10_paper_40 : decode cX10_paper 40 = .ok (.if_icmp .lt 5, 3) := by decide +kernel
theorem dX10_paper_43 : decode cX10_paper 43 = .ok (.iconst 0, 1) := by decide +kernel
theorem dX10_paper_44 : decode cX10_paper 44 = .ok (.ireturn, 1) := by decide +kernel
theorem dX10_paper_45 : decode cX10_paper 45 = .ok (.aload 4, 2) := by decide +kernel
theorem dX10_paper_47 : decode cX10_paper 47 = .ok (.getfield 106, 3) := by decide +kernel
theorem dX10_paper_50 : decode cX10_paper 50 = .ok (.new 109, 3) := by decide +kernel
theorem dX10_paper_53 : decode cX10_paper 53 = .ok (.dup, 1) := by decide +kernel
theorem dX10_paper_54 : decode cX10_paper 54 = .ok (.iload_n 2, 1) := by decide +kernel
theorem dX10_paper_55 : decode cX10_paper 55 = .ok (.iload_n 3, 1) := by decide +kernel
theorem dX10_paper_56 : decode cX10_paper 56 = .ok (.invokespecial 111, 3) := by decide +kernel
theorem dX10_paper_59 : decode cX10_paper 59 = .ok (.invokevirtual 102, 3) := by decide +kernel
theorem dX10_paper_62 : decode cX10_paper 62 = .ok (.pop, 1) := by decide +kernel
theorem dX10_paper_63 : decode cX10_paper 63 = .ok (.aload_n 0, 1) := by decide +kernel
theorem dX10_paper_64 : decode cX10_paper 64 = .ok (.dup, 1) := by decide +kernel
theorem dX10_paper_65 : decode cX10_paper 65 = .ok (.getfield 13, 3) := by decide +kernel
theorem dX10_paper_68 : decode cX10_paper 68 = .ok (.iconst 1, 1) := by decide +kernel
theorem dX10_paper_69 : decode cX10_paper 69 = .ok (.iadd, 1) := by decide +kernel
theorem dX10_paper_70 : decode cX10_paper 70 = .ok (.putfield 13, 3) := by decide +kernel
theorem dX10_paper_73 : decode cX10_paper 73 = .ok (.iconst 1, 1) := by decide +kernel
theorem dX10_paper_74 : decode cX10_paper 74 = .ok (.ireturn, 1) := by decide +kernel
theorem dX10_feast_0 : decode cX10_feast 0 = .ok (.iload_n 1, 1) := by decide +kernel
theorem dX10_feast_1 : decode cX10_feast 1 = .ok (.invokestatic 63, 3) := by decide +kernel
theorem dX10_feast_4 : decode cX10_feast 4 = .ok (.ifCond .eq 14, 3) := by decide +kernel
theorem dX10_feast_7 : decode cX10_feast 7 = .ok (.aload_n 0, 1) := by decide +kernel
theorem dX10_feast_8 : decode cX10_feast 8 = .ok (.getfield 26, 3) := by decide +kernel
theorem dX10_feast_11 : decode cX10_feast 11 = .ok (.iload_n 1, 1) := by decide +kernel
theorem dX10_feast_12 : decode cX10_feast 12 = .ok (.invokevirtual 114, 3) := by decide +kernel
theorem dX10_feast_15 : decode cX10_feast 15 = .ok (.ifCond .eq 5, 3) := by decide +kernel
theorem dX10_feast_18 : decode cX10_feast 18 = .ok (.iconst 0, 1) := by decide +kernel
theorem dX10_feast_19 : decode cX10_feast 19 = .ok (.ireturn, 1) := by decide +kernel
theorem dX10_feast_20 : decode cX10_feast 20 = .ok (.aload_n 0, 1) := by decide +kernel
theorem dX10_feast_21 : decode cX10_feast 21 = .ok (.getfield 26, 3) := by decide +kernel
theorem dX10_feast_24 : decode cX10_feast 24 = .ok (.iload_n 1, 1) := by decide +kernel
theorem dX10_feast_25 : decode cX10_feast 25 = .ok (.invokevirtual 117, 3) := by decide +kernel
theorem dX10_feast_28 : decode cX10_feast 28 = .ok (.iconst 1, 1) := by decide +kernel
theorem dX10_feast_29 : decode cX10_feast 29 = .ok (.ireturn, 1) := by decide +kernel
theorem dX10_go_0 : decode cX10_go 0 = .ok (.iload_n 1, 1) := by decide +kernel
theorem dX10_go_1 : decode cX10_go 1 = .ok (.ifCond .lt 10, 3) := by decide +kernel
theorem dX10_go_4 : decode cX10_go 4 = .ok (.iload_n 1, 1) := by decide +kernel
theorem dX10_go_5 : decode cX10_go 5 = .ok (.sipush 400, 3) := by decide +kernel
theorem dX10_go_8 : decode cX10_go 8 = .ok (.if_icmp .le 5, 3) := by decide +kernel
theorem dX10_go_11 : decode cX10_go 11 = .ok (.iconst (-1), 1) := by decide +kernel
theorem dX10_go_12 : decode cX10_go 12 = .ok (.ireturn, 1) := by decide +kernel
theorem dX10_go_13 : decode cX10_go 13 = .ok (.aload_n 0, 1) := by decide +kernel
theorem dX10_go_14 : decode cX10_go 14 = .ok (.aload_n 0, 1) := by decide +kernel
theorem dX10_go_15 : decode cX10_go 15 = .ok (.getfield 7, 3) := by decide +kernel
theorem dX10_go_18 : decode cX10_go 18 = .ok (.iload_n 1, 1) := by decide +kernel
theorem dX10_go_19 : decode cX10_go 19 = .ok (.iadd, 1) := by decide +kernel
theorem dX10_go_20 : decode cX10_go 20 = .ok (.sipush 20000, 3) := by decide +kernel
theorem dX10_go_23 : decode cX10_go 23 = .ok (.invokestatic 121, 3) := by decide +kernel
theorem dX10_go_26 : decode cX10_go 26 = .ok (.putfield 7, 3) := by decide +kernel
theorem dX10_go_29 : decode cX10_go 29 = .ok (.aload_n 0, 1) := by decide +kernel
theorem dX10_go_30 : decode cX10_go 30 = .ok (.getfield 7, 3) := by decide +kernel
theorem dX10_go_33 : decode cX10_go 33 = .ok (.ireturn, 1) := by decide +kernel
theorem dX10_kin_0 : decode cX10_kin 0 = .ok (.aload_n 0, 1) := by decide +kernel
theorem dX10_kin_1 : decode cX10_kin 1 = .ok (.iload_n 1, 1) := by decide +kernel
theorem dX10_kin_2 : decode cX10_kin 2 = .ok (.invokevirtual 95, 3) := by decide +kernel
theorem dX10_kin_5 : decode cX10_kin 5 = .ok (.astore_n 3, 1) := by decide +kernel
theorem dX10_kin_6 : decode cX10_kin 6 = .ok (.aload_n 0, 1) := by decide +kernel
theorem dX10_kin_7 : decode cX10_kin 7 = .ok (.iload_n 2, 1) := by decide +kernel
theorem dX10_kin_8 : decode cX10_kin 8 = .ok (.invokevirtual 95, 3) := by decide +kernel
theorem dX10_kin_11 : decode cX10_kin 11 = .ok (.astore 4, 2) := by decide +kernel
theorem dX10_kin_13 : decode cX10_kin 13 = .ok (.aload_n 3, 1) := by decide +kernel
theorem dX10_kin_14 : decode cX10_kin 14 = .ok (.ifnull 13, 3) := by decide +kernel
theorem dX10_kin_17 : decode cX10_kin 17 = .ok (.aload 4, 2) := by decide +kernel
theorem dX10_kin_19 : decode cX10_kin 19 = .ok (.ifnull 8, 3) := by decide +kernel
theorem dX10_kin_22 : decode cX10_kin 22 = .ok (.iload_n 1, 1) := by decide +kernel
theorem dX10_kin_23 : decode cX10_kin 23 = .ok (.iload_n 2, 1) := by decide +kernel
theorem dX10_kin_24 : decode cX10_kin 24 = .ok (.if_icmp .ne 5, 3) := by decide +kernel
theorem dX10_kin_27 : decode cX10_kin 27 = .ok (.iconst (-1), 1) := by decide +kernel
theorem dX10_kin_28 : decode cX10_kin 28 = .ok (.ireturn, 1) := by decide +kernel
theorem dX10_kin_29 : decode cX10_kin 29 = .ok (.aload_n 3, 1) := by decide +kernel
theorem dX10_kin_30 : decode cX10_kin 30 = .ok (.aload 4, 2) := by decide +kernel
theorem dX10_kin_32 : decode cX10_kin 32 = .ok (.invokestatic 127, 3) := by decide +kernel
theorem dX10_kin_35 : decode cX10_kin 35 = .ok (.ireturn, 1) := by decide +kernel
theorem dX10_against_0 : decode cX10_against 0 = .ok (.aload_n 0, 1) := by decide +kernel
theorem dX10_against_1 : decode cX10_against 1 = .ok (.iload_n 1, 1) := by decide +kernel
theorem dX10_against_2 : decode cX10_against 2 = .ok (.invokevirtual 95, 3) := by decide +kernel
theorem dX10_against_5 : decode cX10_against 5 = .ok (.astore 4, 2) := by decide +kernel
theorem dX10_against_7 : decode cX10_against 7 = .ok (.aload_n 0, 1) := by decide +kernel
theorem dX10_against_8 : decode cX10_against 8 = .ok (.iload_n 2, 1) := by decide +kernel
theorem dX10_against_9 : decode cX10_against 9 = .ok (.invokevirtual 95, 3) := by decide +kernel
theorem dX10_against_12 : decode cX10_against 12 = .ok (.astore 5, 2) := by decide +kernel
theorem dX10_against_14 : decode cX10_against 14 = .ok (.aload 4, 2) := by decide +kernel
theorem dX10_against_16 : decode cX10_against 16 = .ok (.ifnull 20, 3) := by decide +kernel
theorem dX10_against_19 : decode cX10_against 19 = .ok (.aload 5, 2) := by decide +kernel
theorem dX10_against_21 : decode cX10_against 21 = .ok (.ifnull 15, 3) := by decide +kernel
theorem dX10_against_24 : decode cX10_against 24 = .ok (.iload_n 1, 1) := by decide +kernel
theorem dX10_against_25 : decode cX10_against 25 = .ok (.iload_n 2, 1) := by decide +kernel
theorem dX10_against_26 : decode cX10_against 26 = .ok (.if_icmp .eq 10, 3) := by decide +kernel
theorem dX10_against_29 : decode cX10_against 29 = .ok (.iload_n 3, 1) := by decide +kernel
theorem dX10_against_30 : decode cX10_against 30 = .ok (.invokestatic 63, 3) := by decide +kernel
theorem dX10_against_33 : decode cX10_against 33 = .ok (.ifCond .ne 5, 3) := by decide +kernel
theorem dX10_against_36 : decode cX10_against 36 = .ok (.iconst (-1), 1) := by decide +kernel
theorem dX10_against_37 : decode cX10_against 37 = .ok (.ireturn, 1) := by decide +kernel
theorem dX10_against_38 : decode cX10_against 38 = .ok (.aload_n 0, 1) := by decide +kernel
theorem dX10_against_39 : decode cX10_against 39 = .ok (.aload 4, 2) := by decide +kernel
theorem dX10_against_41 : decode cX10_against 41 = .ok (.aload 5, 2) := by decide +kernel
theorem dX10_against_43 : decode cX10_against 43 = .ok (.iload_n 3, 1) := by decide +kernel
theorem dX10_against_44 : decode cX10_against 44 = .ok (.invokevirtual 131, 3) := by decide +kernel
theorem dX10_against_47 : decode cX10_against 47 = .ok (.ireturn, 1) := by decide +kernel
theorem dX10_post_0 : decode cX10_post 0 = .ok (.aload_n 0, 1) := by decide +kernel
theorem dX10_post_1 : decode cX10_post 1 = .ok (.iload_n 1, 1) := by decide +kernel
theorem dX10_post_2 : decode cX10_post 2 = .ok (.invokevirtual 95, 3) := by decide +kernel
theorem dX10_post_5 : decode cX10_post 5 = .ok (.astore_n 3, 1) := by decide +kernel
theorem dX10_post_6 : decode cX10_post 6 = .ok (.aload_n 0, 1) := by decide +kernel
theorem dX10_post_7 : decode cX10_post 7 = .ok (.iload_n 2, 1) := by decide +kernel
theorem dX10_post_8 : decode cX10_post 8 = .ok (.invokevirtual 95, 3) := by decide +kernel
theorem dX10_post_11 : decode cX10_post 11 = .ok (.astore 4, 2) := by decide +kernel
theorem dX10_post_13 : decode cX10_post 13 = .ok (.aload_n 3, 1) := by decide +kernel
theorem dX10_post_14 : decode cX10_post 14 = .ok (.ifnull 25, 3) := by decide +kernel
theorem dX10_post_17 : decode cX10_post 17 = .ok (.aload 4, 2) := by decide +kernel
theorem dX10_post_19 : decode cX10_post 19 = .ok (.ifnull 20, 3) := by decide +kernel
theorem dX10_post_22 : decode cX10_post 22 = .ok (.iload_n 1, 1) := by decide +kernel
theorem dX10_post_23 : decode cX10_post 23 = .ok (.iload_n 2, 1) := by decide +kernel
theorem dX10_post_24 : decode cX10_post 24 = .ok (.if_icmp .eq 15, 3) := by decide +kernel
theorem dX10_post_27 : decode cX10_post 27 = .ok (.aload_n 0, 1) := by decide +kernel
theorem dX10_post_28 : decode cX10_post 28 = .ok (.getfield 44, 3) := by decide +kernel
theorem dX10_post_31 : decode cX10_post 31 = .ok (.invokevirtual 88, 3) := by decide +kernel
theorem dX10_post_34 : decode cX10_post 34 = .ok (.bipush 60, 2) := by decide +kernel
theorem dX10_post_36 : decode cX10_post 36 = .ok (.if_icmp .lt 5, 3) := by decide +kernel
theorem dX10_post_39 : decode cX10_post 39 = .ok (.iconst (-1), 1) := by decide +kernel
theorem dX10_post_40 : decode cX10_post 40 = .ok (.ireturn, 1) := by decide +kernel
theorem dX10_post_41 : decode cX10_post 41 = .ok (.aload_n 3, 1) := by decide +kernel
theorem dX10_post_42 : decode cX10_post 42 = .ok (.getfield 135, 3) := by decide +kernel
theorem dX10_post_45 : decode cX10_post 45 = .ok (.ifnonnull 21, 3) := by decide +kernel
theorem dX10_post_48 : decode cX10_post 48 = .ok (.aload 4, 2) := by decide +kernel
theorem dX10_post_50 : decode cX10_post 50 = .ok (.getfield 135, 3) := by decide +kernel
theorem dX10_post_53 : decode cX10_post 53 = .ok (.ifnonnull 13, 3) := by decide +kernel
theorem dX10_post_56 : decode cX10_post 56 = .ok (.aload_n 0, 1) := by decide +kernel
theorem dX10_post_57 : decode cX10_post 57 = .ok (.aload_n 3, 1) := by decide +kernel
theorem dX10_post_58 : decode cX10_post 58 = .ok (.aload 4, 2) := by decide +kernel
theorem dX10_post_60 : decode cX10_post 60 = .ok (.invokevirtual 139, 3) := by decide +kernel
theorem dX10_post_63 : decode cX10_post 63 = .ok (.ifCond .eq 5, 3) := by decide +kernel
theorem dX10_post_66 : decode cX10_post 66 = .ok (.iconst (-1), 1) := by decide +kernel
theorem dX10_post_67 : decode cX10_post 67 = .ok (.ireturn, 1) := by decide +kernel
theorem dX10_post_68 : decode cX10_post 68 = .ok (.aload_n 0, 1) := by decide +kernel
theorem dX10_post_69 : decode cX10_post 69 = .ok (.getfield 44, 3) := by decide +kernel
theorem dX10_post_72 : decode cX10_post 72 = .ok (.invokevirtual 88, 3) := by decide +kernel
theorem dX10_post_75 : decode cX10_post 75 = .ok (.istore 5, 2) := by decide +kernel
theorem dX10_post_77 : decode cX10_post 77 = .ok (.aload_n 0, 1) := by decide +kernel
theorem dX10_post_78 : decode cX10_post 78 = .ok (.getfield 44, 3) := by decide +kernel
theorem dX10_post_81 : decode cX10_post 81 = .ok (.new 143, 3) := by decide +kernel
theorem dX10_post_84 : decode cX10_post 84 = .ok (.dup, 1) := by decide +kernel
theorem dX10_post_85 : decode cX10_post 85 = .ok (.iload 5, 2) := by decide +kernel
theorem dX10_post_87 : decode cX10_post 87 = .ok (.aload_n 3, 1) := by decide +kernel
theorem dX10_post_88 : decode cX10_post 88 = .ok (.aload 4, 2) := by decide +kernel
theorem dX10_post_90 : decode cX10_post 90 = .ok (.aload_n 0, 1) := by decide +kernel
theorem dX10_post_91 : decode cX10_post 91 = .ok (.getfield 7, 3) := by decide +kernel
theorem dX10_post_94 : decode cX10_post 94 = .ok (.invokespecial 145, 3) := by decide +kernel
theorem dX10_post_97 : decode cX10_post 97 = .ok (.invokevirtual 102, 3) := by decide +kernel
theorem dX10_post_100 : decode cX10_post 100 = .ok (.pop, 1) := by decide +kernel
theorem dX10_post_101 : decode cX10_post 101 = .ok (.iload 5, 2) := by decide +kernel
theorem dX10_post_103 : decode cX10_post 103 = .ok (.ireturn, 1) := by decide +kernel
theorem dX10_withdraw_0 : decode cX10_withdraw 0 = .ok (.aload_n 0, 1) := by decide +kernel
theorem dX10_withdraw_1 : decode cX10_withdraw 1 = .ok (.iload_n 1, 1) := by decide +kernel
theorem dX10_withdraw_2 : decode cX10_withdraw 2 = .ok (.invokevirtual 148, 3) := by decide +kernel
theorem dX10_withdraw_5 : decode cX10_withdraw 5 = .ok (.astore_n 2, 1) := by decide +kernel
theorem dX10_withdraw_6 : decode cX10_withdraw 6 = .ok (.aload_n 2, 1) := by decide +kernel
theorem dX10_withdraw_7 : decode cX10_withdraw 7 = .ok (.ifnull 10, 3) := by decide +kernel
theorem dX10_withdraw_10 : decode cX10_withdraw 10 = .ok (.aload_n 2, 1) := by decide +kernel
theorem dX10_withdraw_11 : decode cX10_withdraw 11 = .ok (.getfield 152, 3) := by decide +kernel
theorem dX10_withdraw_14 : decode cX10_withdraw 14 = .ok (.ifCond .eq 5, 3) := by decide +kernel
theorem dX10_withdraw_17 : decode cX10_withdraw 17 = .ok (.iconst 0, 1) := by decide +kernel
theorem dX10_withdraw_18 : decode cX10_withdraw 18 = .ok (.ireturn, 1) := by decide +kernel
theorem dX10_withdraw_19 : decode cX10_withdraw 19 = .ok (.aload_n 2, 1) := by decide +kernel
theorem dX10_withdraw_20 : decode cX10_withdraw 20 = .ok (.iconst 2, 1) := by decide +kernel
theorem dX10_withdraw_21 : decode cX10_withdraw 21 = .ok (.putfield 152, 3) := by decide +kernel
theorem dX10_withdraw_24 : decode cX10_withdraw 24 = .ok (.aload_n 2, 1) := by decide +kernel
theorem dX10_withdraw_25 : decode cX10_withdraw 25 = .ok (.iconst (-1), 1) := by decide +kernel
theorem dX10_withdraw_26 : decode cX10_withdraw 26 = .ok (.iconst (-1), 1) := by decide +kernel
theorem dX10_withdraw_27 : decode cX10_withdraw 27 = .ok (.invokevirtual 155, 3) := by decide +kernel
theorem dX10_withdraw_30 : decode cX10_withdraw 30 = .ok (.iconst 1, 1) := by decide +kernel
theorem dX10_withdraw_31 : decode cX10_withdraw 31 = .ok (.ireturn, 1) := by decide +kernel
theorem dX10_hung_0 : decode cX10_hung 0 = .ok (.aload_n 0, 1) := by decide +kernel
theorem dX10_hung_1 : decode cX10_hung 1 = .ok (.iload_n 1, 1) := by decide +kernel
theorem dX10_hung_2 : decode cX10_hung 2 = .ok (.invokevirtual 148, 3) := by decide +kernel
theorem dX10_hung_5 : decode cX10_hung 5 = .ok (.astore_n 3, 1) := by decide +kernel
theorem dX10_hung_6 : decode cX10_hung 6 = .ok (.aload_n 3, 1) := by decide +kernel
theorem dX10_hung_7 : decode cX10_hung 7 = .ok (.ifnull 10, 3) := by decide +kernel
theorem dX10_hung_10 : decode cX10_hung 10 = .ok (.iload_n 2, 1) := by decide +kernel
theorem dX10_hung_11 : decode cX10_hung 11 = .ok (.invokestatic 63, 3) := by decide +kernel
theorem dX10_hung_14 : decode cX10_hung 14 = .ok (.ifCond .ne 5, 3) := by decide +kernel
theorem dX10_hung_17 : decode cX10_hung 17 = .ok (.iconst (-1), 1) := by decide +kernel
theorem dX10_hung_18 : decode cX10_hung 18 = .ok (.ireturn, 1) := by decide +kernel
theorem dX10_hung_19 : decode cX10_hung 19 = .ok (.aload_n 0, 1) := by decide +kernel
theorem dX10_hung_20 : decode cX10_hung 20 = .ok (.getfield 26, 3) := by decide +kernel
theorem dX10_hung_23 : decode cX10_hung 23 = .ok (.aload_n 3, 1) := by decide +kernel
theorem dX10_hung_24 : decode cX10_hung 24 = .ok (.getfield 158, 3) := by decide +kernel
theorem dX10_hung_27 : decode cX10_hung 27 = .ok (.iload_n 2, 1) := by decide +kernel
theorem dX10_hung_28 : decode cX10_hung 28 = .ok (.invokevirtual 161, 3) := by decide +kernel
theorem dX10_hung_31 : decode cX10_hung 31 = .ok (.ireturn, 1) := by decide +kernel
theorem dX10_ripe_0 : decode cX10_ripe 0 = .ok (.aload_n 0, 1) := by decide +kernel
theorem dX10_ripe_1 : decode cX10_ripe 1 = .ok (.iload_n 1, 1) := by decide +kernel
theorem dX10_ripe_2 : decode cX10_ripe 2 = .ok (.invokevirtual 148, 3) := by decide +kernel
theorem dX10_ripe_5 : decode cX10_ripe 5 = .ok (.astore_n 2, 1) := by decide +kernel
theorem dX10_ripe_6 : decode cX10_ripe 6 = .ok (.aload_n 2, 1) := by decide +kernel
theorem dX10_ripe_7 : decode cX10_ripe 7 = .ok (.ifnonnull 5, 3) := by decide +kernel
theorem dX10_ripe_10 : decode cX10_ripe 10 = .ok (.iconst (-1), 1) := by decide +kernel
theorem dX10_ripe_11 : decode cX10_ripe 11 = .ok (.ireturn, 1) := by decide +kernel
theorem dX10_ripe_12 : decode cX10_ripe 12 = .ok (.aload_n 0, 1) := by decide +kernel
theorem dX10_ripe_13 : decode cX10_ripe 13 = .ok (.aload_n 2, 1) := by decide +kernel
theorem dX10_ripe_14 : decode cX10_ripe 14 = .ok (.invokevirtual 164, 3) := by decide +kernel
theorem dX10_ripe_17 : decode cX10_ripe 17 = .ok (.ireturn, 1) := by decide +kernel
theorem dX10_object_0 : decode cX10_object 0 = .ok (.aload_n 0, 1) := by decide +kernel
theorem dX10_object_1 : decode cX10_object 1 = .ok (.iload_n 1, 1) := by decide +kernel
theorem dX10_object_2 : decode cX10_object 2 = .ok (.invokevirtual 148, 3) := by decide +kernel
theorem dX10_object_5 : decode cX10_object 5 = .ok (.astore_n 2, 1) := by decide +kernel
theorem dX10_object_6 : decode cX10_object 6 = .ok (.aload_n 2, 1) := by decide +kernel
theorem dX10_object_7 : decode cX10_object 7 = .ok (.ifnull 22, 3) := by decide +kernel
theorem dX10_object_10 : decode cX10_object 10 = .ok (.aload_n 2, 1) := by decide +kernel
theorem dX10_object_11 : decode cX10_object 11 = .ok (.getfield 152, 3) := by decide +kernel
theorem dX10_object_14 : decode cX10_object 14 = .ok (.ifCond .ne 15, 3) := by decide +kernel
theorem dX10_object_17 : decode cX10_object 17 = .ok (.aload_n 0, 1) := by decide +kernel
theorem dX10_object_18 : decode cX10_object 18 = .ok (.getfield 47, 3) := by decide +kernel
theorem dX10_object_21 : decode cX10_object 21 = .ok (.invokevirtual 88, 3) := by decide +kernel
theorem dX10_object_24 : decode cX10_object 24 = .ok (.bipush 60, 2) := by decide +kernel
theorem dX10_object_26 : decode cX10_object 26 = .ok (.if_icmp .lt 5, 3) := by decide +kernel
theorem dX10_object_29 : decode cX10_object 29 = .ok (.iconst (-1), 1) := by decide +kernel
theorem dX10_object_30 : decode cX10_object 30 = .ok (.ireturn, 1) := by decide +kernel
theorem dX10_object_31 : decode cX10_object 31 = .ok (.aload_n 0, 1) := by decide +kernel
theorem dX10_object_32 : decode cX10_object 32 = .ok (.aload_n 2, 1) := by decide +kernel
theorem dX10_object_33 : decode cX10_object 33 = .ok (.invokevirtual 164, 3) := by decide +kernel
theorem dX10_object_36 : decode cX10_object 36 = .ok (.istore_n 3, 1) := by decide +kernel
theorem dX10_object_37 : decode cX10_object 37 = .ok (.iload_n 3, 1) := by decide +kernel
theorem dX10_object_38 : decode cX10_object 38 = .ok (.iconst (-1), 1) := by decide +kernel
theorem dX10_object_39 : decode cX10_object 39 = .ok (.if_icmp .eq 13, 3) := by decide +kernel
theorem dX10_object_42 : decode cX10_object 42 = .ok (.aload_n 0, 1) := by decide +kernel
theorem dX10_object_43 : decode cX10_object 43 = .ok (.getfield 7, 3) := by decide +kernel
theorem dX10_object_46 : decode cX10_object 46 = .ok (.iload_n 3, 1) := by decide +kernel
theorem dX10_object_47 : decode cX10_object 47 = .ok (.if_icmp .lt 5, 3) := by decide +kernel
theorem dX10_object_50 : decode cX10_object 50 = .ok (.iconst (-1), 1) := by decide +kernel
theorem dX10_object_51 : decode cX10_object 51 = .ok (.ireturn, 1) := by decide +kernel
theorem dX10_object_52 : decode cX10_object 52 = .ok (.aload_n 0, 1) := by decide +kernel
theorem dX10_object_53 : decode cX10_object 53 = .ok (.getfield 47, 3) := by decide +kernel
theorem dX10_object_56 : decode cX10_object 56 = .ok (.invokevirtual 88, 3) := by decide +kernel
theorem dX10_object_59 : decode cX10_object 59 = .ok (.istore 4, 2) := by decide +kernel
theorem dX10_object_61 : decode cX10_object 61 = .ok (.aload_n 0, 1) := by decide +kernel
theorem dX10_object_62 : decode cX10_object 62 = .ok (.getfield 47, 3) := by decide +kernel
theorem dX10_object_65 : decode cX10_object 65 = .ok (.new 168, 3) := by decide +kernel
theorem dX10_object_68 : decode cX10_object 68 = .ok (.dup, 1) := by decide +kernel
theorem dX10_object_69 : decode cX10_object 69 = .ok (.aload_n 2, 1) := by decide +kernel
theorem dX10_object_70 : decode cX10_object 70 = .ok (.invokespecial 170, 3) := by decide +kernel
theorem dX10_object_73 : decode cX10_object 73 = .ok (.invokevirtual 102, 3) := by decide +kernel
theorem dX10_object_76 : decode cX10_object 76 = .ok (.pop, 1) := by decide +kernel
theorem dX10_object_77 : decode cX10_object 77 = .ok (.aload_n 2, 1) := by decide +kernel
theorem dX10_object_78 : decode cX10_object 78 = .ok (.dup, 1) := by decide +kernel
theorem dX10_object_79 : decode cX10_object 79 = .ok (.getfield 173, 3) := by decide +kernel
theorem dX10_object_82 : decode cX10_object 82 = .ok (.iconst 1, 1) := by decide +kernel
theorem dX10_object_83 : decode cX10_object 83 = .ok (.iadd, 1) := by decide +kernel
theorem dX10_object_84 : decode cX10_object 84 = .ok (.putfield 173, 3) := by decide +kernel
theorem dX10_object_87 : decode cX10_object 87 = .ok (.iload 4, 2) := by decide +kernel
theorem dX10_object_89 : decode cX10_object 89 = .ok (.ireturn, 1) := by decide +kernel
theorem dX10_judge_0 : decode cX10_judge 0 = .ok (.iload_n 1, 1) := by decide +kernel
theorem dX10_judge_1 : decode cX10_judge 1 = .ok (.ifCond .lt 14, 3) := by decide +kernel
theorem dX10_judge_4 : decode cX10_judge 4 = .ok (.iload_n 1, 1) := by decide +kernel
theorem dX10_judge_5 : decode cX10_judge 5 = .ok (.aload_n 0, 1) := by decide +kernel
theorem dX10_judge_6 : decode cX10_judge 6 = .ok (.getfield 47, 3) := by decide +kernel
theorem dX10_judge_9 : decode cX10_judge 9 = .ok (.invokevirtual 88, 3) := by decide +kernel
theorem dX10_judge_12 : decode cX10_judge 12 = .ok (.if_icmp .lt 5, 3) := by decide +kernel
theorem dX10_judge_15 : decode cX10_judge 15 = .ok (.iconst 0, 1) := by decide +kernel
theorem dX10_judge_16 : decode cX10_judge 16 = .ok (.ireturn, 1) := by decide +kernel
theorem dX10_judge_17 : decode cX10_judge 17 = .ok (.aload_n 0, 1) := by decide +kernel
theorem dX10_judge_18 : decode cX10_judge 18 = .ok (.getfield 47, 3) := by decide +kernel
theorem dX10_judge_21 : decode cX10_judge 21 = .ok (.iload_n 1, 1) := by decide +kernel
theorem dX10_judge_22 : decode cX10_judge 22 = .ok (.invokevirtual 176, 3) := by decide +kernel
theorem dX10_judge_25 : decode cX10_judge 25 = .ok (.checkcast 168, 3) := by decide +kernel
theorem dX10_judge_28 : decode cX10_judge 28 = .ok (.astore_n 3, 1) := by decide +kernel
theorem dX10_judge_29 : decode cX10_judge 29 = .ok (.aload_n 3, 1) := by decide +kernel
theorem dX10_judge_30 : decode cX10_judge 30 = .ok (.getfield 180, 3) := by decide +kernel
theorem dX10_judge_33 : decode cX10_judge 33 = .ok (.ifCond .ne 5, 3) := by decide +kernel
theorem dX10_judge_36 : decode cX10_judge 36 = .ok (.iconst 0, 1) := by decide +kernel
theorem dX10_judge_37 : decode cX10_judge 37 = .ok (.ireturn, 1) := by decide +kernel
theorem dX10_judge_38 : decode cX10_judge 38 = .ok (.aload_n 3, 1) := by decide +kernel
theorem dX10_judge_39 : decode cX10_judge 39 = .ok (.iconst 0, 1) := by decide +kernel
theorem dX10_judge_40 : decode cX10_judge 40 = .ok (.putfield 180, 3) := by decide +kernel
theorem dX10_judge_43 : decode cX10_judge 43 = .ok (.iload_n 2, 1) := by decide +kernel
theorem dX10_judge_44 : decode cX10_judge 44 = .ok (.ifCond .ne 16, 3) := by decide +kernel
theorem dX10_judge_47 : decode cX10_judge 47 = .ok (.aload_n 3, 1) := by decide +kernel
theorem dX10_judge_48 : decode cX10_judge 48 = .ok (.getfield 184, 3) := by decide +kernel
theorem dX10_judge_51 : decode cX10_judge 51 = .ok (.dup, 1) := by decide +kernel
theorem dX10_judge_52 : decode cX10_judge 52 = .ok (.getfield 173, 3) := by decide +kernel
theorem dX10_judge_55 : decode cX10_judge 55 = .ok (.iconst 1, 1) := by decide +kernel
theorem dX10_judge_56 : decode cX10_judge 56 = .ok (.isub, 1) := by decide +kernel
theorem dX10_judge_57 : decode cX10_judge 57 = .ok (.putfield 173, 3) := by decide +kernel
theorem dX10_judge_60 : decode cX10_judge 60 = .ok (.iconst 1, 1) := by decide +kernel
theorem dX10_judge_61 : decode cX10_judge 61 = .ok (.ireturn, 1) := by decide +kernel
theorem dX10_registrar_0 : decode cX10_registrar 0 = .ok (.iload_n 1, 1) := by decide +kernel
theorem dX10_registrar_1 : decode cX10_registrar 1 = .ok (.ifCond .lt 18, 3) := by decide +kernel
theorem dX10_registrar_4 : decode cX10_registrar 4 = .ok (.iload_n 1, 1) := by decide +kernel
theorem dX10_registrar_5 : decode cX10_registrar 5 = .ok (.bipush 31, 2) := by decide +kernel
theorem dX10_registrar_7 : decode cX10_registrar 7 = .ok (.if_icmp .gt 12, 3) := by decide +kernel
theorem dX10_registrar_10 : decode cX10_registrar 10 = .ok (.aload_n 0, 1) := by decide +kernel
theorem dX10_registrar_11 : decode cX10_registrar 11 = .ok (.getfield 16, 3) := by decide +kernel
theorem dX10_registrar_14 : decode cX10_registrar 14 = .ok (.bipush 6, 2) := by decide +kernel
theorem dX10_registrar_16 : decode cX10_registrar 16 = .ok (.if_icmp .lt 5, 3) := by decide +kernel
theorem dX10_registrar_19 : decode cX10_registrar 19 = .ok (.iconst (-1), 1) := by decide +kernel
theorem dX10_registrar_20 : decode cX10_registrar 20 = .ok (.ireturn, 1) := by decide +kernel
theorem dX10_registrar_21 : decode cX10_registrar 21 = .ok (.aload_n 0, 1) := by decide +kernel
theorem dX10_registrar_22 : decode cX10_registrar 22 = .ok (.getfield 16, 3) := by decide +kernel
theorem dX10_registrar_25 : decode cX10_registrar 25 = .ok (.istore_n 2, 1) := by decide +kernel
theorem dX10_registrar_26 : decode cX10_registrar 26 = .ok (.aload_n 0, 1) := by decide +kernel
theorem dX10_registrar_27 : decode cX10_registrar 27 = .ok (.getfield 19, 3) := by decide +kernel
theorem dX10_registrar_30 : decode cX10_registrar 30 = .ok (.iload_n 2, 1) := by decide +kernel
theorem dX10_registrar_31 : decode cX10_registrar 31 = .ok (.iload_n 1, 1) := by decide +kernel
theorem dX10_registrar_32 : decode cX10_registrar 32 = .ok (.iastore, 1) := by decide +kernel
theorem dX10_registrar_33 : decode cX10_registrar 33 = .ok (.aload_n 0, 1) := by decide +kernel
theorem dX10_registrar_34 : decode cX10_registrar 34 = .ok (.dup, 1) := by decide +kernel
theorem dX10_registrar_35 : decode cX10_registrar 35 = .ok (.getfield 16, 3) := by decide +kernel
theorem dX10_registrar_38 : decode cX10_registrar 38 = .ok (.iconst 1, 1) := by decide +kernel
theorem dX10_registrar_39 : decode cX10_registrar 39 = .ok (.iadd, 1) := by decide +kernel
theorem dX10_registrar_40 : decode cX10_registrar 40 = .ok (.putfield 16, 3) := by decide +kernel
theorem dX10_registrar_43 : decode cX10_registrar 43 = .ok (.iload_n 2, 1) := by decide +kernel
theorem dX10_registrar_44 : decode cX10_registrar 44 = .ok (.ireturn, 1) := by decide +kernel
theorem dX10_book_0 : decode cX10_book 0 = .ok (.aload_n 0, 1) := by decide +kernel
theorem dX10_book_1 : decode cX10_book 1 = .ok (.iload_n 1, 1) := by decide +kernel
theorem dX10_book_2 : decode cX10_book 2 = .ok (.invokevirtual 148, 3) := by decide +kernel
theorem dX10_book_5 : decode cX10_book 5 = .ok (.astore 4, 2) := by decide +kernel
theorem dX10_book_7 : decode cX10_book 7 = .ok (.aload 4, 2) := by decide +kernel
theorem dX10_book_9 : decode cX10_book 9 = .ok (.ifnull 19, 3) := by decide +kernel
theorem dX10_book_12 : decode cX10_book 12 = .ok (.aload_n 0, 1) := by decide +kernel
theorem dX10_book_13 : decode cX10_book 13 = .ok (.iload_n 2, 1) := by decide +kernel
theorem dX10_book_14 : decode cX10_book 14 = .ok (.invokevirtual 188, 3) := by decide +kernel
theorem dX10_book_17 : decode cX10_book 17 = .ok (.ifCond .eq 11, 3) := by decide +kernel
theorem dX10_book_20 : decode cX10_book 20 = .ok (.aload_n 0, 1) := by decide +kernel
theorem dX10_book_21 : decode cX10_book 21 = .ok (.iload_n 3, 1) := by decide +kernel
theorem dX10_book_22 : decode cX10_book 22 = .ok (.invokevirtual 191, 3) := by decide +kernel
theorem dX10_book_25 : decode cX10_book 25 = .ok (.ifCond .ne 5, 3) := by decide +kernel
theorem dX10_book_28 : decode cX10_book 28 = .ok (.iconst (-1), 1) := by decide +kernel
theorem dX10_book_29 : decode cX10_book 29 = .ok (.ireturn, 1) := by decide +kernel
theorem dX10_book_30 : decode cX10_book 30 = .ok (.aload_n 0, 1) := by decide +kernel
theorem dX10_book_31 : decode cX10_book 31 = .ok (.aload 4, 2) := by decide +kernel
theorem dX10_book_33 : decode cX10_book 33 = .ok (.iload_n 2, 1) := by decide +kernel
theorem dX10_book_34 : decode cX10_book 34 = .ok (.invokevirtual 194, 3) := by decide +kernel
theorem dX10_book_37 : decode cX10_book 37 = .ok (.istore 5, 2) := by decide +kernel
theorem dX10_book_39 : decode cX10_book 39 = .ok (.iload 5, 2) := by decide +kernel
theorem dX10_book_41 : decode cX10_book 41 = .ok (.ifCond .ne 19, 3) := by decide +kernel
theorem dX10_book_44 : decode cX10_book 44 = .ok (.aload_n 0, 1) := by decide +kernel
theorem dX10_book_45 : decode cX10_book 45 = .ok (.iload_n 2, 1) := by decide +kernel
theorem dX10_book_46 : decode cX10_book 46 = .ok (.aload 4, 2) := by decide +kernel
theorem dX10_book_48 : decode cX10_book 48 = .ok (.invokevirtual 198, 3) := by decide +kernel
theorem dX10_book_51 : decode cX10_book 51 = .ok (.aload_n 0, 1) := by decide +kernel
theorem dX10_book_52 : decode cX10_book 52 = .ok (.aload 4, 2) := by decide +kernel
theorem dX10_book_54 : decode cX10_book 54 = .ok (.iload_n 3, 1) := by decide +kernel
theorem dX10_book_55 : decode cX10_book 55 = .ok (.invokevirtual 202, 3) := by decide +kernel
theorem dX10_book_58 : decode cX10_book 58 = .ok (.istore 5, 2) := by decide +kernel
theorem dX10_book_60 : decode cX10_book 60 = .ok (.iload 5, 2) := by decide +kernel
theorem dX10_book_62 : decode cX10_book 62 = .ok (.ifCond .ne 10, 3) := by decide +kernel
theorem dX10_book_65 : decode cX10_book 65 = .ok (.aload 4, 2) := by decide +kernel
theorem dX10_book_67 : decode cX10_book 67 = .ok (.iload_n 2, 1) := by decide +kernel
theorem dX10_book_68 : decode cX10_book 68 = .ok (.iload_n 3, 1) := by decide +kernel
theorem dX10_book_69 : decode cX10_book 69 = .ok (.invokevirtual 155, 3) := by decide +kernel
theorem dX10_book_72 : decode cX10_book 72 = .ok (.iload 5, 2) := by decide +kernel
theorem dX10_book_74 : decode cX10_book 74 = .ok (.ireturn, 1) := by decide +kernel
theorem dX10_order_0 : decode cX10_order 0 = .ok (.aload_n 0, 1) := by decide +kernel
theorem dX10_order_1 : decode cX10_order 1 = .ok (.iload_n 1, 1) := by decide +kernel
theorem dX10_order_2 : decode cX10_order 2 = .ok (.invokevirtual 188, 3) := by decide +kernel
theorem dX10_order_5 : decode cX10_order 5 = .ok (.ifCond .ne 5, 3) := by decide +kernel
theorem dX10_order_8 : decode cX10_order 8 = .ok (.iconst (-1), 1) := by decide +kernel
theorem dX10_order_9 : decode cX10_order 9 = .ok (.ireturn, 1) := by decide +kernel
theorem dX10_order_10 : decode cX10_order 10 = .ok (.aload_n 0, 1) := by decide +kernel
theorem dX10_order_11 : decode cX10_order 11 = .ok (.iload_n 1, 1) := by decide +kernel
theorem dX10_order_12 : decode cX10_order 12 = .ok (.aconst_null, 1) := by decide +kernel
theorem dX10_order_13 : decode cX10_order 13 = .ok (.invokevirtual 198, 3) := by decide +kernel
theorem dX10_order_16 : decode cX10_order 16 = .ok (.iconst 0, 1) := by decide +kernel
theorem dX10_order_17 : decode cX10_order 17 = .ok (.istore_n 2, 1) := by decide +kernel
theorem dX10_order_18 : decode cX10_order 18 = .ok (.iconst 0, 1) := by decide +kernel
theorem dX10_order_19 : decode cX10_order 19 = .ok (.istore_n 3, 1) := by decide +kernel
theorem dX10_order_20 : decode cX10_order 20 = .ok (.iload_n 3, 1) := by decide +kernel
theorem dX10_order_21 : decode cX10_order 21 = .ok (.aload_n 0, 1) := by decide +kernel
theorem dX10_order_22 : decode cX10_order 22 = .ok (.getfield 44, 3) := by decide +kernel
theorem dX10_order_25 : decode cX10_order 25 = .ok (.invokevirtual 88, 3) := by decide +kernel
theorem dX10_order_28 : decode cX10_order 28 = .ok (.if_icmp .ge 31, 3) := by decide +kernel
theorem dX10_order_31 : decode cX10_order 31 = .ok (.aload_n 0, 1) := by decide +kernel
theorem dX10_order_32 : decode cX10_order 32 = .ok (.aload_n 0, 1) := by decide +kernel
theorem dX10_order_33 : decode cX10_order 33 = .ok (.getfield 44, 3) := by decide +kernel
theorem dX10_order_36 : decode cX10_order 36 = .ok (.iload_n 3, 1) := by decide +kernel
theorem dX10_order_37 : decode cX10_order 37 = .ok (.invokevirtual 176, 3) := by decide +kernel
theorem dX10_order_40 : decode cX10_order 40 = .ok (.checkcast 143, 3) := by decide +kernel
theorem dX10_order_43 : decode cX10_order 43 = .ok (.iload_n 1, 1) := by decide +kernel
theorem dX10_order_44 : decode cX10_order 44 = .ok (.invokevirtual 205, 3) := by decide +kernel
theorem dX10_order_47 : decode cX10_order 47 = .ok (.ifCond .eq 6, 3) := by decide +kernel
theorem dX10_order_50 : decode cX10_order 50 = .ok (.iinc 2 1, 3) := by decide +kernel
theorem dX10_order_53 : decode cX10_order 53 = .ok (.iinc 3 1, 3) := by decide +kernel
theorem dX10_order_56 : decode cX10_order 56 = .ok (.goto (-36), 3) := by decide +kernel
theorem dX10_order_59 : decode cX10_order 59 = .ok (.iload_n 2, 1) := by decide +kernel
theorem dX10_order_60 : decode cX10_order 60 = .ok (.ireturn, 1) := by decide +kernel
theorem dX10_wed_0 : decode cX10_wed 0 = .ok (.aload_n 0, 1) := by decide +kernel
theorem dX10_wed_1 : decode cX10_wed 1 = .ok (.iload_n 1, 1) := by decide +kernel
theorem dX10_wed_2 : decode cX10_wed 2 = .ok (.invokevirtual 148, 3) := by decide +kernel
theorem dX10_wed_5 : decode cX10_wed 5 = .ok (.astore_n 2, 1) := by decide +kernel
theorem dX10_wed_6 : decode cX10_wed 6 = .ok (.aload_n 2, 1) := by decide +kernel
theorem dX10_wed_7 : decode cX10_wed 7 = .ok (.ifnull 21, 3) := by decide +kernel
theorem dX10_wed_10 : decode cX10_wed 10 = .ok (.aload_n 2, 1) := by decide +kernel
theorem dX10_wed_11 : decode cX10_wed 11 = .ok (.getfield 152, 3) := by decide +kernel
theorem dX10_wed_14 : decode cX10_wed 14 = .ok (.ifCond .ne 14, 3) := by decide +kernel
theorem dX10_wed_17 : decode cX10_wed 17 = .ok (.aload_n 2, 1) := by decide +kernel
theorem dX10_wed_18 : decode cX10_wed 18 = .ok (.getfield 209, 3) := by decide +kernel
theorem dX10_wed_21 : decode cX10_wed 21 = .ok (.aload_n 0, 1) := by decide +kernel
theorem dX10_wed_22 : decode cX10_wed 22 = .ok (.getfield 7, 3) := by decide +kernel
theorem dX10_wed_25 : decode cX10_wed 25 = .ok (.if_icmp .eq 5, 3) := by decide +kernel
theorem dX10_wed_28 : decode cX10_wed 28 = .ok (.iconst (-1), 1) := by decide +kernel
theorem dX10_wed_29 : decode cX10_wed 29 = .ok (.ireturn, 1) := by decide +kernel
theorem dX10_wed_30 : decode cX10_wed 30 = .ok (.aload_n 0, 1) := by decide +kernel
theorem dX10_wed_31 : decode cX10_wed 31 = .ok (.aload_n 2, 1) := by decide +kernel
theorem dX10_wed_32 : decode cX10_wed 32 = .ok (.getfield 212, 3) := by decide +kernel
theorem dX10_wed_35 : decode cX10_wed 35 = .ok (.aload_n 2, 1) := by decide +kernel
theorem dX10_wed_36 : decode cX10_wed 36 = .ok (.getfield 215, 3) := by decide +kernel
theorem dX10_wed_39 : decode cX10_wed 39 = .ok (.aload_n 0, 1) := by decide +kernel
theorem dX10_wed_40 : decode cX10_wed 40 = .ok (.getfield 7, 3) := by decide +kernel
theorem dX10_wed_43 : decode cX10_wed 43 = .ok (.invokevirtual 131, 3) := by decide +kernel
theorem dX10_wed_46 : decode cX10_wed 46 = .ok (.ifCond .ne 15, 3) := by decide +kernel
theorem dX10_wed_49 : decode cX10_wed 49 = .ok (.aload_n 0, 1) := by decide +kernel
theorem dX10_wed_50 : decode cX10_wed 50 = .ok (.aload_n 2, 1) := by decide +kernel
theorem dX10_wed_51 : decode cX10_wed 51 = .ok (.aload_n 0, 1) := by decide +kernel
theorem dX10_wed_52 : decode cX10_wed 52 = .ok (.getfield 7, 3) := by decide +kernel
theorem dX10_wed_55 : decode cX10_wed 55 = .ok (.invokevirtual 218, 3) := by decide +kernel
theorem dX10_wed_58 : decode cX10_wed 58 = .ok (.ifCond .ne 5, 3) := by decide +kernel
theorem dX10_wed_61 : decode cX10_wed 61 = .ok (.iconst (-1), 1) := by decide +kernel
theorem dX10_wed_62 : decode cX10_wed 62 = .ok (.ireturn, 1) := by decide +kernel
theorem dX10_wed_63 : decode cX10_wed 63 = .ok (.aload_n 2, 1) := by decide +kernel
theorem dX10_wed_64 : decode cX10_wed 64 = .ok (.iconst 1, 1) := by decide +kernel
theorem dX10_wed_65 : decode cX10_wed 65 = .ok (.putfield 152, 3) := by decide +kernel
theorem dX10_wed_68 : decode cX10_wed 68 = .ok (.aload_n 2, 1) := by decide +kernel
theorem dX10_wed_69 : decode cX10_wed 69 = .ok (.getfield 212, 3) := by decide +kernel
theorem dX10_wed_72 : decode cX10_wed 72 = .ok (.aload_n 2, 1) := by decide +kernel
theorem dX10_wed_73 : decode cX10_wed 73 = .ok (.getfield 215, 3) := by decide +kernel
theorem dX10_wed_76 : decode cX10_wed 76 = .ok (.putfield 135, 3) := by decide +kernel
theorem dX10_wed_79 : decode cX10_wed 79 = .ok (.aload_n 2, 1) := by decide +kernel
theorem dX10_wed_80 : decode cX10_wed 80 = .ok (.getfield 215, 3) := by decide +kernel
theorem dX10_wed_83 : decode cX10_wed 83 = .ok (.aload_n 2, 1) := by decide +kernel
theorem dX10_wed_84 : decode cX10_wed 84 = .ok (.getfield 212, 3) := by decide +kernel
theorem dX10_wed_87 : decode cX10_wed 87 = .ok (.putfield 135, 3) := by decide +kernel
theorem dX10_wed_90 : decode cX10_wed 90 = .ok (.aload_n 0, 1) := by decide +kernel
theorem dX10_wed_91 : decode cX10_wed 91 = .ok (.getfield 50, 3) := by decide +kernel
theorem dX10_wed_94 : decode cX10_wed 94 = .ok (.invokevirtual 88, 3) := by decide +kernel
theorem dX10_wed_97 : decode cX10_wed 97 = .ok (.istore_n 3, 1) := by decide +kernel
theorem dX10_wed_98 : decode cX10_wed 98 = .ok (.aload_n 0, 1) := by decide +kernel
theorem dX10_wed_99 : decode cX10_wed 99 = .ok (.getfield 50, 3) := by decide +kernel
theorem dX10_wed_102 : decode cX10_wed 102 = .ok (.new 221, 3) := by decide +kernel
theorem dX10_wed_105 : decode cX10_wed 105 = .ok (.dup, 1) := by decide +kernel
theorem dX10_wed_106 : decode cX10_wed 106 = .ok (.aload_n 2, 1) := by decide +kernel
theorem dX10_wed_107 : decode cX10_wed 107 = .ok (.aload_n 0, 1) := by decide +kernel
theorem dX10_wed_108 : decode cX10_wed 108 = .ok (.getfield 7, 3) := by decide +kernel
theorem dX10_wed_111 : decode cX10_wed 111 = .ok (.invokespecial 223, 3) := by decide +kernel
theorem dX10_wed_114 : decode cX10_wed 114 = .ok (.invokevirtual 102, 3) := by decide +kernel
theorem dX10_wed_117 : decode cX10_wed 117 = .ok (.pop, 1) := by decide +kernel
theorem dX10_wed_118 : decode cX10_wed 118 = .ok (.iload_n 3, 1) := by decide +kernel
theorem dX10_wed_119 : decode cX10_wed 119 = .ok (.ireturn, 1) := by decide +kernel
theorem dX10_part_0 : decode cX10_part 0 = .ok (.aload_n 0, 1) := by decide +kernel
theorem dX10_part_1 : decode cX10_part 1 = .ok (.iload_n 1, 1) := by decide +kernel
theorem dX10_part_2 : decode cX10_part 2 = .ok (.invokevirtual 95, 3) := by decide +kernel
theorem dX10_part_5 : decode cX10_part 5 = .ok (.astore_n 2, 1) := by decide +kernel
theorem dX10_part_6 : decode cX10_part 6 = .ok (.aload_n 2, 1) := by decide +kernel
theorem dX10_part_7 : decode cX10_part 7 = .ok (.ifnonnull 5, 3) := by decide +kernel
theorem dX10_part_10 : decode cX10_part 10 = .ok (.iconst 0, 1) := by decide +kernel
theorem dX10_part_11 : decode cX10_part 11 = .ok (.ireturn, 1) := by decide +kernel
theorem dX10_part_12 : decode cX10_part 12 = .ok (.aload_n 2, 1) := by decide +kernel
theorem dX10_part_13 : decode cX10_part 13 = .ok (.getfield 135, 3) := by decide +kernel
theorem dX10_part_16 : decode cX10_part 16 = .ok (.astore_n 3, 1) := by decide +kernel
theorem dX10_part_17 : decode cX10_part 17 = .ok (.aload_n 3, 1) := by decide +kernel
theorem dX10_part_18 : decode cX10_part 18 = .ok (.ifnonnull 5, 3) := by decide +kernel
theorem dX10_part_21 : decode cX10_part 21 = .ok (.iconst 0, 1) := by decide +kernel
theorem dX10_part_22 : decode cX10_part 22 = .ok (.ireturn, 1) := by decide +kernel
theorem dX10_part_23 : decode cX10_part 23 = .ok (.aload_n 3, 1) := by decide +kernel
theorem dX10_part_24 : decode cX10_part 24 = .ok (.aconst_null, 1) := by decide +kernel
theorem dX10_part_25 : decode cX10_part 25 = .ok (.putfield 135, 3) := by decide +kernel
theorem dX10_part_28 : decode cX10_part 28 = .ok (.aload_n 2, 1) := by decide +kernel
theorem dX10_part_29 : decode cX10_part 29 = .ok (.aconst_null, 1) := by decide +kernel
theorem dX10_part_30 : decode cX10_part 30 = .ok (.putfield 135, 3) := by decide +kernel
theorem dX10_part_33 : decode cX10_part 33 = .ok (.iconst 1, 1) := by decide +kernel
theorem dX10_part_34 : decode cX10_part 34 = .ok (.ireturn, 1) := by decide +kernel
theorem dX10_correct_0 : decode cX10_correct 0 = .ok (.aload_n 0, 1) := by decide +kernel
theorem dX10_correct_1 : decode cX10_correct 1 = .ok (.iload_n 1, 1) := by decide +kernel
theorem dX10_correct_2 : decode cX10_correct 2 = .ok (.invokevirtual 226, 3) := by decide +kernel
theorem dX10_correct_5 : decode cX10_correct 5 = .ok (.astore 4, 2) := by decide +kernel
theorem dX10_correct_7 : decode cX10_correct 7 = .ok (.aload 4, 2) := by decide +kernel
theorem dX10_correct_9 : decode cX10_correct 9 = .ok (.ifnull 12, 3) := by decide +kernel
theorem dX10_correct_12 : decode cX10_correct 12 = .ok (.iload_n 2, 1) := by decide +kernel
theorem dX10_correct_13 : decode cX10_correct 13 = .ok (.ifCond .lt 8, 3) := by decide +kernel
theorem dX10_correct_16 : decode cX10_correct 16 = .ok (.iload_n 2, 1) := by decide +kernel
theorem dX10_correct_17 : decode cX10_correct 17 = .ok (.iconst 5, 1) := by decide +kernel
theorem dX10_correct_18 : decode cX10_correct 18 = .ok (.if_icmp .lt 5, 3) := by decide +kernel
theorem dX10_correct_21 : decode cX10_correct 21 = .ok (.iconst 0, 1) := by decide +kernel
theorem dX10_correct_22 : decode cX10_correct 22 = .ok (.ireturn, 1) := by decide +kernel
theorem dX10_correct_23 : decode cX10_correct 23 = .ok (.iload_n 3, 1) := by decide +kernel
theorem dX10_correct_24 : decode cX10_correct 24 = .ok (.ifCond .lt 22, 3) := by decide +kernel
theorem dX10_correct_27 : decode cX10_correct 27 = .ok (.iload_n 3, 1) := by decide +kernel
theorem dX10_correct_28 : decode cX10_correct 28 = .ok (.sipush 20000, 3) := by decide +kernel
theorem dX10_correct_31 : decode cX10_correct 31 = .ok (.if_icmp .gt 15, 3) := by decide +kernel
theorem dX10_correct_34 : decode cX10_correct 34 = .ok (.aload_n 0, 1) := by decide +kernel
theorem dX10_correct_35 : decode cX10_correct 35 = .ok (.getfield 53, 3) := by decide +kernel
theorem dX10_correct_38 : decode cX10_correct 38 = .ok (.invokevirtual 88, 3) := by decide +kernel
theorem dX10_correct_41 : decode cX10_correct 41 = .ok (.bipush 100, 2) := by decide +kernel
theorem dX10_correct_43 : decode cX10_correct 43 = .ok (.if_icmp .lt 5, 3) := by decide +kernel
theorem dX10_correct_46 : decode cX10_correct 46 = .ok (.iconst 0, 1) := by decide +kernel
theorem dX10_correct_47 : decode cX10_correct 47 = .ok (.ireturn, 1) := by decide +kernel
theorem dX10_correct_48 : decode cX10_correct 48 = .ok (.aload_n 0, 1) := by decide +kernel
theorem dX10_correct_49 : decode cX10_correct 49 = .ok (.getfield 53, 3) := by decide +kernel
theorem dX10_correct_52 : decode cX10_correct 52 = .ok (.new 230, 3) := by decide +kernel
theorem dX10_correct_55 : decode cX10_correct 55 = .ok (.dup, 1) := by decide +kernel
theorem dX10_correct_56 : decode cX10_correct 56 = .ok (.iload_n 1, 1) := by decide +kernel
theorem dX10_correct_57 : decode cX10_correct 57 = .ok (.iload_n 2, 1) := by decide +kernel
theorem dX10_correct_58 : decode cX10_correct 58 = .ok (.iload_n 3, 1) := by decide +kernel
theorem dX10_correct_59 : decode cX10_correct 59 = .ok (.aload_n 0, 1) := by decide +kernel
theorem dX10_correct_60 : decode cX10_correct 60 = .ok (.getfield 7, 3) := by decide +kernel
theorem dX10_correct_63 : decode cX10_correct 63 = .ok (.invokespecial 232, 3) := by decide +kernel
theorem dX10_correct_66 : decode cX10_correct 66 = .ok (.invokevirtual 102, 3) := by decide +kernel
theorem dX10_correct_69 : decode cX10_correct 69 = .ok (.pop, 1) := by decide +kernel
theorem dX10_correct_70 : decode cX10_correct 70 = .ok (.iconst 1, 1) := by decide +kernel
theorem dX10_correct_71 : decode cX10_correct 71 = .ok (.ireturn, 1) := by decide +kernel
theorem dX10_entry_0 : decode cX10_entry 0 = .ok (.aload_n 0, 1) := by decide +kernel
theorem dX10_entry_1 : decode cX10_entry 1 = .ok (.iload_n 1, 1) := by decide +kernel
theorem dX10_entry_2 : decode cX10_entry 2 = .ok (.invokevirtual 226, 3) := by decide +kernel
theorem dX10_entry_5 : decode cX10_entry 5 = .ok (.astore 4, 2) := by decide +kernel
theorem dX10_entry_7 : decode cX10_entry 7 = .ok (.aload 4, 2) := by decide +kernel
theorem dX10_entry_9 : decode cX10_entry 9 = .ok (.ifnull 30, 3) := by decide +kernel
theorem dX10_entry_12 : decode cX10_entry 12 = .ok (.iload_n 2, 1) := by decide +kernel
theorem dX10_entry_13 : decode cX10_entry 13 = .ok (.ifCond .lt 26, 3) := by decide +kernel
theorem dX10_entry_16 : decode cX10_entry 16 = .ok (.iload_n 2, 1) := by decide +kernel
theorem dX10_entry_17 : decode cX10_entry 17 = .ok (.bipush 8, 2) := by decide +kernel
theorem dX10_entry_19 : decode cX10_entry 19 = .ok (.if_icmp .ge 20, 3) := by decide +kernel
theorem dX10_entry_22 : decode cX10_entry 22 = .ok (.iload_n 3, 1) := by decide +kernel
theorem dX10_entry_23 : decode cX10_entry 23 = .ok (.aload 4, 2) := by decide +kernel
theorem dX10_entry_25 : decode cX10_entry 25 = .ok (.getfield 233, 3) := by decide +kernel
theorem dX10_entry_28 : decode cX10_entry 28 = .ok (.if_icmp .lt 11, 3) := by decide +kernel
theorem dX10_entry_31 : decode cX10_entry 31 = .ok (.iload_n 3, 1) := by decide +kernel
theorem dX10_entry_32 : decode cX10_entry 32 = .ok (.aload_n 0, 1) := by decide +kernel
theorem dX10_entry_33 : decode cX10_entry 33 = .ok (.getfield 7, 3) := by decide +kernel
theorem dX10_entry_36 : decode cX10_entry 36 = .ok (.if_icmp .le 5, 3) := by decide +kernel
theorem dX10_entry_39 : decode cX10_entry 39 = .ok (.iconst (-1), 1) := by decide +kernel
theorem dX10_entry_40 : decode cX10_entry 40 = .ok (.ireturn, 1) := by decide +kernel
theorem dX10_entry_41 : decode cX10_entry 41 = .ok (.aload_n 0, 1) := by decide +kernel
theorem dX10_entry_42 : decode cX10_entry 42 = .ok (.getfield 53, 3) := by decide +kernel
theorem dX10_entry_45 : decode cX10_entry 45 = .ok (.invokevirtual 88, 3) := by decide +kernel
theorem dX10_entry_48 : decode cX10_entry 48 = .ok (.iconst 1, 1) := by decide +kernel
theorem dX10_entry_49 : decode cX10_entry 49 = .ok (.isub, 1) := by decide +kernel
theorem dX10_entry_50 : decode cX10_entry 50 = .ok (.istore 5, 2) := by decide +kernel
theorem dX10_entry_52 : decode cX10_entry 52 = .ok (.iload 5, 2) := by decide +kernel
theorem dX10_entry_54 : decode cX10_entry 54 = .ok (.ifCond .lt 56, 3) := by decide +kernel
theorem dX10_entry_57 : decode cX10_entry 57 = .ok (.aload_n 0, 1) := by decide +kernel
theorem dX10_entry_58 : decode cX10_entry 58 = .ok (.getfield 53, 3) := by decide +kernel
theorem dX10_entry_61 : decode cX10_entry 61 = .ok (.iload 5, 2) := by decide +kernel
theorem dX10_entry_63 : decode cX10_entry 63 = .ok (.invokevirtual 176, 3) := by decide +kernel
theorem dX10_entry_66 : decode cX10_entry 66 = .ok (.checkcast 230, 3) := by decide +kernel
theorem dX10_entry_69 : decode cX10_entry 69 = .ok (.astore 6, 2) := by decide +kernel
theorem dX10_entry_71 : decode cX10_entry 71 = .ok (.aload 6, 2) := by decide +kernel
theorem dX10_entry_73 : decode cX10_entry 73 = .ok (.getfield 236, 3) := by decide +kernel
theorem dX10_entry_76 : decode cX10_entry 76 = .ok (.iload_n 1, 1) := by decide +kernel
theorem dX10_entry_77 : decode cX10_entry 77 = .ok (.if_icmp .ne 27, 3) := by decide +kernel
theorem dX10_entry_80 : decode cX10_entry 80 = .ok (.aload 6, 2) := by decide +kernel
theorem dX10_entry_82 : decode cX10_entry 82 = .ok (.getfield 239, 3) := by decide +kernel
theorem dX10_entry_85 : decode cX10_entry 85 = .ok (.iload_n 2, 1) := by decide +kernel
theorem dX10_entry_86 : decode cX10_entry 86 = .ok (.if_icmp .ne 18, 3) := by decide +kernel
theorem dX10_entry_89 : decode cX10_entry 89 = .ok (.aload 6, 2) := by decide +kernel
theorem dX10_entry_91 : decode cX10_entry 91 = .ok (.getfield 242, 3) := by decide +kernel
theorem dX10_entry_94 : decode cX10_entry 94 = .ok (.iload_n 3, 1) := by decide +kernel
theorem dX10_entry_95 : decode cX10_entry 95 = .ok (.if_icmp .gt 9, 3) := by decide +kernel
theorem dX10_entry_98 : decode cX10_entry 98 = .ok (.aload 6, 2) := by decide +kernel
theorem dX10_entry_100 : decode cX10_entry 100 = .ok (.getfield 243, 3) := by decide +kernel
theorem dX10_entry_103 : decode cX10_entry 103 = .ok (.ireturn, 1) := by decide +kernel
theorem dX10_entry_104 : decode cX10_entry 104 = .ok (.iinc 5 (-1), 3) := by decide +kernel
theorem dX10_entry_107 : decode cX10_entry 107 = .ok (.goto (-55), 3) := by decide +kernel
theorem dX10_entry_110 : decode cX10_entry 110 = .ok (.aload 4, 2) := by decide +kernel
theorem dX10_entry_112 : decode cX10_entry 112 = .ok (.iload_n 2, 1) := by decide +kernel
theorem dX10_entry_113 : decode cX10_entry 113 = .ok (.invokevirtual 246, 3) := by decide +kernel
theorem dX10_entry_116 : decode cX10_entry 116 = .ok (.ireturn, 1) := by decide +kernel
theorem dX10_name_0 : decode cX10_name 0 = .ok (.aload_n 0, 1) := by decide +kernel
theorem dX10_name_1 : decode cX10_name 1 = .ok (.iload_n 1, 1) := by decide +kernel
theorem dX10_name_2 : decode cX10_name 2 = .ok (.invokevirtual 226, 3) := by decide +kernel
theorem dX10_name_5 : decode cX10_name 5 = .ok (.astore 4, 2) := by decide +kernel
theorem dX10_name_7 : decode cX10_name 7 = .ok (.aload 4, 2) := by decide +kernel
theorem dX10_name_9 : decode cX10_name 9 = .ok (.ifnull 21, 3) := by decide +kernel
theorem dX10_name_12 : decode cX10_name 12 = .ok (.iload_n 2, 1) := by decide +kernel
theorem dX10_name_13 : decode cX10_name 13 = .ok (.ifCond .lt 17, 3) := by decide +kernel
theorem dX10_name_16 : decode cX10_name 16 = .ok (.iload_n 2, 1) := by decide +kernel
theorem dX10_name_17 : decode cX10_name 17 = .ok (.iconst 1, 1) := by decide +kernel
theorem dX10_name_18 : decode cX10_name 18 = .ok (.if_icmp .gt 12, 3) := by decide +kernel
theorem dX10_name_21 : decode cX10_name 21 = .ok (.iload_n 3, 1) := by decide +kernel
theorem dX10_name_22 : decode cX10_name 22 = .ok (.ifCond .lt 8, 3) := by decide +kernel
theorem dX10_name_25 : decode cX10_name 25 = .ok (.iload_n 3, 1) := by decide +kernel
theorem dX10_name_26 : decode cX10_name 26 = .ok (.iconst 1, 1) := by decide +kernel
theorem dX10_name_27 : decode cX10_name 27 = .ok (.if_icmp .le 5, 3) := by decide +kernel
theorem dX10_name_30 : decode cX10_name 30 = .ok (.iconst (-1), 1) := by decide +kernel
theorem dX10_name_31 : decode cX10_name 31 = .ok (.ireturn, 1) := by decide +kernel
theorem dX10_name_32 : decode cX10_name 32 = .ok (.aload_n 0, 1) := by decide +kernel
theorem dX10_name_33 : decode cX10_name 33 = .ok (.aload 4, 2) := by decide +kernel
theorem dX10_name_35 : decode cX10_name 35 = .ok (.iload_n 2, 1) := by decide +kernel
theorem dX10_name_36 : decode cX10_name 36 = .ok (.iload_n 3, 1) := by decide +kernel
theorem dX10_name_37 : decode cX10_name 37 = .ok (.invokevirtual 250, 3) := by decide +kernel
theorem dX10_name_40 : decode cX10_name 40 = .ok (.ireturn, 1) := by decide +kernel
theorem dX10_quarrel_0 : decode cX10_quarrel 0 = .ok (.aload_n 0, 1) := by decide +kernel
theorem dX10_quarrel_1 : decode cX10_quarrel 1 = .ok (.iload_n 1, 1) := by decide +kernel
theorem dX10_quarrel_2 : decode cX10_quarrel 2 = .ok (.invokevirtual 226, 3) := by decide +kernel
theorem dX10_quarrel_5 : decode cX10_quarrel 5 = .ok (.astore_n 2, 1) := by decide +kernel
theorem dX10_quarrel_6 : decode cX10_quarrel 6 = .ok (.aload_n 2, 1) := by decide +kernel
theorem dX10_quarrel_7 : decode cX10_quarrel 7 = .ok (.ifnonnull 5, 3) := by decide +kernel
theorem dX10_quarrel_10 : decode cX10_quarrel 10 = .ok (.iconst 0, 1) := by decide +kernel
theorem dX10_quarrel_11 : decode cX10_quarrel 11 = .ok (.ireturn, 1) := by decide +kernel
theorem dX10_quarrel_12 : decode cX10_quarrel 12 = .ok (.aload_n 0, 1) := by decide +kernel
theorem dX10_quarrel_13 : decode cX10_quarrel 13 = .ok (.aload_n 2, 1) := by decide +kernel
theorem dX10_quarrel_14 : decode cX10_quarrel 14 = .ok (.iconst 0, 1) := by decide +kernel
theorem dX10_quarrel_15 : decode cX10_quarrel 15 = .ok (.iconst 0, 1) := by decide +kernel
theorem dX10_quarrel_16 : decode cX10_quarrel 16 = .ok (.invokevirtual 250, 3) := by decide +kernel
theorem dX10_quarrel_19 : decode cX10_quarrel 19 = .ok (.aload_n 0, 1) := by decide +kernel
theorem dX10_quarrel_20 : decode cX10_quarrel 20 = .ok (.aload_n 2, 1) := by decide +kernel
theorem dX10_quarrel_21 : decode cX10_quarrel 21 = .ok (.iconst 0, 1) := by decide +kernel
theorem dX10_quarrel_22 : decode cX10_quarrel 22 = .ok (.iconst 1, 1) := by decide +kernel
theorem dX10_quarrel_23 : decode cX10_quarrel 23 = .ok (.invokevirtual 250, 3) := by decide +kernel
theorem dX10_quarrel_26 : decode cX10_quarrel 26 = .ok (.if_icmp .ne 20, 3) := by decide +kernel
theorem dX10_quarrel_29 : decode cX10_quarrel 29 = .ok (.aload_n 0, 1) := by decide +kernel
theorem dX10_quarrel_30 : decode cX10_quarrel 30 = .ok (.aload_n 2, 1) := by decide +kernel
theorem dX10_quarrel_31 : decode cX10_quarrel 31 = .ok (.iconst 1, 1) := by decide +kernel
theorem dX10_quarrel_32 : decode cX10_quarrel 32 = .ok (.iconst 0, 1) := by decide +kernel
theorem dX10_quarrel_33 : decode cX10_quarrel 33 = .ok (.invokevirtual 250, 3) := by decide +kernel
theorem dX10_quarrel_36 : decode cX10_quarrel 36 = .ok (.aload_n 0, 1) := by decide +kernel
theorem dX10_quarrel_37 : decode cX10_quarrel 37 = .ok (.aload_n 2, 1) := by decide +kernel
theorem dX10_quarrel_38 : decode cX10_quarrel 38 = .ok (.iconst 1, 1) := by decide +kernel
theorem dX10_quarrel_39 : decode cX10_quarrel 39 = .ok (.iconst 1, 1) := by decide +kernel
theorem dX10_quarrel_40 : decode cX10_quarrel 40 = .ok (.invokevirtual 250, 3) := by decide +kernel
theorem dX10_quarrel_43 : decode cX10_quarrel 43 = .ok (.if_icmp .eq 7, 3) := by decide +kernel
theorem dX10_quarrel_46 : decode cX10_quarrel 46 = .ok (.iconst 1, 1) := by decide +kernel
theorem dX10_quarrel_47 : decode cX10_quarrel 47 = .ok (.goto 4, 3) := by decide +kernel
theorem dX10_quarrel_50 : decode cX10_quarrel 50 = .ok (.iconst 0, 1) := by decide +kernel
theorem dX10_quarrel_51 : decode cX10_quarrel 51 = .ok (.ireturn, 1) := by decide +kernel
theorem dX10_told_0 : decode cX10_told 0 = .ok (.aload_n 0, 1) := by decide +kernel
theorem dX10_told_1 : decode cX10_told 1 = .ok (.iload_n 1, 1) := by decide +kernel
theorem dX10_told_2 : decode cX10_told 2 = .ok (.invokevirtual 148, 3) := by decide +kernel
theorem dX10_told_5 : decode cX10_told 5 = .ok (.astore_n 3, 1) := by decide +kernel
theorem dX10_told_6 : decode cX10_told 6 = .ok (.aload_n 3, 1) := by decide +kernel
theorem dX10_told_7 : decode cX10_told 7 = .ok (.ifnonnull 5, 3) := by decide +kernel
theorem dX10_told_10 : decode cX10_told 10 = .ok (.iconst (-1), 1) := by decide +kernel
theorem dX10_told_11 : decode cX10_told 11 = .ok (.ireturn, 1) := by decide +kernel
theorem dX10_told_12 : decode cX10_told 12 = .ok (.iload_n 2, 1) := by decide +kernel
theorem dX10_told_13 : decode cX10_told 13 = .ok (.tableswitch 60 0 4 #[35, 40, 45, 50, 55], 35) := by decide +kernel
theorem dX10_told_48 : decode cX10_told 48 = .ok (.aload_n 3, 1) := by decide +kernel
theorem dX10_told_49 : decode cX10_told 49 = .ok (.getfield 152, 3) := by decide +kernel
theorem dX10_told_52 : decode cX10_told 52 = .ok (.ireturn, 1) := by decide +kernel
theorem dX10_told_53 : decode cX10_told 53 = .ok (.aload_n 3, 1) := by decide +kernel
theorem dX10_told_54 : decode cX10_told 54 = .ok (.getfield 158, 3) := by decide +kernel
theorem dX10_told_57 : decode cX10_told 57 = .ok (.ireturn, 1) := by decide +kernel
theorem dX10_told_58 : decode cX10_told 58 = .ok (.aload_n 3, 1) := by decide +kernel
theorem dX10_told_59 : decode cX10_told 59 = .ok (.getfield 173, 3) := by decide +kernel
theorem dX10_told_62 : decode cX10_told 62 = .ok (.ireturn, 1) := by decide +kernel
theorem dX10_told_63 : decode cX10_told 63 = .ok (.aload_n 3, 1) := by decide +kernel
theorem dX10_told_64 : decode cX10_told 64 = .ok (.getfield 209, 3) := by decide +kernel
theorem dX10_told_67 : decode cX10_told 67 = .ok (.ireturn, 1) := by decide +kernel
theorem dX10_told_68 : decode cX10_told 68 = .ok (.aload_n 3, 1) := by decide +kernel
theorem dX10_told_69 : decode cX10_told 69 = .ok (.getfield 254, 3) := by decide +kernel
theorem dX10_told_72 : decode cX10_told 72 = .ok (.ireturn, 1) := by decide +kernel
theorem dX10_told_73 : decode cX10_told 73 = .ok (.iconst (-1), 1) := by decide +kernel
theorem dX10_told_74 : decode cX10_told 74 = .ok (.ireturn, 1) := by decide +kernel
theorem dX10_married_0 : decode cX10_married 0 = .ok (.aload_n 0, 1) := by decide +kernel
theorem dX10_married_1 : decode cX10_married 1 = .ok (.iload_n 1, 1) := by decide +kernel
theorem dX10_married_2 : decode cX10_married 2 = .ok (.invokevirtual 95, 3) := by decide +kernel
theorem dX10_married_5 : decode cX10_married 5 = .ok (.astore_n 2, 1) := by decide +kernel
theorem dX10_married_6 : decode cX10_married 6 = .ok (.aload_n 2, 1) := by decide +kernel
theorem dX10_married_7 : decode cX10_married 7 = .ok (.ifnonnull 5, 3) := by decide +kernel
theorem dX10_married_10 : decode cX10_married 10 = .ok (.iconst (-1), 1) := by decide +kernel
theorem dX10_married_11 : decode cX10_married 11 = .ok (.ireturn, 1) := by decide +kernel
theorem dX10_married_12 : decode cX10_married 12 = .ok (.aload_n 2, 1) := by decide +kernel
theorem dX10_married_13 : decode cX10_married 13 = .ok (.getfield 135, 3) := by decide +kernel
theorem dX10_married_16 : decode cX10_married 16 = .ok (.astore_n 3, 1) := by decide +kernel
theorem dX10_married_17 : decode cX10_married 17 = .ok (.aload_n 3, 1) := by decide +kernel
theorem dX10_married_18 : decode cX10_married 18 = .ok (.ifnonnull 7, 3) := by decide +kernel
theorem dX10_married_21 : decode cX10_married 21 = .ok (.iconst (-1), 1) := by decide +kernel
theorem dX10_married_22 : decode cX10_married 22 = .ok (.goto 7, 3) := by decide +kernel
theorem dX10_married_25 : decode cX10_married 25 = .ok (.aload_n 3, 1) := by decide +kernel
theorem dX10_married_26 : decode cX10_married 26 = .ok (.getfield 257, 3) := by decide +kernel
theorem dX10_married_29 : decode cX10_married 29 = .ok (.ireturn, 1) := by decide +kernel
theorem dX10_count_0 : decode cX10_count 0 = .ok (.iload_n 1, 1) := by decide +kernel
theorem dX10_count_1 : decode cX10_count 1 = .ok (.tableswitch 81 0 5 #[39, 44, 52, 60, 68, 76], 39) := by decide +kernel
theorem dX10_count_40 : decode cX10_count 40 = .ok (.aload_n 0, 1) := by decide +kernel
theorem dX10_count_41 : decode cX10_count 41 = .ok (.getfield 7, 3) := by decide +kernel
theorem dX10_count_44 : decode cX10_count 44 = .ok (.ireturn, 1) := by decide +kernel
theorem dX10_count_45 : decode cX10_count 45 = .ok (.aload_n 0, 1) := by decide +kernel
theorem dX10_count_46 : decode cX10_count 46 = .ok (.getfield 40, 3) := by decide +kernel
theorem dX10_count_49 : decode cX10_count 49 = .ok (.invokevirtual 88, 3) := by decide +kernel
theorem dX10_count_52 : decode cX10_count 52 = .ok (.ireturn, 1) := by decide +kernel
theorem dX10_count_53 : decode cX10_count 53 = .ok (.aload_n 0, 1) := by decide +kernel
theorem dX10_count_54 : decode cX10_count 54 = .ok (.getfield 44, 3) := by decide +kernel
theorem dX10_count_57 : decode cX10_count 57 = .ok (.invokevirtual 88, 3) := by decide +kernel
theorem dX10_count_60 : decode cX10_count 60 = .ok (.ireturn, 1) := by decide +kernel
theorem dX10_count_61 : decode cX10_count 61 = .ok (.aload_n 0, 1) := by decide +kernel
theorem dX10_count_62 : decode cX10_count 62 = .ok (.getfield 50, 3) := by decide +kernel
theorem dX10_count_65 : decode cX10_count 65 = .ok (.invokevirtual 88, 3) := by decide +kernel
theorem dX10_count_68 : decode cX10_count 68 = .ok (.ireturn, 1) := by decide +kernel
theorem dX10_count_69 : decode cX10_count 69 = .ok (.aload_n 0, 1) := by decide +kernel
theorem dX10_count_70 : decode cX10_count 70 = .ok (.getfield 47, 3) := by decide +kernel
theorem dX10_count_73 : decode cX10_count 73 = .ok (.invokevirtual 88, 3) := by decide +kernel
theorem dX10_count_76 : decode cX10_count 76 = .ok (.ireturn, 1) := by decide +kernel
theorem dX10_count_77 : decode cX10_count 77 = .ok (.aload_n 0, 1) := by decide +kernel
theorem dX10_count_78 : decode cX10_count 78 = .ok (.invokevirtual 260, 3) := by decide +kernel
theorem dX10_count_81 : decode cX10_count 81 = .ok (.ireturn, 1) := by decide +kernel
theorem dX10_count_82 : decode cX10_count 82 = .ok (.iconst (-1), 1) := by decide +kernel
theorem dX10_count_83 : decode cX10_count 83 = .ok (.ireturn, 1) := by decide +kernel
theorem dX10_isDay_0 : decode cX10_isDay 0 = .ok (.iload_n 0, 1) := by decide +kernel
theorem dX10_isDay_1 : decode cX10_isDay 1 = .ok (.ifCond .lt 14, 3) := by decide +kernel
theorem dX10_isDay_4 : decode cX10_isDay 4 = .ok (.iload_n 0, 1) := by decide +kernel
theorem dX10_isDay_5 : decode cX10_isDay 5 = .ok (.sipush 20000, 3) := by decide +kernel
theorem dX10_isDay_8 : decode cX10_isDay 8 = .ok (.if_icmp .gt 7, 3) := by decide +kernel
theorem dX10_isDay_11 : decode cX10_isDay 11 = .ok (.iconst 1, 1) := by decide +kernel
theorem dX10_isDay_12 : decode cX10_isDay 12 = .ok (.goto 4, 3) := by decide +kernel
theorem dX10_isDay_15 : decode cX10_isDay 15 = .ok (.iconst 0, 1) := by decide +kernel
theorem dX10_isDay_16 : decode cX10_isDay 16 = .ok (.ireturn, 1) := by decide +kernel
theorem dX10_isDayToCome_0 : decode cX10_isDayToCome 0 = .ok (.iload_n 1, 1) := by decide +kernel
theorem dX10_isDayToCome_1 : decode cX10_isDayToCome 1 = .ok (.aload_n 0, 1) := by decide +kernel
theorem dX10_isDayToCome_2 : decode cX10_isDayToCome 2 = .ok (.getfield 7, 3) := by decide +kernel
theorem dX10_isDayToCome_5 : decode cX10_isDayToCome 5 = .ok (.if_icmp .lt 14, 3) := by decide +kernel
theorem dX10_isDayToCome_8 : decode cX10_isDayToCome 8 = .ok (.iload_n 1, 1) := by decide +kernel
theorem dX10_isDayToCome_9 : decode cX10_isDayToCome 9 = .ok (.sipush 20000, 3) := by decide +kernel
theorem dX10_isDayToCome_12 : decode cX10_isDayToCome 12 = .ok (.if_icmp .gt 7, 3) := by decide +kernel
theorem dX10_isDayToCome_15 : decode cX10_isDayToCome 15 = .ok (.iconst 1, 1) := by decide +kernel
theorem dX10_isDayToCome_16 : decode cX10_isDayToCome 16 = .ok (.goto 4, 3) := by decide +kernel
theorem dX10_isDayToCome_19 : decode cX10_isDayToCome 19 = .ok (.iconst 0, 1) := by decide +kernel
theorem dX10_isDayToCome_20 : decode cX10_isDayToCome 20 = .ok (.ireturn, 1) := by decide +kernel
theorem dX10_personAt_0 : decode cX10_personAt 0 = .ok (.iload_n 1, 1) := by decide +kernel
theorem dX10_personAt_1 : decode cX10_personAt 1 = .ok (.ifCond .lt 28, 3) := by decide +kernel
theorem dX10_personAt_4 : decode cX10_personAt 4 = .ok (.iload_n 1, 1) := by decide +kernel
theorem dX10_personAt_5 : decode cX10_personAt 5 = .ok (.aload_n 0, 1) := by decide +kernel
theorem dX10_personAt_6 : decode cX10_personAt 6 = .ok (.getfield 40, 3) := by decide +kernel
theorem dX10_personAt_9 : decode cX10_personAt 9 = .ok (.invokevirtual 88, 3) := by decide +kernel
theorem dX10_personAt_12 : decode cX10_personAt 12 = .ok (.if_icmp .ge 17, 3) := by decide +kernel
theorem dX10_personAt_15 : decode cX10_personAt 15 = .ok (.aload_n 0, 1) := by decide +kernel
theorem dX10_personAt_16 : decode cX10_personAt 16 = .ok (.getfield 40, 3) := by decide +kernel
theorem dX10_personAt_19 : decode cX10_personAt 19 = .ok (.iload_n 1, 1) := by decide +kernel
theorem dX10_personAt_20 : decode cX10_personAt 20 = .ok (.invokevirtual 176, 3) := by decide +kernel
theorem dX10_personAt_23 : decode cX10_personAt 23 = .ok (.checkcast 85, 3) := by decide +kernel
theorem dX10_personAt_26 : decode cX10_personAt 26 = .ok (.goto 4, 3) := by decide +kernel
theorem dX10_personAt_29 : decode cX10_personAt 29 = .ok (.aconst_null, 1) := by decide +kernel
theorem dX10_personAt_30 : decode cX10_personAt 30 = .ok (.areturn, 1) := by decide +kernel
theorem dX10_noticeAt_0 : decode cX10_noticeAt 0 = .ok (.iload_n 1, 1) := by decide +kernel
theorem dX10_noticeAt_1 : decode cX10_noticeAt 1 = .ok (.ifCond .lt 28, 3) := by decide +kernel
theorem dX10_noticeAt_4 : decode cX10_noticeAt 4 = .ok (.iload_n 1, 1) := by decide +kernel
theorem dX10_noticeAt_5 : decode cX10_noticeAt 5 = .ok (.aload_n 0, 1) := by decide +kernel
theorem dX10_noticeAt_6 : decode cX10_noticeAt 6 = .ok (.getfield 44, 3) := by decide +kernel
theorem dX10_noticeAt_9 : decode cX10_noticeAt 9 = .ok (.invokevirtual 88, 3) := by decide +kernel
theorem dX10_noticeAt_12 : decode cX10_noticeAt 12 = .ok (.if_icmp .ge 17, 3) := by decide +kernel
theorem dX10_noticeAt_15 : decode cX10_noticeAt 15 = .ok (.aload_n 0, 1) := by decide +kernel
theorem dX10_noticeAt_16 : decode cX10_noticeAt 16 = .ok (.getfield 44, 3) := by decide +kernel
theorem dX10_noticeAt_19 : decode cX10_noticeAt 19 = .ok (.iload_n 1, 1) := by decide +kernel
theorem dX10_noticeAt_20 : decode cX10_noticeAt 20 = .ok (.invokevirtual 176, 3) := by decide +kernel
theorem dX10_noticeAt_23 : decode cX10_noticeAt 23 = .ok (.checkcast 143, 3) := by decide +kernel
theorem dX10_noticeAt_26 : decode cX10_noticeAt 26 = .ok (.goto 4, 3) := by decide +kernel
theorem dX10_noticeAt_29 : decode cX10_noticeAt 29 = .ok (.aconst_null, 1) := by decide +kernel
theorem dX10_noticeAt_30 : decode cX10_noticeAt 30 = .ok (.areturn, 1) := by decide +kernel
theorem dX10_entryAt_0 : decode cX10_entryAt 0 = .ok (.iload_n 1, 1) := by decide +kernel
theorem dX10_entryAt_1 : decode cX10_entryAt 1 = .ok (.ifCond .lt 28, 3) := by decide +kernel
theorem dX10_entryAt_4 : decode cX10_entryAt 4 = .ok (.iload_n 1, 1) := by decide +kernel
theorem dX10_entryAt_5 : decode cX10_entryAt 5 = .ok (.aload_n 0, 1) := by decide +kernel
theorem dX10_entryAt_6 : decode cX10_entryAt 6 = .ok (.getfield 50, 3) := by decide +kernel
theorem dX10_entryAt_9 : decode cX10_entryAt 9 = .ok (.invokevirtual 88, 3) := by decide +kernel
theorem dX10_entryAt_12 : decode cX10_entryAt 12 = .ok (.if_icmp .ge 17, 3) := by decide +kernel
theorem dX10_entryAt_15 : decode cX10_entryAt 15 = .ok (.aload_n 0, 1) := by decide +kernel
theorem dX10_entryAt_16 : decode cX10_entryAt 16 = .ok (.getfield 50, 3) := by decide +kernel
theorem dX10_entryAt_19 : decode cX10_entryAt 19 = .ok (.iload_n 1, 1) := by decide +kernel
theorem dX10_entryAt_20 : decode cX10_entryAt 20 = .ok (.invokevirtual 176, 3) := by decide +kernel
theorem dX10_entryAt_23 : decode cX10_entryAt 23 = .ok (.checkcast 221, 3) := by decide +kernel
theorem dX10_entryAt_26 : decode cX10_entryAt 26 = .ok (.goto 4, 3) := by decide +kernel
theorem dX10_entryAt_29 : decode cX10_entryAt 29 = .ok (.aconst_null, 1) := by decide +kernel
theorem dX10_entryAt_30 : decode cX10_entryAt 30 = .ok (.areturn, 1) := by decide +kernel
theorem dX10_canBeParents_0 : decode cX10_canBeParents 0 = .ok (.iload_n 1, 1) := by decide +kernel
theorem dX10_canBeParents_1 : decode cX10_canBeParents 1 = .ok (.iconst (-1), 1) := by decide +kernel
theorem dX10_canBeParents_2 : decode cX10_canBeParents 2 = .ok (.if_icmp .eq 11, 3) := by decide +kernel
theorem dX10_canBeParents_5 : decode cX10_canBeParents 5 = .ok (.aload_n 0, 1) := by decide +kernel
theorem dX10_canBeParents_6 : decode cX10_canBeParents 6 = .ok (.iload_n 1, 1) := by decide +kernel
theorem dX10_canBeParents_7 : decode cX10_canBeParents 7 = .ok (.invokevirtual 95, 3) := by decide +kernel
theorem dX10_canBeParents_10 : decode cX10_canBeParents 10 = .ok (.ifnull 7, 3) := by decide +kernel
theorem dX10_canBeParents_13 : decode cX10_canBeParents 13 = .ok (.iconst 1, 1) := by decide +kernel
theorem dX10_canBeParents_14 : decode cX10_canBeParents 14 = .ok (.goto 4, 3) := by decide +kernel
theorem dX10_canBeParents_17 : decode cX10_canBeParents 17 = .ok (.iconst 0, 1) := by decide +kernel
theorem dX10_canBeParents_18 : decode cX10_canBeParents 18 = .ok (.istore_n 3, 1) := by decide +kernel
theorem dX10_canBeParents_19 : decode cX10_canBeParents 19 = .ok (.iload_n 2, 1) := by decide +kernel
theorem dX10_canBeParents_20 : decode cX10_canBeParents 20 = .ok (.iconst (-1), 1) := by decide +kernel
theorem dX10_canBeParents_21 : decode cX10_canBeParents 21 = .ok (.if_icmp .eq 11, 3) := by decide +kernel
theorem dX10_canBeParents_24 : decode cX10_canBeParents 24 = .ok (.aload_n 0, 1) := by decide +kernel
theorem dX10_canBeParents_25 : decode cX10_canBeParents 25 = .ok (.iload_n 2, 1) := by decide +kernel
theorem dX10_canBeParents_26 : decode cX10_canBeParents 26 = .ok (.invokevirtual 95, 3) := by decide +kernel
theorem dX10_canBeParents_29 : decode cX10_canBeParents 29 = .ok (.ifnull 7, 3) := by decide +kernel
theorem dX10_canBeParents_32 : decode cX10_canBeParents 32 = .ok (.iconst 1, 1) := by decide +kernel
theorem dX10_canBeParents_33 : decode cX10_canBeParents 33 = .ok (.goto 4, 3) := by decide +kernel
theorem dX10_canBeParents_36 : decode cX10_canBeParents 36 = .ok (.iconst 0, 1) := by decide +kernel
theorem dX10_canBeParents_37 : decode cX10_canBeParents 37 = .ok (.istore 4, 2) := by decide +kernel
theorem dX10_canBeParents_39 : decode cX10_canBeParents 39 = .ok (.iload_n 3, 1) := by decide +kernel
theorem dX10_canBeParents_40 : decode cX10_canBeParents 40 = .ok (.ifCond .eq 22, 3) := by decide +kernel
theorem dX10_canBeParents_43 : decode cX10_canBeParents 43 = .ok (.iload 4, 2) := by decide +kernel
theorem dX10_canBeParents_45 : decode cX10_canBeParents 45 = .ok (.ifCond .eq 17, 3) := by decide +kernel
theorem dX10_canBeParents_48 : decode cX10_canBeParents 48 = .ok (.iload_n 1, 1) := by decide +kernel
theorem dX10_canBeParents_49 : decode cX10_canBeParents 49 = .ok (.iconst (-1), 1) := by decide +kernel
theorem dX10_canBeParents_50 : decode cX10_canBeParents 50 = .ok (.if_icmp .eq 8, 3) := by decide +kernel
theorem dX10_canBeParents_53 : decode cX10_canBeParents 53 = .ok (.iload_n 1, 1) := by decide +kernel
theorem dX10_canBeParents_54 : decode cX10_canBeParents 54 = .ok (.iload_n 2, 1) := by decide +kernel
theorem dX10_canBeParents_55 : decode cX10_canBeParents 55 = .ok (.if_icmp .eq 7, 3) := by decide +kernel
theorem dX10_canBeParents_58 : decode cX10_canBeParents 58 = .ok (.iconst 1, 1) := by decide +kernel
theorem dX10_canBeParents_59 : decode cX10_canBeParents 59 = .ok (.goto 4, 3) := by decide +kernel
theorem dX10_canBeParents_62 : decode cX10_canBeParents 62 = .ok (.iconst 0, 1) := by decide +kernel
theorem dX10_canBeParents_63 : decode cX10_canBeParents 63 = .ok (.ireturn, 1) := by decide +kernel
theorem dX10_openBookings_0 : decode cX10_openBookings 0 = .ok (.iconst 0, 1) := by decide +kernel
theorem dX10_openBookings_1 : decode cX10_openBookings 1 = .ok (.istore_n 1, 1) := by decide +kernel
theorem dX10_openBookings_2 : decode cX10_openBookings 2 = .ok (.iconst 0, 1) := by decide +kernel
theorem dX10_openBookings_3 : decode cX10_openBookings 3 = .ok (.istore_n 2, 1) := by decide +kernel
theorem dX10_openBookings_4 : decode cX10_openBookings 4 = .ok (.iload_n 2, 1) := by decide +kernel
theorem dX10_openBookings_5 : decode cX10_openBookings 5 = .ok (.aload_n 0, 1) := by decide +kernel
theorem dX10_openBookings_6 : decode cX10_openBookings 6 = .ok (.getfield 44, 3) := by decide +kernel
theorem dX10_openBookings_9 : decode cX10_openBookings 9 = .ok (.invokevirtual 88, 3) := by decide +kernel
theorem dX10_openBookings_12 : decode cX10_openBookings 12 = .ok (.if_icmp .ge 38, 3) := by decide +kernel
theorem dX10_openBookings_15 : decode cX10_openBookings 15 = .ok (.aload_n 0, 1) := by decide +kernel
theorem dX10_openBookings_16 : decode cX10_openBookings 16 = .ok (.getfield 44, 3) := by decide +kernel
theorem dX10_openBookings_19 : decode cX10_openBookings 19 = .ok (.iload_n 2, 1) := by decide +kernel
theorem dX10_openBookings_20 : decode cX10_openBookings 20 = .ok (.invokevirtual 176, 3) := by decide +kernel
theorem dX10_openBookings_23 : decode cX10_openBookings 23 = .ok (.checkcast 143, 3) := by decide +kernel
theorem dX10_openBookings_26 : decode cX10_openBookings 26 = .ok (.astore_n 3, 1) := by decide +kernel
theorem dX10_openBookings_27 : decode cX10_openBookings 27 = .ok (.aload_n 3, 1) := by decide +kernel
theorem dX10_openBookings_28 : decode cX10_openBookings 28 = .ok (.getfield 152, 3) := by decide +kernel
theorem dX10_openBookings_31 : decode cX10_openBookings 31 = .ok (.ifCond .ne 13, 3) := by decide +kernel
theorem dX10_openBookings_34 : decode cX10_openBookings 34 = .ok (.aload_n 3, 1) := by decide +kernel
theorem dX10_openBookings_35 : decode cX10_openBookings 35 = .ok (.invokevirtual 263, 3) := by decide +kernel
theorem dX10_openBookings_38 : decode cX10_openBookings 38 = .ok (.ifCond .eq 6, 3) := by decide +kernel
theorem dX10_openBookings_41 : decode cX10_openBookings 41 = .ok (.iinc 1 1, 3) := by decide +kernel
theorem dX10_openBookings_44 : decode cX10_openBookings 44 = .ok (.iinc 2 1, 3) := by decide +kernel
theorem dX10_openBookings_47 : decode cX10_openBookings 47 = .ok (.goto (-43), 3) := by decide +kernel
theorem dX10_openBookings_50 : decode cX10_openBookings 50 = .ok (.iload_n 1, 1) := by decide +kernel
theorem dX10_openBookings_51 : decode cX10_openBookings 51 = .ok (.ireturn, 1) := by decide +kernel
theorem dX10_hasOpenNotice_0 : decode cX10_hasOpenNotice 0 = .ok (.iconst 0, 1) := by decide +kernel
theorem dX10_hasOpenNotice_1 : decode cX10_hasOpenNotice 1 = .ok (.istore_n 3, 1) := by decide +kernel
theorem dX10_hasOpenNotice_2 : decode cX10_hasOpenNotice 2 = .ok (.iload_n 3, 1) := by decide +kernel
theorem dX10_hasOpenNotice_3 : decode cX10_hasOpenNotice 3 = .ok (.aload_n 0, 1) := by decide +kernel
theorem dX10_hasOpenNotice_4 : decode cX10_hasOpenNotice 4 = .ok (.getfield 44, 3) := by decide +kernel
theorem dX10_hasOpenNotice_7 : decode cX10_hasOpenNotice 7 = .ok (.invokevirtual 88, 3) := by decide +kernel
theorem dX10_hasOpenNotice_10 : decode cX10_hasOpenNotice 10 = .ok (.if_icmp .ge 42, 3) := by decide +kernel
theorem dX10_hasOpenNotice_13 : decode cX10_hasOpenNotice 13 = .ok (.aload_n 0, 1) := by decide +kernel
theorem dX10_hasOpenNotice_14 : decode cX10_hasOpenNotice 14 = .ok (.getfield 44, 3) := by decide +kernel
theorem dX10_hasOpenNotice_17 : decode cX10_hasOpenNotice 17 = .ok (.iload_n 3, 1) := by decide +kernel
theorem dX10_hasOpenNotice_18 : decode cX10_hasOpenNotice 18 = .ok (.invokevirtual 176, 3) := by decide +kernel
theorem dX10_hasOpenNotice_21 : decode cX10_hasOpenNotice 21 = .ok (.checkcast 143, 3) := by decide +kernel
theorem dX10_hasOpenNotice_24 : decode cX10_hasOpenNotice 24 = .ok (.astore 4, 2) := by decide +kernel
theorem dX10_hasOpenNotice_26 : decode cX10_hasOpenNotice 26 = .ok (.aload 4, 2) := by decide +kernel
theorem dX10_hasOpenNotice_28 : decode cX10_hasOpenNotice 28 = .ok (.getfield 152, 3) := by decide +kernel
theorem dX10_hasOpenNotice_31 : decode cX10_hasOpenNotice 31 = .ok (.ifCond .ne 15, 3) := by decide +kernel
theorem dX10_hasOpenNotice_34 : decode cX10_hasOpenNotice 34 = .ok (.aload 4, 2) := by decide +kernel
theorem dX10_hasOpenNotice_36 : decode cX10_hasOpenNotice 36 = .ok (.aload_n 1, 1) := by decide +kernel
theorem dX10_hasOpenNotice_37 : decode cX10_hasOpenNotice 37 = .ok (.aload_n 2, 1) := by decide +kernel
theorem dX10_hasOpenNotice_38 : decode cX10_hasOpenNotice 38 = .ok (.invokevirtual 266, 3) := by decide +kernel
theorem dX10_hasOpenNotice_41 : decode cX10_hasOpenNotice 41 = .ok (.ifCond .eq 5, 3) := by decide +kernel
theorem dX10_hasOpenNotice_44 : decode cX10_hasOpenNotice 44 = .ok (.iconst 1, 1) := by decide +kernel
theorem dX10_hasOpenNotice_45 : decode cX10_hasOpenNotice 45 = .ok (.ireturn, 1) := by decide +kernel
theorem dX10_hasOpenNotice_46 : decode cX10_hasOpenNotice 46 = .ok (.iinc 3 1, 3) := by decide +kernel
theorem dX10_hasOpenNotice_49 : decode cX10_hasOpenNotice 49 = .ok (.goto (-47), 3) := by decide +kernel
theorem dX10_hasOpenNotice_52 : decode cX10_hasOpenNotice 52 = .ok (.iconst 0, 1) := by decide +kernel
theorem dX10_hasOpenNotice_53 : decode cX10_hasOpenNotice 53 = .ok (.ireturn, 1) := by decide +kernel
theorem dX10_kinOf_0 : decode cX10_kinOf 0 = .ok (.aload_n 0, 1) := by decide +kernel
theorem dX10_kinOf_1 : decode cX10_kinOf 1 = .ok (.aload_n 1, 1) := by decide +kernel
theorem dX10_kinOf_2 : decode cX10_kinOf 2 = .ok (.invokevirtual 269, 3) := by decide +kernel
theorem dX10_kinOf_5 : decode cX10_kinOf 5 = .ok (.ifCond .ne 19, 3) := by decide +kernel
theorem dX10_kinOf_8 : decode cX10_kinOf 8 = .ok (.aload_n 1, 1) := by decide +kernel
theorem dX10_kinOf_9 : decode cX10_kinOf 9 = .ok (.aload_n 0, 1) := by decide +kernel
theorem dX10_kinOf_10 : decode cX10_kinOf 10 = .ok (.invokevirtual 269, 3) := by decide +kernel
theorem dX10_kinOf_13 : decode cX10_kinOf 13 = .ok (.ifCond .ne 11, 3) := by decide +kernel
theorem dX10_kinOf_16 : decode cX10_kinOf 16 = .ok (.aload_n 0, 1) := by decide +kernel
theorem dX10_kinOf_17 : decode cX10_kinOf 17 = .ok (.aload_n 1, 1) := by decide +kernel
theorem dX10_kinOf_18 : decode cX10_kinOf 18 = .ok (.invokevirtual 273, 3) := by decide +kernel
theorem dX10_kinOf_21 : decode cX10_kinOf 21 = .ok (.ifCond .eq 5, 3) := by decide +kernel
theorem dX10_kinOf_24 : decode cX10_kinOf 24 = .ok (.iconst 1, 1) := by decide +kernel
theorem dX10_kinOf_25 : decode cX10_kinOf 25 = .ok (.ireturn, 1) := by decide +kernel
theorem dX10_kinOf_26 : decode cX10_kinOf 26 = .ok (.aload_n 0, 1) := by decide +kernel
theorem dX10_kinOf_27 : decode cX10_kinOf 27 = .ok (.aload_n 1, 1) := by decide +kernel
theorem dX10_kinOf_28 : decode cX10_kinOf 28 = .ok (.invokestatic 276, 3) := by decide +kernel
theorem dX10_kinOf_31 : decode cX10_kinOf 31 = .ok (.ifCond .ne 11, 3) := by decide +kernel
theorem dX10_kinOf_34 : decode cX10_kinOf 34 = .ok (.aload_n 1, 1) := by decide +kernel
theorem dX10_kinOf_35 : decode cX10_kinOf 35 = .ok (.aload_n 0, 1) := by decide +kernel
theorem dX10_kinOf_36 : decode cX10_kinOf 36 = .ok (.invokestatic 276, 3) := by decide +kernel
theorem dX10_kinOf_39 : decode cX10_kinOf 39 = .ok (.ifCond .eq 5, 3) := by decide +kernel
theorem dX10_kinOf_42 : decode cX10_kinOf 42 = .ok (.iconst 2, 1) := by decide +kernel
theorem dX10_kinOf_43 : decode cX10_kinOf 43 = .ok (.ireturn, 1) := by decide +kernel
theorem dX10_kinOf_44 : decode cX10_kinOf 44 = .ok (.aload_n 0, 1) := by decide +kernel
theorem dX10_kinOf_45 : decode cX10_kinOf 45 = .ok (.getfield 279, 3) := by decide +kernel
theorem dX10_kinOf_48 : decode cX10_kinOf 48 = .ok (.aload_n 1, 1) := by decide +kernel
theorem dX10_kinOf_49 : decode cX10_kinOf 49 = .ok (.invokestatic 282, 3) := by decide +kernel
theorem dX10_kinOf_52 : decode cX10_kinOf 52 = .ok (.ifCond .ne 14, 3) := by decide +kernel
theorem dX10_kinOf_55 : decode cX10_kinOf 55 = .ok (.aload_n 0, 1) := by decide +kernel
theorem dX10_kinOf_56 : decode cX10_kinOf 56 = .ok (.getfield 285, 3) := by decide +kernel
theorem dX10_kinOf_59 : decode cX10_kinOf 59 = .ok (.aload_n 1, 1) := by decide +kernel
theorem dX10_kinOf_60 : decode cX10_kinOf 60 = .ok (.invokestatic 282, 3) := by decide +kernel
theorem dX10_kinOf_63 : decode cX10_kinOf 63 = .ok (.ifCond .eq 5, 3) := by decide +kernel
theorem dX10_kinOf_66 : decode cX10_kinOf 66 = .ok (.iconst 3, 1) := by decide +kernel
theorem dX10_kinOf_67 : decode cX10_kinOf 67 = .ok (.ireturn, 1) := by decide +kernel
theorem dX10_kinOf_68 : decode cX10_kinOf 68 = .ok (.iconst 0, 1) := by decide +kernel
theorem dX10_kinOf_69 : decode cX10_kinOf 69 = .ok (.ireturn, 1) := by decide +kernel
theorem dX10_isNearByParent_0 : decode cX10_isNearByParent 0 = .ok (.aload_n 0, 1) := by decide +kernel
theorem dX10_isNearByParent_1 : decode cX10_isNearByParent 1 = .ok (.getfield 279, 3) := by decide +kernel
theorem dX10_isNearByParent_4 : decode cX10_isNearByParent 4 = .ok (.aload_n 1, 1) := by decide +kernel
theorem dX10_isNearByParent_5 : decode cX10_isNearByParent 5 = .ok (.invokestatic 288, 3) := by decide +kernel
theorem dX10_isNearByParent_8 : decode cX10_isNearByParent 8 = .ok (.ifCond .ne 14, 3) := by decide +kernel
theorem dX10_isNearByParent_11 : decode cX10_isNearByParent 11 = .ok (.aload_n 0, 1) := by decide +kernel
theorem dX10_isNearByParent_12 : decode cX10_isNearByParent 12 = .ok (.getfield 285, 3) := by decide +kernel
theorem dX10_isNearByParent_15 : decode cX10_isNearByParent 15 = .ok (.aload_n 1, 1) := by decide +kernel
theorem dX10_isNearByParent_16 : decode cX10_isNearByParent 16 = .ok (.invokestatic 288, 3) := by decide +kernel
theorem dX10_isNearByParent_19 : decode cX10_isNearByParent 19 = .ok (.ifCond .eq 7, 3) := by decide +kernel
theorem dX10_isNearByParent_22 : decode cX10_isNearByParent 22 = .ok (.iconst 1, 1) := by decide +kernel
theorem dX10_isNearByParent_23 : decode cX10_isNearByParent 23 = .ok (.goto 4, 3) := by decide +kernel
theorem dX10_isNearByParent_26 : decode cX10_isNearByParent 26 = .ok (.iconst 0, 1) := by decide +kernel
theorem dX10_isNearByParent_27 : decode cX10_isNearByParent 27 = .ok (.ireturn, 1) := by decide +kernel
theorem dX10_isNearAs_0 : decode cX10_isNearAs 0 = .ok (.aload_n 0, 1) := by decide +kernel
theorem dX10_isNearAs_1 : decode cX10_isNearAs 1 = .ok (.ifnull 23, 3) := by decide +kernel
theorem dX10_isNearAs_4 : decode cX10_isNearAs 4 = .ok (.aload_n 0, 1) := by decide +kernel
theorem dX10_isNearAs_5 : decode cX10_isNearAs 5 = .ok (.aload_n 1, 1) := by decide +kernel
theorem dX10_isNearAs_6 : decode cX10_isNearAs 6 = .ok (.invokevirtual 273, 3) := by decide +kernel
theorem dX10_isNearAs_9 : decode cX10_isNearAs 9 = .ok (.ifCond .ne 11, 3) := by decide +kernel
theorem dX10_isNearAs_12 : decode cX10_isNearAs 12 = .ok (.aload_n 0, 1) := by decide +kernel
theorem dX10_isNearAs_13 : decode cX10_isNearAs 13 = .ok (.aload_n 1, 1) := by decide +kernel
theorem dX10_isNearAs_14 : decode cX10_isNearAs 14 = .ok (.invokevirtual 269, 3) := by decide +kernel
theorem dX10_isNearAs_17 : decode cX10_isNearAs 17 = .ok (.ifCond .eq 7, 3) := by decide +kernel
theorem dX10_isNearAs_20 : decode cX10_isNearAs 20 = .ok (.iconst 1, 1) := by decide +kernel
theorem dX10_isNearAs_21 : decode cX10_isNearAs 21 = .ok (.goto 4, 3) := by decide +kernel
theorem dX10_isNearAs_24 : decode cX10_isNearAs 24 = .ok (.iconst 0, 1) := by decide +kernel
theorem dX10_isNearAs_25 : decode cX10_isNearAs 25 = .ok (.ireturn, 1) := by decide +kernel
theorem dX10_isCousinBy_0 : decode cX10_isCousinBy 0 = .ok (.aload_n 0, 1) := by decide +kernel
theorem dX10_isCousinBy_1 : decode cX10_isCousinBy 1 = .ok (.aload_n 1, 1) := by decide +kernel
theorem dX10_isCousinBy_2 : decode cX10_isCousinBy 2 = .ok (.getfield 279, 3) := by decide +kernel
theorem dX10_isCousinBy_5 : decode cX10_isCousinBy 5 = .ok (.invokestatic 291, 3) := by decide +kernel
theorem dX10_isCousinBy_8 : decode cX10_isCousinBy 8 = .ok (.ifCond .ne 14, 3) := by decide +kernel
theorem dX10_isCousinBy_11 : decode cX10_isCousinBy 11 = .ok (.aload_n 0, 1) := by decide +kernel
theorem dX10_isCousinBy_12 : decode cX10_isCousinBy 12 = .ok (.aload_n 1, 1) := by decide +kernel
theorem dX10_isCousinBy_13 : decode cX10_isCousinBy 13 = .ok (.getfield 285, 3) := by decide +kernel
theorem dX10_isCousinBy_16 : decode cX10_isCousinBy 16 = .ok (.invokestatic 291, 3) := by decide +kernel
theorem dX10_isCousinBy_19 : decode cX10_isCousinBy 19 = .ok (.ifCond .eq 7, 3) := by decide +kernel
theorem dX10_isCousinBy_22 : decode cX10_isCousinBy 22 = .ok (.iconst 1, 1) := by decide +kernel
theorem dX10_isCousinBy_23 : decode cX10_isCousinBy 23 = .ok (.goto 4, 3) := by decide +kernel
theorem dX10_isCousinBy_26 : decode cX10_isCousinBy 26 = .ok (.iconst 0, 1) := by decide +kernel
theorem dX10_isCousinBy_27 : decode cX10_isCousinBy 27 = .ok (.ireturn, 1) := by decide +kernel
theorem dX10_areSiblings_0 : decode cX10_areSiblings 0 = .ok (.aload_n 0, 1) := by decide +kernel
theorem dX10_areSiblings_1 : decode cX10_areSiblings 1 = .ok (.ifnull 24, 3) := by decide +kernel
theorem dX10_areSiblings_4 : decode cX10_areSiblings 4 = .ok (.aload_n 1, 1) := by decide +kernel
theorem dX10_areSiblings_5 : decode cX10_areSiblings 5 = .ok (.ifnull 20, 3) := by decide +kernel
theorem dX10_areSiblings_8 : decode cX10_areSiblings 8 = .ok (.aload_n 0, 1) := by decide +kernel
theorem dX10_areSiblings_9 : decode cX10_areSiblings 9 = .ok (.aload_n 1, 1) := by decide +kernel
theorem dX10_areSiblings_10 : decode cX10_areSiblings 10 = .ok (.if_acmp .eq 15, 3) := by decide +kernel
theorem dX10_areSiblings_13 : decode cX10_areSiblings 13 = .ok (.aload_n 0, 1) := by decide +kernel
theorem dX10_areSiblings_14 : decode cX10_areSiblings 14 = .ok (.aload_n 1, 1) := by decide +kernel
theorem dX10_areSiblings_15 : decode cX10_areSiblings 15 = .ok (.invokevirtual 273, 3) := by decide +kernel
theorem dX10_areSiblings_18 : decode cX10_areSiblings 18 = .ok (.ifCond .eq 7, 3) := by decide +kernel
theorem dX10_areSiblings_21 : decode cX10_areSiblings 21 = .ok (.iconst 1, 1) := by decide +kernel
theorem dX10_areSiblings_22 : decode cX10_areSiblings 22 = .ok (.goto 4, 3) := by decide +kernel
theorem dX10_areSiblings_25 : decode cX10_areSiblings 25 = .ok (.iconst 0, 1) := by decide +kernel
theorem dX10_areSiblings_26 : decode cX10_areSiblings 26 = .ok (.ireturn, 1) := by decide +kernel
theorem dX10_barToCouple_0 : decode cX10_barToCouple 0 = .ok (.aload_n 1, 1) := by decide +kernel
theorem dX10_barToCouple_1 : decode cX10_barToCouple 1 = .ok (.getfield 135, 3) := by decide +kernel
theorem dX10_barToCouple_4 : decode cX10_barToCouple 4 = .ok (.ifnonnull 10, 3) := by decide +kernel
theorem dX10_barToCouple_7 : decode cX10_barToCouple 7 = .ok (.aload_n 2, 1) := by decide +kernel
theorem dX10_barToCouple_8 : decode cX10_barToCouple 8 = .ok (.getfield 135, 3) := by decide +kernel
theorem dX10_barToCouple_11 : decode cX10_barToCouple 11 = .ok (.ifnull 5, 3) := by decide +kernel
theorem dX10_barToCouple_14 : decode cX10_barToCouple 14 = .ok (.iconst 1, 1) := by decide +kernel
theorem dX10_barToCouple_15 : decode cX10_barToCouple 15 = .ok (.ireturn, 1) := by decide +kernel
theorem dX10_barToCouple_16 : decode cX10_barToCouple 16 = .ok (.aload_n 0, 1) := by decide +kernel
theorem dX10_barToCouple_17 : decode cX10_barToCouple 17 = .ok (.getfield 33, 3) := by decide +kernel
theorem dX10_barToCouple_20 : decode cX10_barToCouple 20 = .ok (.aload_n 1, 1) := by decide +kernel
theorem dX10_barToCouple_21 : decode cX10_barToCouple 21 = .ok (.getfield 294, 3) := by decide +kernel
theorem dX10_barToCouple_24 : decode cX10_barToCouple 24 = .ok (.iload_n 3, 1) := by decide +kernel
theorem dX10_barToCouple_25 : decode cX10_barToCouple 25 = .ok (.invokevirtual 297, 3) := by decide +kernel
theorem dX10_barToCouple_28 : decode cX10_barToCouple 28 = .ok (.astore 4, 2) := by decide +kernel
theorem dX10_barToCouple_30 : decode cX10_barToCouple 30 = .ok (.aload_n 0, 1) := by decide +kernel
theorem dX10_barToCouple_31 : decode cX10_barToCouple 31 = .ok (.getfield 33, 3) := by decide +kernel
theorem dX10_barToCouple_34 : decode cX10_barToCouple 34 = .ok (.aload_n 2, 1) := by decide +kernel
theorem dX10_barToCouple_35 : decode cX10_barToCouple 35 = .ok (.getfield 294, 3) := by decide +kernel
theorem dX10_barToCouple_38 : decode cX10_barToCouple 38 = .ok (.iload_n 3, 1) := by decide +kernel
theorem dX10_barToCouple_39 : decode cX10_barToCouple 39 = .ok (.invokevirtual 297, 3) := by decide +kernel
theorem dX10_barToCouple_42 : decode cX10_barToCouple 42 = .ok (.astore 5, 2) := by decide +kernel
theorem dX10_barToCouple_44 : decode cX10_barToCouple 44 = .ok (.aload_n 1, 1) := by decide +kernel
theorem dX10_barToCouple_45 : decode cX10_barToCouple 45 = .ok (.aload 4, 2) := by decide +kernel
theorem dX10_barToCouple_47 : decode cX10_barToCouple 47 = .ok (.iload_n 3, 1) := by decide +kernel
theorem dX10_barToCouple_48 : decode cX10_barToCouple 48 = .ok (.invokestatic 301, 3) := by decide +kernel
theorem dX10_barToCouple_51 : decode cX10_barToCouple 51 = .ok (.ifCond .ne 13, 3) := by decide +kernel
theorem dX10_barToCouple_54 : decode cX10_barToCouple 54 = .ok (.aload_n 2, 1) := by decide +kernel
theorem dX10_barToCouple_55 : decode cX10_barToCouple 55 = .ok (.aload 5, 2) := by decide +kernel
theorem dX10_barToCouple_57 : decode cX10_barToCouple 57 = .ok (.iload_n 3, 1) := by decide +kernel
theorem dX10_barToCouple_58 : decode cX10_barToCouple 58 = .ok (.invokestatic 301, 3) := by decide +kernel
theorem dX10_barToCouple_61 : decode cX10_barToCouple 61 = .ok (.ifCond .eq 5, 3) := by decide +kernel
theorem dX10_barToCouple_64 : decode cX10_barToCouple 64 = .ok (.iconst 2, 1) := by decide +kernel
theorem dX10_barToCouple_65 : decode cX10_barToCouple 65 = .ok (.ireturn, 1) := by decide +kernel
theorem dX10_barToCouple_66 : decode cX10_barToCouple 66 = .ok (.aload_n 1, 1) := by decide +kernel
theorem dX10_barToCouple_67 : decode cX10_barToCouple 67 = .ok (.aload_n 2, 1) := by decide +kernel
theorem dX10_barToCouple_68 : decode cX10_barToCouple 68 = .ok (.invokestatic 127, 3) := by decide +kernel
theorem dX10_barToCouple_71 : decode cX10_barToCouple 71 = .ok (.istore 6, 2) := by decide +kernel
theorem dX10_barToCouple_73 : decode cX10_barToCouple 73 = .ok (.iload 6, 2) := by decide +kernel
theorem dX10_barToCouple_75 : decode cX10_barToCouple 75 = .ok (.ifCond .eq 25, 3) := by decide +kernel
theorem dX10_barToCouple_78 : decode cX10_barToCouple 78 = .ok (.iload 6, 2) := by decide +kernel
theorem dX10_barToCouple_80 : decode cX10_barToCouple 80 = .ok (.aload 4, 2) := by decide +kernel
theorem dX10_barToCouple_82 : decode cX10_barToCouple 82 = .ok (.getfield 305, 3) := by decide +kernel
theorem dX10_barToCouple_85 : decode cX10_barToCouple 85 = .ok (.if_icmp .le 13, 3) := by decide +kernel
theorem dX10_barToCouple_88 : decode cX10_barToCouple 88 = .ok (.iload 6, 2) := by decide +kernel
theorem dX10_barToCouple_90 : decode cX10_barToCouple 90 = .ok (.aload 5, 2) := by decide +kernel
theorem dX10_barToCouple_92 : decode cX10_barToCouple 92 = .ok (.getfield 305, 3) := by decide +kernel
theorem dX10_barToCouple_95 : decode cX10_barToCouple 95 = .ok (.if_icmp .gt 5, 3) := by decide +kernel
theorem dX10_barToCouple_98 : decode cX10_barToCouple 98 = .ok (.iconst 3, 1) := by decide +kernel
theorem dX10_barToCouple_99 : decode cX10_barToCouple 99 = .ok (.ireturn, 1) := by decide +kernel
theorem dX10_barToCouple_100 : decode cX10_barToCouple 100 = .ok (.aload_n 1, 1) := by decide +kernel
theorem dX10_barToCouple_101 : decode cX10_barToCouple 101 = .ok (.aload 4, 2) := by decide +kernel
theorem dX10_barToCouple_103 : decode cX10_barToCouple 103 = .ok (.iload_n 3, 1) := by decide +kernel
theorem dX10_barToCouple_104 : decode cX10_barToCouple 104 = .ok (.invokestatic 308, 3) := by decide +kernel
theorem dX10_barToCouple_107 : decode cX10_barToCouple 107 = .ok (.ifCond .ne 13, 3) := by decide +kernel
theorem dX10_barToCouple_110 : decode cX10_barToCouple 110 = .ok (.aload_n 2, 1) := by decide +kernel
theorem dX10_barToCouple_111 : decode cX10_barToCouple 111 = .ok (.aload 5, 2) := by decide +kernel
theorem dX10_barToCouple_113 : decode cX10_barToCouple 113 = .ok (.iload_n 3, 1) := by decide +kernel
theorem dX10_barToCouple_114 : decode cX10_barToCouple 114 = .ok (.invokestatic 308, 3) := by decide +kernel
theorem dX10_barToCouple_117 : decode cX10_barToCouple 117 = .ok (.ifCond .eq 5, 3) := by decide +kernel
theorem dX10_barToCouple_120 : decode cX10_barToCouple 120 = .ok (.iconst 4, 1) := by decide +kernel
theorem dX10_barToCouple_121 : decode cX10_barToCouple 121 = .ok (.ireturn, 1) := by decide +kernel
theorem dX10_barToCouple_122 : decode cX10_barToCouple 122 = .ok (.iconst 0, 1) := by decide +kernel
theorem dX10_barToCouple_123 : decode cX10_barToCouple 123 = .ok (.ireturn, 1) := by decide +kernel
theorem dX10_isTooYoung_0 : decode cX10_isTooYoung 0 = .ok (.iload_n 2, 1) := by decide +kernel
theorem dX10_isTooYoung_1 : decode cX10_isTooYoung 1 = .ok (.aload_n 0, 1) := by decide +kernel
theorem dX10_isTooYoung_2 : decode cX10_isTooYoung 2 = .ok (.getfield 311, 3) := by decide +kernel
theorem dX10_isTooYoung_5 : decode cX10_isTooYoung 5 = .ok (.isub, 1) := by decide +kernel
theorem dX10_isTooYoung_6 : decode cX10_isTooYoung 6 = .ok (.aload_n 1, 1) := by decide +kernel
theorem dX10_isTooYoung_7 : decode cX10_isTooYoung 7 = .ok (.getfield 314, 3) := by decide +kernel
theorem dX10_isTooYoung_10 : decode cX10_isTooYoung 10 = .ok (.sipush 365, 3) := by decide +kernel
theorem dX10_isTooYoung_13 : decode cX10_isTooYoung 13 = .ok (.imul, 1) := by decide +kernel
theorem dX10_isTooYoung_14 : decode cX10_isTooYoung 14 = .ok (.if_icmp .ge 7, 3) := by decide +kernel
theorem dX10_isTooYoung_17 : decode cX10_isTooYoung 17 = .ok (.iconst 1, 1) := by decide +kernel
theorem dX10_isTooYoung_18 : decode cX10_isTooYoung 18 = .ok (.goto 4, 3) := by decide +kernel
theorem dX10_isTooYoung_21 : decode cX10_isTooYoung 21 = .ok (.iconst 0, 1) := by decide +kernel
theorem dX10_isTooYoung_22 : decode cX10_isTooYoung 22 = .ok (.ireturn, 1) := by decide +kernel
theorem dX10_lacksPaper_0 : decode cX10_lacksPaper 0 = .ok (.iconst 0, 1) := by decide +kernel
theorem dX10_lacksPaper_1 : decode cX10_lacksPaper 1 = .ok (.istore_n 3, 1) := by decide +kernel
theorem dX10_lacksPaper_2 : decode cX10_lacksPaper 2 = .ok (.iload_n 3, 1) := by decide +kernel
theorem dX10_lacksPaper_3 : decode cX10_lacksPaper 3 = .ok (.iconst 3, 1) := by decide +kernel
theorem dX10_lacksPaper_4 : decode cX10_lacksPaper 4 = .ok (.if_icmp .ge 32, 3) := by decide +kernel
theorem dX10_lacksPaper_7 : decode cX10_lacksPaper 7 = .ok (.aload_n 1, 1) := by decide +kernel
theorem dX10_lacksPaper_8 : decode cX10_lacksPaper 8 = .ok (.iload_n 3, 1) := by decide +kernel
theorem dX10_lacksPaper_9 : decode cX10_lacksPaper 9 = .ok (.invokevirtual 317, 3) := by decide +kernel
theorem dX10_lacksPaper_12 : decode cX10_lacksPaper 12 = .ok (.ifCond .eq 18, 3) := by decide +kernel
theorem dX10_lacksPaper_15 : decode cX10_lacksPaper 15 = .ok (.aload_n 0, 1) := by decide +kernel
theorem dX10_lacksPaper_16 : decode cX10_lacksPaper 16 = .ok (.iload_n 3, 1) := by decide +kernel
theorem dX10_lacksPaper_17 : decode cX10_lacksPaper 17 = .ok (.iload_n 2, 1) := by decide +kernel
theorem dX10_lacksPaper_18 : decode cX10_lacksPaper 18 = .ok (.aload_n 1, 1) := by decide +kernel
theorem dX10_lacksPaper_19 : decode cX10_lacksPaper 19 = .ok (.getfield 320, 3) := by decide +kernel
theorem dX10_lacksPaper_22 : decode cX10_lacksPaper 22 = .ok (.invokevirtual 323, 3) := by decide +kernel
theorem dX10_lacksPaper_25 : decode cX10_lacksPaper 25 = .ok (.ifCond .ne 5, 3) := by decide +kernel
theorem dX10_lacksPaper_28 : decode cX10_lacksPaper 28 = .ok (.iconst 1, 1) := by decide +kernel
theorem dX10_lacksPaper_29 : decode cX10_lacksPaper 29 = .ok (.ireturn, 1) := by decide +kernel
theorem dX10_lacksPaper_30 : decode cX10_lacksPaper 30 = .ok (.iinc 3 1, 3) := by decide +kernel
theorem dX10_lacksPaper_33 : decode cX10_lacksPaper 33 = .ok (.goto (-31), 3) := by decide +kernel
theorem dX10_lacksPaper_36 : decode cX10_lacksPaper 36 = .ok (.iconst 0, 1) := by decide +kernel
theorem dX10_lacksPaper_37 : decode cX10_lacksPaper 37 = .ok (.ireturn, 1) := by decide +kernel
theorem dX10_hangingAsked_0 : decode cX10_hangingAsked 0 = .ok (.aload_n 0, 1) := by decide +kernel
theorem dX10_hangingAsked_1 : decode cX10_hangingAsked 1 = .ok (.getfield 33, 3) := by decide +kernel
theorem dX10_hangingAsked_4 : decode cX10_hangingAsked 4 = .ok (.aload_n 1, 1) := by decide +kernel
theorem dX10_hangingAsked_5 : decode cX10_hangingAsked 5 = .ok (.getfield 212, 3) := by decide +kernel
theorem dX10_hangingAsked_8 : decode cX10_hangingAsked 8 = .ok (.getfield 294, 3) := by decide +kernel
theorem dX10_hangingAsked_11 : decode cX10_hangingAsked 11 = .ok (.iload_n 2, 1) := by decide +kernel
theorem dX10_hangingAsked_12 : decode cX10_hangingAsked 12 = .ok (.invokevirtual 297, 3) := by decide +kernel
theorem dX10_hangingAsked_15 : decode cX10_hangingAsked 15 = .ok (.getfield 327, 3) := by decide +kernel
theorem dX10_hangingAsked_18 : decode cX10_hangingAsked 18 = .ok (.aload_n 0, 1) := by decide +kernel
theorem dX10_hangingAsked_19 : decode cX10_hangingAsked 19 = .ok (.getfield 33, 3) := by decide +kernel
theorem dX10_hangingAsked_22 : decode cX10_hangingAsked 22 = .ok (.aload_n 1, 1) := by decide +kernel
theorem dX10_hangingAsked_23 : decode cX10_hangingAsked 23 = .ok (.getfield 215, 3) := by decide +kernel
theorem dX10_hangingAsked_26 : decode cX10_hangingAsked 26 = .ok (.getfield 294, 3) := by decide +kernel
theorem dX10_hangingAsked_29 : decode cX10_hangingAsked 29 = .ok (.iload_n 2, 1) := by decide +kernel
theorem dX10_hangingAsked_30 : decode cX10_hangingAsked 30 = .ok (.invokevirtual 297, 3) := by decide +kernel
theorem dX10_hangingAsked_33 : decode cX10_hangingAsked 33 = .ok (.getfield 327, 3) := by decide +kernel
theorem dX10_hangingAsked_36 : decode cX10_hangingAsked 36 = .ok (.invokestatic 329, 3) := by decide +kernel
theorem dX10_hangingAsked_39 : decode cX10_hangingAsked 39 = .ok (.ireturn, 1) := by decide +kernel
theorem dX10_isRipeOn_0 : decode cX10_isRipeOn 0 = .ok (.aload_n 1, 1) := by decide +kernel
theorem dX10_isRipeOn_1 : decode cX10_isRipeOn 1 = .ok (.getfield 173, 3) := by decide +kernel
theorem dX10_isRipeOn_4 : decode cX10_isRipeOn 4 = .ok (.ifCond .ne 36, 3) := by decide +kernel
theorem dX10_isRipeOn_7 : decode cX10_isRipeOn 7 = .ok (.iload_n 2, 1) := by decide +kernel
theorem dX10_isRipeOn_8 : decode cX10_isRipeOn 8 = .ok (.aload_n 1, 1) := by decide +kernel
theorem dX10_isRipeOn_9 : decode cX10_isRipeOn 9 = .ok (.getfield 158, 3) := by decide +kernel
theorem dX10_isRipeOn_12 : decode cX10_isRipeOn 12 = .ok (.if_icmp .lt 28, 3) := by decide +kernel
theorem dX10_isRipeOn_15 : decode cX10_isRipeOn 15 = .ok (.aload_n 0, 1) := by decide +kernel
theorem dX10_isRipeOn_16 : decode cX10_isRipeOn 16 = .ok (.getfield 26, 3) := by decide +kernel
theorem dX10_isRipeOn_19 : decode cX10_isRipeOn 19 = .ok (.aload_n 1, 1) := by decide +kernel
theorem dX10_isRipeOn_20 : decode cX10_isRipeOn 20 = .ok (.getfield 158, 3) := by decide +kernel
theorem dX10_isRipeOn_23 : decode cX10_isRipeOn 23 = .ok (.iload_n 2, 1) := by decide +kernel
theorem dX10_isRipeOn_24 : decode cX10_isRipeOn 24 = .ok (.invokevirtual 161, 3) := by decide +kernel
theorem dX10_isRipeOn_27 : decode cX10_isRipeOn 27 = .ok (.aload_n 0, 1) := by decide +kernel
theorem dX10_isRipeOn_28 : decode cX10_isRipeOn 28 = .ok (.aload_n 1, 1) := by decide +kernel
theorem dX10_isRipeOn_29 : decode cX10_isRipeOn 29 = .ok (.iload_n 2, 1) := by decide +kernel
theorem dX10_isRipeOn_30 : decode cX10_isRipeOn 30 = .ok (.invokevirtual 332, 3) := by decide +kernel
theorem dX10_isRipeOn_33 : decode cX10_isRipeOn 33 = .ok (.if_icmp .lt 7, 3) := by decide +kernel
theorem dX10_isRipeOn_36 : decode cX10_isRipeOn 36 = .ok (.iconst 1, 1) := by decide +kernel
theorem dX10_isRipeOn_37 : decode cX10_isRipeOn 37 = .ok (.goto 4, 3) := by decide +kernel
theorem dX10_isRipeOn_40 : decode cX10_isRipeOn 40 = .ok (.iconst 0, 1) := by decide +kernel
theorem dX10_isRipeOn_41 : decode cX10_isRipeOn 41 = .ok (.ireturn, 1) := by decide +kernel
theorem dX10_firstRipeDay_0 : decode cX10_firstRipeDay 0 = .ok (.iconst 0, 1) := by decide +kernel
theorem dX10_firstRipeDay_1 : decode cX10_firstRipeDay 1 = .ok (.istore_n 2, 1) := by decide +kernel
theorem dX10_firstRipeDay_2 : decode cX10_firstRipeDay 2 = .ok (.aload_n 1, 1) := by decide +kernel
theorem dX10_firstRipeDay_3 : decode cX10_firstRipeDay 3 = .ok (.getfield 158, 3) := by decide +kernel
theorem dX10_firstRipeDay_6 : decode cX10_firstRipeDay 6 = .ok (.istore_n 3, 1) := by decide +kernel
theorem dX10_firstRipeDay_7 : decode cX10_firstRipeDay 7 = .ok (.iload_n 3, 1) := by decide +kernel
theorem dX10_firstRipeDay_8 : decode cX10_firstRipeDay 8 = .ok (.sipush 20000, 3) := by decide +kernel
theorem dX10_firstRipeDay_11 : decode cX10_firstRipeDay 11 = .ok (.if_icmp .gt 43, 3) := by decide +kernel
theorem dX10_firstRipeDay_14 : decode cX10_firstRipeDay 14 = .ok (.iload_n 2, 1) := by decide +kernel
theorem dX10_firstRipeDay_15 : decode cX10_firstRipeDay 15 = .ok (.aload_n 0, 1) := by decide +kernel
theorem dX10_firstRipeDay_16 : decode cX10_firstRipeDay 16 = .ok (.aload_n 1, 1) := by decide +kernel
theorem dX10_firstRipeDay_17 : decode cX10_firstRipeDay 17 = .ok (.iload_n 3, 1) := by decide +kernel
theorem dX10_firstRipeDay_18 : decode cX10_firstRipeDay 18 = .ok (.invokevirtual 332, 3) := by decide +kernel
theorem dX10_firstRipeDay_21 : decode cX10_firstRipeDay 21 = .ok (.if_icmp .lt 5, 3) := by decide +kernel
theorem dX10_firstRipeDay_24 : decode cX10_firstRipeDay 24 = .ok (.iload_n 3, 1) := by decide +kernel
theorem dX10_firstRipeDay_25 : decode cX10_firstRipeDay 25 = .ok (.ireturn, 1) := by decide +kernel
theorem dX10_firstRipeDay_26 : decode cX10_firstRipeDay 26 = .ok (.iload_n 3, 1) := by decide +kernel
theorem dX10_firstRipeDay_27 : decode cX10_firstRipeDay 27 = .ok (.aload_n 1, 1) := by decide +kernel
theorem dX10_firstRipeDay_28 : decode cX10_firstRipeDay 28 = .ok (.getfield 158, 3) := by decide +kernel
theorem dX10_firstRipeDay_31 : decode cX10_firstRipeDay 31 = .ok (.if_icmp .le 17, 3) := by decide +kernel
theorem dX10_firstRipeDay_34 : decode cX10_firstRipeDay 34 = .ok (.aload_n 0, 1) := by decide +kernel
theorem dX10_firstRipeDay_35 : decode cX10_firstRipeDay 35 = .ok (.getfield 26, 3) := by decide +kernel
theorem dX10_firstRipeDay_38 : decode cX10_firstRipeDay 38 = .ok (.iload_n 3, 1) := by decide +kernel
theorem dX10_firstRipeDay_39 : decode cX10_firstRipeDay 39 = .ok (.invokevirtual 114, 3) := by decide +kernel
theorem dX10_firstRipeDay_42 : decode cX10_firstRipeDay 42 = .ok (.ifCond .ne 6, 3) := by decide +kernel
theorem dX10_firstRipeDay_45 : decode cX10_firstRipeDay 45 = .ok (.iinc 2 1, 3) := by decide +kernel
theorem dX10_firstRipeDay_48 : decode cX10_firstRipeDay 48 = .ok (.iinc 3 1, 3) := by decide +kernel
theorem dX10_firstRipeDay_51 : decode cX10_firstRipeDay 51 = .ok (.goto (-44), 3) := by decide +kernel
theorem dX10_firstRipeDay_54 : decode cX10_firstRipeDay 54 = .ok (.iconst (-1), 1) := by decide +kernel
theorem dX10_firstRipeDay_55 : decode cX10_firstRipeDay 55 = .ok (.ireturn, 1) := by decide +kernel
theorem dX10_isSlot_0 : decode cX10_isSlot 0 = .ok (.iload_n 1, 1) := by decide +kernel
theorem dX10_isSlot_1 : decode cX10_isSlot 1 = .ok (.ifCond .ge 5, 3) := by decide +kernel
theorem dX10_isSlot_4 : decode cX10_isSlot 4 = .ok (.iconst 0, 1) := by decide +kernel
theorem dX10_isSlot_5 : decode cX10_isSlot 5 = .ok (.ireturn, 1) := by decide +kernel
theorem dX10_isSlot_6 : decode cX10_isSlot 6 = .ok (.iload_n 1, 1) := by decide +kernel
theorem dX10_isSlot_7 : decode cX10_isSlot 7 = .ok (.invokestatic 335, 3) := by decide +kernel
theorem dX10_isSlot_10 : decode cX10_isSlot 10 = .ok (.istore_n 2, 1) := by decide +kernel
theorem dX10_isSlot_11 : decode cX10_isSlot 11 = .ok (.iload_n 2, 1) := by decide +kernel
theorem dX10_isSlot_12 : decode cX10_isSlot 12 = .ok (.bipush 8, 2) := by decide +kernel
theorem dX10_isSlot_14 : decode cX10_isSlot 14 = .ok (.if_icmp .lt 32, 3) := by decide +kernel
theorem dX10_isSlot_17 : decode cX10_isSlot 17 = .ok (.iload_n 2, 1) := by decide +kernel
theorem dX10_isSlot_18 : decode cX10_isSlot 18 = .ok (.bipush 18, 2) := by decide +kernel
theorem dX10_isSlot_20 : decode cX10_isSlot 20 = .ok (.if_icmp .ge 26, 3) := by decide +kernel
theorem dX10_isSlot_23 : decode cX10_isSlot 23 = .ok (.iload_n 1, 1) := by decide +kernel
theorem dX10_isSlot_24 : decode cX10_isSlot 24 = .ok (.invokestatic 338, 3) := by decide +kernel
theorem dX10_isSlot_27 : decode cX10_isSlot 27 = .ok (.iconst 4, 1) := by decide +kernel
theorem dX10_isSlot_28 : decode cX10_isSlot 28 = .ok (.if_icmp .ge 18, 3) := by decide +kernel
theorem dX10_isSlot_31 : decode cX10_isSlot 31 = .ok (.iload_n 1, 1) := by decide +kernel
theorem dX10_isSlot_32 : decode cX10_isSlot 32 = .ok (.invokestatic 341, 3) := by decide +kernel
theorem dX10_isSlot_35 : decode cX10_isSlot 35 = .ok (.aload_n 0, 1) := by decide +kernel
theorem dX10_isSlot_36 : decode cX10_isSlot 36 = .ok (.getfield 16, 3) := by decide +kernel
theorem dX10_isSlot_39 : decode cX10_isSlot 39 = .ok (.if_icmp .ge 7, 3) := by decide +kernel
theorem dX10_isSlot_42 : decode cX10_isSlot 42 = .ok (.iconst 1, 1) := by decide +kernel
theorem dX10_isSlot_43 : decode cX10_isSlot 43 = .ok (.goto 4, 3) := by decide +kernel
theorem dX10_isSlot_46 : decode cX10_isSlot 46 = .ok (.iconst 0, 1) := by decide +kernel
theorem dX10_isSlot_47 : decode cX10_isSlot 47 = .ok (.ireturn, 1) := by decide +kernel
theorem dX10_slotOf_0 : decode cX10_slotOf 0 = .ok (.iload_n 0, 1) := by decide +kernel
theorem dX10_slotOf_1 : decode cX10_slotOf 1 = .ok (.bipush 100, 2) := by decide +kernel
theorem dX10_slotOf_3 : decode cX10_slotOf 3 = .ok (.imul, 1) := by decide +kernel
theorem dX10_slotOf_4 : decode cX10_slotOf 4 = .ok (.iload_n 1, 1) := by decide +kernel
theorem dX10_slotOf_5 : decode cX10_slotOf 5 = .ok (.bipush 10, 2) := by decide +kernel
theorem dX10_slotOf_7 : decode cX10_slotOf 7 = .ok (.imul, 1) := by decide +kernel
theorem dX10_slotOf_8 : decode cX10_slotOf 8 = .ok (.iadd, 1) := by decide +kernel
theorem dX10_slotOf_9 : decode cX10_slotOf 9 = .ok (.iload_n 2, 1) := by decide +kernel
theorem dX10_slotOf_10 : decode cX10_slotOf 10 = .ok (.iadd, 1) := by decide +kernel
theorem dX10_slotOf_11 : decode cX10_slotOf 11 = .ok (.ireturn, 1) := by decide +kernel
theorem dX10_hourOf_0 : decode cX10_hourOf 0 = .ok (.iload_n 0, 1) := by decide +kernel
theorem dX10_hourOf_1 : decode cX10_hourOf 1 = .ok (.bipush 100, 2) := by decide +kernel
theorem dX10_hourOf_3 : decode cX10_hourOf 3 = .ok (.idiv, 1) := by decide +kernel
theorem dX10_hourOf_4 : decode cX10_hourOf 4 = .ok (.ireturn, 1) := by decide +kernel
theorem dX10_hallOf_0 : decode cX10_hallOf 0 = .ok (.iload_n 0, 1) := by decide +kernel
theorem dX10_hallOf_1 : decode cX10_hallOf 1 = .ok (.bipush 10, 2) := by decide +kernel
theorem dX10_hallOf_3 : decode cX10_hallOf 3 = .ok (.idiv, 1) := by decide +kernel
theorem dX10_hallOf_4 : decode cX10_hallOf 4 = .ok (.bipush 10, 2) := by decide +kernel
theorem dX10_hallOf_6 : decode cX10_hallOf 6 = .ok (.irem, 1) := by decide +kernel
theorem dX10_hallOf_7 : decode cX10_hallOf 7 = .ok (.ireturn, 1) := by decide +kernel
theorem dX10_registrarOf_0 : decode cX10_registrarOf 0 = .ok (.iload_n 0, 1) := by decide +kernel
theorem dX10_registrarOf_1 : decode cX10_registrarOf 1 = .ok (.bipush 10, 2) := by decide +kernel
theorem dX10_registrarOf_3 : decode cX10_registrarOf 3 = .ok (.irem, 1) := by decide +kernel
theorem dX10_registrarOf_4 : decode cX10_registrarOf 4 = .ok (.ireturn, 1) := by decide +kernel
theorem dX10_fillPlan_0 : decode cX10_fillPlan 0 = .ok (.aload_n 0, 1) := by decide +kernel
theorem dX10_fillPlan_1 : decode cX10_fillPlan 1 = .ok (.getfield 59, 3) := by decide +kernel
theorem dX10_fillPlan_4 : decode cX10_fillPlan 4 = .ok (.invokevirtual 344, 3) := by decide +kernel
theorem dX10_fillPlan_7 : decode cX10_fillPlan 7 = .ok (.iconst 0, 1) := by decide +kernel
theorem dX10_fillPlan_8 : decode cX10_fillPlan 8 = .ok (.istore_n 3, 1) := by decide +kernel
theorem dX10_fillPlan_9 : decode cX10_fillPlan 9 = .ok (.iload_n 3, 1) := by decide +kernel
theorem dX10_fillPlan_10 : decode cX10_fillPlan 10 = .ok (.aload_n 0, 1) := by decide +kernel
theorem dX10_fillPlan_11 : decode cX10_fillPlan 11 = .ok (.getfield 44, 3) := by decide +kernel
theorem dX10_fillPlan_14 : decode cX10_fillPlan 14 = .ok (.invokevirtual 88, 3) := by decide +kernel
theorem dX10_fillPlan_17 : decode cX10_fillPlan 17 = .ok (.if_icmp .ge 57, 3) := by decide +kernel
theorem dX10_fillPlan_20 : decode cX10_fillPlan 20 = .ok (.aload_n 0, 1) := by decide +kernel
theorem dX10_fillPlan_21 : decode cX10_fillPlan 21 = .ok (.getfield 44, 3) := by decide +kernel
theorem dX10_fillPlan_24 : decode cX10_fillPlan 24 = .ok (.iload_n 3, 1) := by decide +kernel
theorem dX10_fillPlan_25 : decode cX10_fillPlan 25 = .ok (.invokevirtual 176, 3) := by decide +kernel
theorem dX10_fillPlan_28 : decode cX10_fillPlan 28 = .ok (.checkcast 143, 3) := by decide +kernel
theorem dX10_fillPlan_31 : decode cX10_fillPlan 31 = .ok (.astore 4, 2) := by decide +kernel
theorem dX10_fillPlan_33 : decode cX10_fillPlan 33 = .ok (.aload 4, 2) := by decide +kernel
theorem dX10_fillPlan_35 : decode cX10_fillPlan 35 = .ok (.aload_n 2, 1) := by decide +kernel
theorem dX10_fillPlan_36 : decode cX10_fillPlan 36 = .ok (.if_acmp .eq 32, 3) := by decide +kernel
theorem dX10_fillPlan_39 : decode cX10_fillPlan 39 = .ok (.aload 4, 2) := by decide +kernel
theorem dX10_fillPlan_41 : decode cX10_fillPlan 41 = .ok (.invokevirtual 263, 3) := by decide +kernel
theorem dX10_fillPlan_44 : decode cX10_fillPlan 44 = .ok (.ifCond .eq 24, 3) := by decide +kernel
theorem dX10_fillPlan_47 : decode cX10_fillPlan 47 = .ok (.aload 4, 2) := by decide +kernel
theorem dX10_fillPlan_49 : decode cX10_fillPlan 49 = .ok (.getfield 209, 3) := by decide +kernel
theorem dX10_fillPlan_52 : decode cX10_fillPlan 52 = .ok (.iload_n 1, 1) := by decide +kernel
theorem dX10_fillPlan_53 : decode cX10_fillPlan 53 = .ok (.if_icmp .ne 15, 3) := by decide +kernel
theorem dX10_fillPlan_56 : decode cX10_fillPlan 56 = .ok (.aload_n 0, 1) := by decide +kernel
theorem dX10_fillPlan_57 : decode cX10_fillPlan 57 = .ok (.getfield 59, 3) := by decide +kernel
theorem dX10_fillPlan_60 : decode cX10_fillPlan 60 = .ok (.aload 4, 2) := by decide +kernel
theorem dX10_fillPlan_62 : decode cX10_fillPlan 62 = .ok (.getfield 254, 3) := by decide +kernel
theorem dX10_fillPlan_65 : decode cX10_fillPlan 65 = .ok (.invokevirtual 347, 3) := by decide +kernel
theorem dX10_fillPlan_68 : decode cX10_fillPlan 68 = .ok (.iinc 3 1, 3) := by decide +kernel
theorem dX10_fillPlan_71 : decode cX10_fillPlan 71 = .ok (.goto (-62), 3) := by decide +kernel
theorem dX10_fillPlan_74 : decode cX10_fillPlan 74 = .ok (.return_, 1) := by decide +kernel
theorem dX10_barToDay_0 : decode cX10_barToDay 0 = .ok (.aload_n 1, 1) := by decide +kernel
theorem dX10_barToDay_1 : decode cX10_barToDay 1 = .ok (.getfield 152, 3) := by decide +kernel
theorem dX10_barToDay_4 : decode cX10_barToDay 4 = .ok (.ifCond .eq 5, 3) := by decide +kernel
theorem dX10_barToDay_7 : decode cX10_barToDay 7 = .ok (.iconst 1, 1) := by decide +kernel
theorem dX10_barToDay_8 : decode cX10_barToDay 8 = .ok (.ireturn, 1) := by decide +kernel
theorem dX10_barToDay_9 : decode cX10_barToDay 9 = .ok (.aload_n 0, 1) := by decide +kernel
theorem dX10_barToDay_10 : decode cX10_barToDay 10 = .ok (.getfield 26, 3) := by decide +kernel
theorem dX10_barToDay_13 : decode cX10_barToDay 13 = .ok (.iload_n 2, 1) := by decide +kernel
theorem dX10_barToDay_14 : decode cX10_barToDay 14 = .ok (.invokevirtual 114, 3) := by decide +kernel
theorem dX10_barToDay_17 : decode cX10_barToDay 17 = .ok (.ifCond .eq 5, 3) := by decide +kernel
theorem dX10_barToDay_20 : decode cX10_barToDay 20 = .ok (.iconst 2, 1) := by decide +kernel
theorem dX10_barToDay_21 : decode cX10_barToDay 21 = .ok (.ireturn, 1) := by decide +kernel
theorem dX10_barToDay_22 : decode cX10_barToDay 22 = .ok (.aload_n 0, 1) := by decide +kernel
theorem dX10_barToDay_23 : decode cX10_barToDay 23 = .ok (.aload_n 1, 1) := by decide +kernel
theorem dX10_barToDay_24 : decode cX10_barToDay 24 = .ok (.iload_n 2, 1) := by decide +kernel
theorem dX10_barToDay_25 : decode cX10_barToDay 25 = .ok (.invokevirtual 218, 3) := by decide +kernel
theorem dX10_barToDay_28 : decode cX10_barToDay 28 = .ok (.ifCond .eq 7, 3) := by decide +kernel
theorem dX10_barToDay_31 : decode cX10_barToDay 31 = .ok (.iconst 0, 1) := by decide +kernel
theorem dX10_barToDay_32 : decode cX10_barToDay 32 = .ok (.goto 4, 3) := by decide +kernel
theorem dX10_barToDay_35 : decode cX10_barToDay 35 = .ok (.iconst 3, 1) := by decide +kernel
theorem dX10_barToDay_36 : decode cX10_barToDay 36 = .ok (.ireturn, 1) := by decide +kernel
theorem dX10_barToSlot_0 : decode cX10_barToSlot 0 = .ok (.aload_n 0, 1) := by decide +kernel
theorem dX10_barToSlot_1 : decode cX10_barToSlot 1 = .ok (.getfield 59, 3) := by decide +kernel
theorem dX10_barToSlot_4 : decode cX10_barToSlot 4 = .ok (.iload_n 2, 1) := by decide +kernel
theorem dX10_barToSlot_5 : decode cX10_barToSlot 5 = .ok (.invokevirtual 350, 3) := by decide +kernel
theorem dX10_barToSlot_8 : decode cX10_barToSlot 8 = .ok (.istore_n 3, 1) := by decide +kernel
theorem dX10_barToSlot_9 : decode cX10_barToSlot 9 = .ok (.iload_n 3, 1) := by decide +kernel
theorem dX10_barToSlot_10 : decode cX10_barToSlot 10 = .ok (.ifCond .eq 5, 3) := by decide +kernel
theorem dX10_barToSlot_13 : decode cX10_barToSlot 13 = .ok (.iload_n 3, 1) := by decide +kernel
theorem dX10_barToSlot_14 : decode cX10_barToSlot 14 = .ok (.ireturn, 1) := by decide +kernel
theorem dX10_barToSlot_15 : decode cX10_barToSlot 15 = .ok (.aload_n 0, 1) := by decide +kernel
theorem dX10_barToSlot_16 : decode cX10_barToSlot 16 = .ok (.iload_n 2, 1) := by decide +kernel
theorem dX10_barToSlot_17 : decode cX10_barToSlot 17 = .ok (.invokestatic 341, 3) := by decide +kernel
theorem dX10_barToSlot_20 : decode cX10_barToSlot 20 = .ok (.aload_n 1, 1) := by decide +kernel
theorem dX10_barToSlot_21 : decode cX10_barToSlot 21 = .ok (.invokevirtual 353, 3) := by decide +kernel
theorem dX10_barToSlot_24 : decode cX10_barToSlot 24 = .ok (.ifCond .eq 7, 3) := by decide +kernel
theorem dX10_barToSlot_27 : decode cX10_barToSlot 27 = .ok (.iconst 0, 1) := by decide +kernel
theorem dX10_barToSlot_28 : decode cX10_barToSlot 28 = .ok (.goto 5, 3) := by decide +kernel
theorem dX10_barToSlot_31 : decode cX10_barToSlot 31 = .ok (.bipush 7, 2) := by decide +kernel
theorem dX10_barToSlot_33 : decode cX10_barToSlot 33 = .ok (.ireturn, 1) := by decide +kernel
theorem dX10_speaksWithBoth_0 : decode cX10_speaksWithBoth 0 = .ok (.iload_n 1, 1) := by decide +kernel
theorem dX10_speaksWithBoth_1 : decode cX10_speaksWithBoth 1 = .ok (.ifCond .lt 12, 3) := by decide +kernel
theorem dX10_speaksWithBoth_4 : decode cX10_speaksWithBoth 4 = .ok (.iload_n 1, 1) := by decide +kernel
theorem dX10_speaksWithBoth_5 : decode cX10_speaksWithBoth 5 = .ok (.aload_n 0, 1) := by decide +kernel
theorem dX10_speaksWithBoth_6 : decode cX10_speaksWithBoth 6 = .ok (.getfield 19, 3) := by decide +kernel
theorem dX10_speaksWithBoth_9 : decode cX10_speaksWithBoth 9 = .ok (.arraylength, 1) := by decide +kernel
theorem dX10_speaksWithBoth_10 : decode cX10_speaksWithBoth 10 = .ok (.if_icmp .lt 5, 3) := by decide +kernel
theorem dX10_speaksWithBoth_13 : decode cX10_speaksWithBoth 13 = .ok (.iconst 0, 1) := by decide +kernel
theorem dX10_speaksWithBoth_14 : decode cX10_speaksWithBoth 14 = .ok (.ireturn, 1) := by decide +kernel
theorem dX10_speaksWithBoth_15 : decode cX10_speaksWithBoth 15 = .ok (.aload_n 0, 1) := by decide +kernel
theorem dX10_speaksWithBoth_16 : decode cX10_speaksWithBoth 16 = .ok (.getfield 19, 3) := by decide +kernel
theorem dX10_speaksWithBoth_19 : decode cX10_speaksWithBoth 19 = .ok (.iload_n 1, 1) := by decide +kernel
theorem dX10_speaksWithBoth_20 : decode cX10_speaksWithBoth 20 = .ok (.iaload, 1) := by decide +kernel
theorem dX10_speaksWithBoth_21 : decode cX10_speaksWithBoth 21 = .ok (.istore_n 3, 1) := by decide +kernel
theorem dX10_speaksWithBoth_22 : decode cX10_speaksWithBoth 22 = .ok (.iload_n 3, 1) := by decide +kernel
theorem dX10_speaksWithBoth_23 : decode cX10_speaksWithBoth 23 = .ok (.aload_n 2, 1) := by decide +kernel
theorem dX10_speaksWithBoth_24 : decode cX10_speaksWithBoth 24 = .ok (.getfield 212, 3) := by decide +kernel
theorem dX10_speaksWithBoth_27 : decode cX10_speaksWithBoth 27 = .ok (.getfield 357, 3) := by decide +kernel
theorem dX10_speaksWithBoth_30 : decode cX10_speaksWithBoth 30 = .ok (.iand, 1) := by decide +kernel
theorem dX10_speaksWithBoth_31 : decode cX10_speaksWithBoth 31 = .ok (.ifCond .eq 19, 3) := by decide +kernel
theorem dX10_speaksWithBoth_34 : decode cX10_speaksWithBoth 34 = .ok (.iload_n 3, 1) := by decide +kernel
theorem dX10_speaksWithBoth_35 : decode cX10_speaksWithBoth 35 = .ok (.aload_n 2, 1) := by decide +kernel
theorem dX10_speaksWithBoth_36 : decode cX10_speaksWithBoth 36 = .ok (.getfield 215, 3) := by decide +kernel
theorem dX10_speaksWithBoth_39 : decode cX10_speaksWithBoth 39 = .ok (.getfield 357, 3) := by decide +kernel
theorem dX10_speaksWithBoth_42 : decode cX10_speaksWithBoth 42 = .ok (.iand, 1) := by decide +kernel
theorem dX10_speaksWithBoth_43 : decode cX10_speaksWithBoth 43 = .ok (.ifCond .eq 7, 3) := by decide +kernel
theorem dX10_speaksWithBoth_46 : decode cX10_speaksWithBoth 46 = .ok (.iconst 1, 1) := by decide +kernel
theorem dX10_speaksWithBoth_47 : decode cX10_speaksWithBoth 47 = .ok (.goto 4, 3) := by decide +kernel
theorem dX10_speaksWithBoth_50 : decode cX10_speaksWithBoth 50 = .ok (.iconst 0, 1) := by decide +kernel
theorem dX10_speaksWithBoth_51 : decode cX10_speaksWithBoth 51 = .ok (.ireturn, 1) := by decide +kernel
theorem dX10_bookByOrder_0 : decode cX10_bookByOrder 0 = .ok (.aload_n 1, 1) := by decide +kernel
theorem dX10_bookByOrder_1 : decode cX10_bookByOrder 1 = .ok (.invokevirtual 263, 3) := by decide +kernel
theorem dX10_bookByOrder_4 : decode cX10_bookByOrder 4 = .ok (.ifCond .ne 12, 3) := by decide +kernel
theorem dX10_bookByOrder_7 : decode cX10_bookByOrder 7 = .ok (.aload_n 0, 1) := by decide +kernel
theorem dX10_bookByOrder_8 : decode cX10_bookByOrder 8 = .ok (.aload_n 1, 1) := by decide +kernel
theorem dX10_bookByOrder_9 : decode cX10_bookByOrder 9 = .ok (.iload_n 2, 1) := by decide +kernel
theorem dX10_bookByOrder_10 : decode cX10_bookByOrder 10 = .ok (.invokevirtual 194, 3) := by decide +kernel
theorem dX10_bookByOrder_13 : decode cX10_bookByOrder 13 = .ok (.ifCond .eq 5, 3) := by decide +kernel
theorem dX10_bookByOrder_16 : decode cX10_bookByOrder 16 = .ok (.iconst 0, 1) := by decide +kernel
theorem dX10_bookByOrder_17 : decode cX10_bookByOrder 17 = .ok (.ireturn, 1) := by decide +kernel
theorem dX10_bookByOrder_18 : decode cX10_bookByOrder 18 = .ok (.aload_n 0, 1) := by decide +kernel
theorem dX10_bookByOrder_19 : decode cX10_bookByOrder 19 = .ok (.aload_n 1, 1) := by decide +kernel
theorem dX10_bookByOrder_20 : decode cX10_bookByOrder 20 = .ok (.getfield 212, 3) := by decide +kernel
theorem dX10_bookByOrder_23 : decode cX10_bookByOrder 23 = .ok (.aload_n 1, 1) := by decide +kernel
theorem dX10_bookByOrder_24 : decode cX10_bookByOrder 24 = .ok (.getfield 215, 3) := by decide +kernel
theorem dX10_bookByOrder_27 : decode cX10_bookByOrder 27 = .ok (.iload_n 2, 1) := by decide +kernel
theorem dX10_bookByOrder_28 : decode cX10_bookByOrder 28 = .ok (.invokevirtual 131, 3) := by decide +kernel
theorem dX10_bookByOrder_31 : decode cX10_bookByOrder 31 = .ok (.ifCond .eq 5, 3) := by decide +kernel
theorem dX10_bookByOrder_34 : decode cX10_bookByOrder 34 = .ok (.iconst 0, 1) := by decide +kernel
theorem dX10_bookByOrder_35 : decode cX10_bookByOrder 35 = .ok (.ireturn, 1) := by decide +kernel
theorem dX10_bookByOrder_36 : decode cX10_bookByOrder 36 = .ok (.aload_n 0, 1) := by decide +kernel
theorem dX10_bookByOrder_37 : decode cX10_bookByOrder 37 = .ok (.aload_n 1, 1) := by decide +kernel
theorem dX10_bookByOrder_38 : decode cX10_bookByOrder 38 = .ok (.invokevirtual 360, 3) := by decide +kernel
theorem dX10_bookByOrder_41 : decode cX10_bookByOrder 41 = .ok (.istore_n 3, 1) := by decide +kernel
theorem dX10_bookByOrder_42 : decode cX10_bookByOrder 42 = .ok (.iload_n 3, 1) := by decide +kernel
theorem dX10_bookByOrder_43 : decode cX10_bookByOrder 43 = .ok (.iconst (-1), 1) := by decide +kernel
theorem dX10_bookByOrder_44 : decode cX10_bookByOrder 44 = .ok (.if_icmp .ne 5, 3) := by decide +kernel
theorem dX10_bookByOrder_47 : decode cX10_bookByOrder 47 = .ok (.iconst 0, 1) := by decide +kernel
theorem dX10_bookByOrder_48 : decode cX10_bookByOrder 48 = .ok (.ireturn, 1) := by decide +kernel
theorem dX10_bookByOrder_49 : decode cX10_bookByOrder 49 = .ok (.aload_n 1, 1) := by decide +kernel
theorem dX10_bookByOrder_50 : decode cX10_bookByOrder 50 = .ok (.iload_n 2, 1) := by decide +kernel
theorem dX10_bookByOrder_51 : decode cX10_bookByOrder 51 = .ok (.iload_n 3, 1) := by decide +kernel
theorem dX10_bookByOrder_52 : decode cX10_bookByOrder 52 = .ok (.invokevirtual 155, 3) := by decide +kernel
theorem dX10_bookByOrder_55 : decode cX10_bookByOrder 55 = .ok (.aload_n 0, 1) := by decide +kernel
theorem dX10_bookByOrder_56 : decode cX10_bookByOrder 56 = .ok (.getfield 59, 3) := by decide +kernel
theorem dX10_bookByOrder_59 : decode cX10_bookByOrder 59 = .ok (.iload_n 3, 1) := by decide +kernel
theorem dX10_bookByOrder_60 : decode cX10_bookByOrder 60 = .ok (.invokevirtual 347, 3) := by decide +kernel
theorem dX10_bookByOrder_63 : decode cX10_bookByOrder 63 = .ok (.iconst 1, 1) := by decide +kernel
theorem dX10_bookByOrder_64 : decode cX10_bookByOrder 64 = .ok (.ireturn, 1) := by decide +kernel
theorem dX10_firstFreeSlot_0 : decode cX10_firstFreeSlot 0 = .ok (.bipush 8, 2) := by decide +kernel
theorem dX10_firstFreeSlot_2 : decode cX10_firstFreeSlot 2 = .ok (.istore_n 2, 1) := by decide +kernel
theorem dX10_firstFreeSlot_3 : decode cX10_firstFreeSlot 3 = .ok (.iload_n 2, 1) := by decide +kernel
theorem dX10_firstFreeSlot_4 : decode cX10_firstFreeSlot 4 = .ok (.bipush 18, 2) := by decide +kernel
theorem dX10_firstFreeSlot_6 : decode cX10_firstFreeSlot 6 = .ok (.if_icmp .ge 62, 3) := by decide +kernel
theorem dX10_firstFreeSlot_9 : decode cX10_firstFreeSlot 9 = .ok (.iconst 0, 1) := by decide +kernel
theorem dX10_firstFreeSlot_10 : decode cX10_firstFreeSlot 10 = .ok (.istore_n 3, 1) := by decide +kernel
theorem dX10_firstFreeSlot_11 : decode cX10_firstFreeSlot 11 = .ok (.iload_n 3, 1) := by decide +kernel
theorem dX10_firstFreeSlot_12 : decode cX10_firstFreeSlot 12 = .ok (.iconst 4, 1) := by decide +kernel
theorem dX10_firstFreeSlot_13 : decode cX10_firstFreeSlot 13 = .ok (.if_icmp .ge 49, 3) := by decide +kernel
theorem dX10_firstFreeSlot_16 : decode cX10_firstFreeSlot 16 = .ok (.iconst 0, 1) := by decide +kernel
theorem dX10_firstFreeSlot_17 : decode cX10_firstFreeSlot 17 = .ok (.istore 4, 2) := by decide +kernel
theorem dX10_firstFreeSlot_19 : decode cX10_firstFreeSlot 19 = .ok (.iload 4, 2) := by decide +kernel
theorem dX10_firstFreeSlot_21 : decode cX10_firstFreeSlot 21 = .ok (.aload_n 0, 1) := by decide +kernel
theorem dX10_firstFreeSlot_22 : decode cX10_firstFreeSlot 22 = .ok (.getfield 16, 3) := by decide +kernel
theorem dX10_firstFreeSlot_25 : decode cX10_firstFreeSlot 25 = .ok (.if_icmp .ge 31, 3) := by decide +kernel
theorem dX10_firstFreeSlot_28 : decode cX10_firstFreeSlot 28 = .ok (.iload_n 2, 1) := by decide +kernel
theorem dX10_firstFreeSlot_29 : decode cX10_firstFreeSlot 29 = .ok (.iload_n 3, 1) := by decide +kernel
theorem dX10_firstFreeSlot_30 : decode cX10_firstFreeSlot 30 = .ok (.iload 4, 2) := by decide +kernel
theorem dX10_firstFreeSlot_32 : decode cX10_firstFreeSlot 32 = .ok (.invokestatic 363, 3) := by decide +kernel
theorem dX10_firstFreeSlot_35 : decode cX10_firstFreeSlot 35 = .ok (.istore 5, 2) := by decide +kernel
theorem dX10_firstFreeSlot_37 : decode cX10_firstFreeSlot 37 = .ok (.aload_n 0, 1) := by decide +kernel
theorem dX10_firstFreeSlot_38 : decode cX10_firstFreeSlot 38 = .ok (.aload_n 1, 1) := by decide +kernel
theorem dX10_firstFreeSlot_39 : decode cX10_firstFreeSlot 39 = .ok (.iload 5, 2) := by decide +kernel
theorem dX10_firstFreeSlot_41 : decode cX10_firstFreeSlot 41 = .ok (.invokevirtual 202, 3) := by decide +kernel
theorem dX10_firstFreeSlot_44 : decode cX10_firstFreeSlot 44 = .ok (.ifCond .ne 6, 3) := by decide +kernel
theorem dX10_firstFreeSlot_47 : decode cX10_firstFreeSlot 47 = .ok (.iload 5, 2) := by decide +kernel
theorem dX10_firstFreeSlot_49 : decode cX10_firstFreeSlot 49 = .ok (.ireturn, 1) := by decide +kernel
theorem dX10_firstFreeSlot_50 : decode cX10_firstFreeSlot 50 = .ok (.iinc 4 1, 3) := by decide +kernel
theorem dX10_firstFreeSlot_53 : decode cX10_firstFreeSlot 53 = .ok (.goto (-34), 3) := by decide +kernel
theorem dX10_firstFreeSlot_56 : decode cX10_firstFreeSlot 56 = .ok (.iinc 3 1, 3) := by decide +kernel
theorem dX10_firstFreeSlot_59 : decode cX10_firstFreeSlot 59 = .ok (.goto (-48), 3) := by decide +kernel
theorem dX10_firstFreeSlot_62 : decode cX10_firstFreeSlot 62 = .ok (.iinc 2 1, 3) := by decide +kernel
theorem dX10_firstFreeSlot_65 : decode cX10_firstFreeSlot 65 = .ok (.goto (-62), 3) := by decide +kernel
theorem dX10_firstFreeSlot_68 : decode cX10_firstFreeSlot 68 = .ok (.iconst (-1), 1) := by decide +kernel
theorem dX10_firstFreeSlot_69 : decode cX10_firstFreeSlot 69 = .ok (.ireturn, 1) := by decide +kernel
theorem dX10_nameAfter_0 : decode cX10_nameAfter 0 = .ok (.iload_n 3, 1) := by decide +kernel
theorem dX10_nameAfter_1 : decode cX10_nameAfter 1 = .ok (.ifCond .ne 16, 3) := by decide +kernel
theorem dX10_nameAfter_4 : decode cX10_nameAfter 4 = .ok (.aload_n 1, 1) := by decide +kernel
theorem dX10_nameAfter_5 : decode cX10_nameAfter 5 = .ok (.getfield 367, 3) := by decide +kernel
theorem dX10_nameAfter_8 : decode cX10_nameAfter 8 = .ok (.getfield 212, 3) := by decide +kernel
theorem dX10_nameAfter_11 : decode cX10_nameAfter 11 = .ok (.getfield 294, 3) := by decide +kernel
theorem dX10_nameAfter_14 : decode cX10_nameAfter 14 = .ok (.goto 13, 3) := by decide +kernel
theorem dX10_nameAfter_17 : decode cX10_nameAfter 17 = .ok (.aload_n 1, 1) := by decide +kernel
theorem dX10_nameAfter_18 : decode cX10_nameAfter 18 = .ok (.getfield 367, 3) := by decide +kernel
theorem dX10_nameAfter_21 : decode cX10_nameAfter 21 = .ok (.getfield 215, 3) := by decide +kernel
theorem dX10_nameAfter_24 : decode cX10_nameAfter 24 = .ok (.getfield 294, 3) := by decide +kernel
theorem dX10_nameAfter_27 : decode cX10_nameAfter 27 = .ok (.istore 4, 2) := by decide +kernel
theorem dX10_nameAfter_29 : decode cX10_nameAfter 29 = .ok (.aload_n 0, 1) := by decide +kernel
theorem dX10_nameAfter_30 : decode cX10_nameAfter 30 = .ok (.getfield 33, 3) := by decide +kernel
theorem dX10_nameAfter_33 : decode cX10_nameAfter 33 = .ok (.iload 4, 2) := by decide +kernel
theorem dX10_nameAfter_35 : decode cX10_nameAfter 35 = .ok (.aload_n 1, 1) := by decide +kernel
theorem dX10_nameAfter_36 : decode cX10_nameAfter 36 = .ok (.getfield 233, 3) := by decide +kernel
theorem dX10_nameAfter_39 : decode cX10_nameAfter 39 = .ok (.invokevirtual 297, 3) := by decide +kernel
theorem dX10_nameAfter_42 : decode cX10_nameAfter 42 = .ok (.getfield 368, 3) := by decide +kernel
theorem dX10_nameAfter_45 : decode cX10_nameAfter 45 = .ok (.istore 5, 2) := by decide +kernel
theorem dX10_nameAfter_47 : decode cX10_nameAfter 47 = .ok (.iload 5, 2) := by decide +kernel
theorem dX10_nameAfter_49 : decode cX10_nameAfter 49 = .ok (.iconst 2, 1) := by decide +kernel
theorem dX10_nameAfter_50 : decode cX10_nameAfter 50 = .ok (.if_icmp .ne 17, 3) := by decide +kernel
theorem dX10_nameAfter_53 : decode cX10_nameAfter 53 = .ok (.aload_n 1, 1) := by decide +kernel
theorem dX10_nameAfter_54 : decode cX10_nameAfter 54 = .ok (.getfield 371, 3) := by decide +kernel
theorem dX10_nameAfter_57 : decode cX10_nameAfter 57 = .ok (.sipush 10000, 3) := by decide +kernel
theorem dX10_nameAfter_60 : decode cX10_nameAfter 60 = .ok (.imul, 1) := by decide +kernel
theorem dX10_nameAfter_61 : decode cX10_nameAfter 61 = .ok (.aload_n 1, 1) := by decide +kernel
theorem dX10_nameAfter_62 : decode cX10_nameAfter 62 = .ok (.getfield 374, 3) := by decide +kernel
theorem dX10_nameAfter_65 : decode cX10_nameAfter 65 = .ok (.iadd, 1) := by decide +kernel
theorem dX10_nameAfter_66 : decode cX10_nameAfter 66 = .ok (.ireturn, 1) := by decide +kernel
theorem dX10_nameAfter_67 : decode cX10_nameAfter 67 = .ok (.iload 5, 2) := by decide +kernel
theorem dX10_nameAfter_69 : decode cX10_nameAfter 69 = .ok (.iconst 1, 1) := by decide +kernel
theorem dX10_nameAfter_70 : decode cX10_nameAfter 70 = .ok (.if_icmp .eq 7, 3) := by decide +kernel
theorem dX10_nameAfter_73 : decode cX10_nameAfter 73 = .ok (.iload_n 2, 1) := by decide +kernel
theorem dX10_nameAfter_74 : decode cX10_nameAfter 74 = .ok (.ifCond .ne 10, 3) := by decide +kernel
theorem dX10_nameAfter_77 : decode cX10_nameAfter 77 = .ok (.aload_n 1, 1) := by decide +kernel
theorem dX10_nameAfter_78 : decode cX10_nameAfter 78 = .ok (.getfield 371, 3) := by decide +kernel
theorem dX10_nameAfter_81 : decode cX10_nameAfter 81 = .ok (.goto 7, 3) := by decide +kernel
theorem dX10_nameAfter_84 : decode cX10_nameAfter 84 = .ok (.aload_n 1, 1) := by decide +kernel
theorem dX10_nameAfter_85 : decode cX10_nameAfter 85 = .ok (.getfield 374, 3) := by decide +kernel
theorem dX10_nameAfter_88 : decode cX10_nameAfter 88 = .ok (.ireturn, 1) := by decide +kernel
