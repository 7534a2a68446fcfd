theorem dX1_init_0 : decode cX1_init 0 = .ok (.aload_n 0, 1) := by decide +kernel
theorem dX1_init_1 : decode cX1_init 1 = .ok (.invokespecial 3, 3) := by decide +kernel
theorem dX1_init_4 : decode cX1_init 4 = .ok (.aload_n 0, 1) := by decide +kernel
theorem dX1_init_5 : decode cX1_init 5 = .ok (.iconst 3, 1) := by decide +kernel
theorem dX1_init_6 : decode cX1_init 6 = .ok (.iconst 4, 1) := by decide +kernel
theorem dX1_init_7 : decode cX1_init 7 = .ok (.multianewarray 9 2, 4) := by decide +kernel
theorem dX1_init_11 : decode cX1_init 11 = .ok (.putfield 11, 3) := by decide +kernel
theorem dX1_init_14 : decode cX1_init 14 = .ok (.aload_n 0, 1) := by decide +kernel
theorem dX1_init_15 : decode cX1_init 15 = .ok (.iconst 3, 1) := by decide +kernel
theorem dX1_init_16 : decode cX1_init 16 = .ok (.newarray .int, 2) := by decide +kernel
theorem dX1_init_18 : decode cX1_init 18 = .ok (.putfield 14, 3) := by decide +kernel
theorem dX1_init_21 : decode cX1_init 21 = .ok (.aload_n 0, 1) := by decide +kernel
theorem dX1_init_22 : decode cX1_init 22 = .ok (.new 18, 3) := by decide +kernel
theorem dX1_init_25 : decode cX1_init 25 = .ok (.dup, 1) := by decide +kernel
theorem dX1_init_26 : decode cX1_init 26 = .ok (.iconst 4, 1) := by decide +kernel
theorem dX1_init_27 : decode cX1_init 27 = .ok (.bipush 7, 2) := by decide +kernel
theorem dX1_init_29 : decode cX1_init 29 = .ok (.invokespecial 20, 3) := by decide +kernel
theorem dX1_init_32 : decode cX1_init 32 = .ok (.putfield 23, 3) := by decide +kernel
theorem dX1_init_35 : decode cX1_init 35 = .ok (.aload_n 0, 1) := by decide +kernel
theorem dX1_init_36 : decode cX1_init 36 = .ok (.new 18, 3) := by decide +kernel
theorem dX1_init_39 : decode cX1_init 39 = .ok (.dup, 1) := by decide +kernel
theorem dX1_init_40 : decode cX1_init 40 = .ok (.bipush 6, 2) := by decide +kernel
theorem dX1_init_42 : decode cX1_init 42 = .ok (.iconst 3, 1) := by decide +kernel
theorem dX1_init_43 : decode cX1_init 43 = .ok (.invokespecial 20, 3) := by decide +kernel
theorem dX1_init_46 : decode cX1_init 46 = .ok (.putfield 27, 3) := by decide +kernel
theorem dX1_init_49 : decode cX1_init 49 = .ok (.aload_n 0, 1) := by decide +kernel
theorem dX1_init_50 : decode cX1_init 50 = .ok (.bipush 7, 2) := by decide +kernel
theorem dX1_init_52 : decode cX1_init 52 = .ok (.newarray .long, 2) := by decide +kernel
theorem dX1_init_54 : decode cX1_init 54 = .ok (.putfield 30, 3) := by decide +kernel
theorem dX1_init_57 : decode cX1_init 57 = .ok (.aload_n 0, 1) := by decide +kernel
theorem dX1_init_58 : decode cX1_init 58 = .ok (.bipush 7, 2) := by decide +kernel
theorem dX1_init_60 : decode cX1_init 60 = .ok (.newarray .long, 2) := by decide +kernel
theorem dX1_init_62 : decode cX1_init 62 = .ok (.putfield 34, 3) := by decide +kernel
theorem dX1_init_65 : decode cX1_init 65 = .ok (.aload_n 0, 1) := by decide +kernel
theorem dX1_init_66 : decode cX1_init 66 = .ok (.iconst 5, 1) := by decide +kernel
theorem dX1_init_67 : decode cX1_init 67 = .ok (.iconst 4, 1) := by decide +kernel
theorem dX1_init_68 : decode cX1_init 68 = .ok (.multianewarray 37 2, 4) := by decide +kernel
theorem dX1_init_72 : decode cX1_init 72 = .ok (.putfield 39, 3) := by decide +kernel
theorem dX1_init_75 : decode cX1_init 75 = .ok (.aload_n 0, 1) := by decide +kernel
theorem dX1_init_76 : decode cX1_init 76 = .ok (.iconst 1, 1) := by decide +kernel
theorem dX1_init_77 : decode cX1_init 77 = .ok (.putfield 42, 3) := by decide +kernel
theorem dX1_init_80 : decode cX1_init 80 = .ok (.aload_n 0, 1) := by decide +kernel
theorem dX1_init_81 : decode cX1_init 81 = .ok (.iconst 0, 1) := by decide +kernel
theorem dX1_init_82 : decode cX1_init 82 = .ok (.putfield 46, 3) := by decide +kernel
theorem dX1_init_85 : decode cX1_init 85 = .ok (.aload_n 0, 1) := by decide +kernel
theorem dX1_init_86 : decode cX1_init 86 = .ok (.invokevirtual 49, 3) := by decide +kernel
theorem dX1_init_89 : decode cX1_init 89 = .ok (.return_, 1) := by decide +kernel
theorem dX1_unknowns_0 : decode cX1_unknowns 0 = .ok (.iload_n 1, 1) := by decide +kernel
theorem dX1_unknowns_1 : decode cX1_unknowns 1 = .ok (.iconst 1, 1) := by decide +kernel
theorem dX1_unknowns_2 : decode cX1_unknowns 2 = .ok (.if_icmp .lt 8, 3) := by decide +kernel
theorem dX1_unknowns_5 : decode cX1_unknowns 5 = .ok (.iload_n 1, 1) := by decide +kernel
theorem dX1_unknowns_6 : decode cX1_unknowns 6 = .ok (.iconst 4, 1) := by decide +kernel
theorem dX1_unknowns_7 : decode cX1_unknowns 7 = .ok (.if_icmp .le 5, 3) := by decide +kernel
theorem dX1_unknowns_10 : decode cX1_unknowns 10 = .ok (.iconst 0, 1) := by decide +kernel
theorem dX1_unknowns_11 : decode cX1_unknowns 11 = .ok (.ireturn, 1) := by decide +kernel
theorem dX1_unknowns_12 : decode cX1_unknowns 12 = .ok (.aload_n 0, 1) := by decide +kernel
theorem dX1_unknowns_13 : decode cX1_unknowns 13 = .ok (.iload_n 1, 1) := by decide +kernel
theorem dX1_unknowns_14 : decode cX1_unknowns 14 = .ok (.putfield 42, 3) := by decide +kernel
theorem dX1_unknowns_17 : decode cX1_unknowns 17 = .ok (.aload_n 0, 1) := by decide +kernel
theorem dX1_unknowns_18 : decode cX1_unknowns 18 = .ok (.iconst 0, 1) := by decide +kernel
theorem dX1_unknowns_19 : decode cX1_unknowns 19 = .ok (.putfield 46, 3) := by decide +kernel
theorem dX1_unknowns_22 : decode cX1_unknowns 22 = .ok (.aload_n 0, 1) := by decide +kernel
theorem dX1_unknowns_23 : decode cX1_unknowns 23 = .ok (.invokevirtual 49, 3) := by decide +kernel
theorem dX1_unknowns_26 : decode cX1_unknowns 26 = .ok (.iconst 1, 1) := by decide +kernel
theorem dX1_unknowns_27 : decode cX1_unknowns 27 = .ok (.ireturn, 1) := by decide +kernel
theorem dX1_equation_0 : decode cX1_equation 0 = .ok (.aload_n 0, 1) := by decide +kernel
theorem dX1_equation_1 : decode cX1_equation 1 = .ok (.getfield 46, 3) := by decide +kernel
theorem dX1_equation_4 : decode cX1_equation 4 = .ok (.iconst 3, 1) := by decide +kernel
theorem dX1_equation_5 : decode cX1_equation 5 = .ok (.if_icmp .ge 11, 3) := by decide +kernel
theorem dX1_equation_8 : decode cX1_equation 8 = .ok (.iload 5, 2) := by decide +kernel
theorem dX1_equation_10 : decode cX1_equation 10 = .ok (.invokestatic 52, 3) := by decide +kernel
theorem dX1_equation_13 : decode cX1_equation 13 = .ok (.ifCond .ne 5, 3) := by decide +kernel
theorem dX1_equation_16 : decode cX1_equation 16 = .ok (.iconst (-1), 1) := by decide +kernel
theorem dX1_equation_17 : decode cX1_equation 17 = .ok (.ireturn, 1) := by decide +kernel
theorem dX1_equation_18 : decode cX1_equation 18 = .ok (.aload_n 0, 1) := by decide +kernel
theorem dX1_equation_19 : decode cX1_equation 19 = .ok (.iconst 0, 1) := by decide +kernel
theorem dX1_equation_20 : decode cX1_equation 20 = .ok (.iload_n 1, 1) := by decide +kernel
theorem dX1_equation_21 : decode cX1_equation 21 = .ok (.invokevirtual 56, 3) := by decide +kernel
theorem dX1_equation_24 : decode cX1_equation 24 = .ok (.ifCond .eq 31, 3) := by decide +kernel
theorem dX1_equation_27 : decode cX1_equation 27 = .ok (.aload_n 0, 1) := by decide +kernel
theorem dX1_equation_28 : decode cX1_equation 28 = .ok (.iconst 1, 1) := by decide +kernel
theorem dX1_equation_29 : decode cX1_equation 29 = .ok (.iload_n 2, 1) := by decide +kernel
theorem dX1_equation_30 : decode cX1_equation 30 = .ok (.invokevirtual 56, 3) := by decide +kernel
theorem dX1_equation_33 : decode cX1_equation 33 = .ok (.ifCond .eq 22, 3) := by decide +kernel
theorem dX1_equation_36 : decode cX1_equation 36 = .ok (.aload_n 0, 1) := by decide +kernel
theorem dX1_equation_37 : decode cX1_equation 37 = .ok (.iconst 2, 1) := by decide +kernel
theorem dX1_equation_38 : decode cX1_equation 38 = .ok (.iload_n 3, 1) := by decide +kernel
theorem dX1_equation_39 : decode cX1_equation 39 = .ok (.invokevirtual 56, 3) := by decide +kernel
theorem dX1_equation_42 : decode cX1_equation 42 = .ok (.ifCond .eq 13, 3) := by decide +kernel
theorem dX1_equation_45 : decode cX1_equation 45 = .ok (.aload_n 0, 1) := by decide +kernel
theorem dX1_equation_46 : decode cX1_equation 46 = .ok (.iconst 3, 1) := by decide +kernel
theorem dX1_equation_47 : decode cX1_equation 47 = .ok (.iload 4, 2) := by decide +kernel
theorem dX1_equation_49 : decode cX1_equation 49 = .ok (.invokevirtual 56, 3) := by decide +kernel
theorem dX1_equation_52 : decode cX1_equation 52 = .ok (.ifCond .ne 5, 3) := by decide +kernel
theorem dX1_equation_55 : decode cX1_equation 55 = .ok (.iconst (-1), 1) := by decide +kernel
theorem dX1_equation_56 : decode cX1_equation 56 = .ok (.ireturn, 1) := by decide +kernel
theorem dX1_equation_57 : decode cX1_equation 57 = .ok (.aload_n 0, 1) := by decide +kernel
theorem dX1_equation_58 : decode cX1_equation 58 = .ok (.getfield 46, 3) := by decide +kernel
theorem dX1_equation_61 : decode cX1_equation 61 = .ok (.istore 6, 2) := by decide +kernel
theorem dX1_equation_63 : decode cX1_equation 63 = .ok (.aload_n 0, 1) := by decide +kernel
theorem dX1_equation_64 : decode cX1_equation 64 = .ok (.getfield 11, 3) := by decide +kernel
theorem dX1_equation_67 : decode cX1_equation 67 = .ok (.iload 6, 2) := by decide +kernel
theorem dX1_equation_69 : decode cX1_equation 69 = .ok (.aaload, 1) := by decide +kernel
theorem dX1_equation_70 : decode cX1_equation 70 = .ok (.iconst 0, 1) := by decide +kernel
theorem dX1_equation_71 : decode cX1_equation 71 = .ok (.iload_n 1, 1) := by decide +kernel
theorem dX1_equation_72 : decode cX1_equation 72 = .ok (.iastore, 1) := by decide +kernel
theorem dX1_equation_73 : decode cX1_equation 73 = .ok (.aload_n 0, 1) := by decide +kernel
theorem dX1_equation_74 : decode cX1_equation 74 = .ok (.getfield 11, 3) := by decide +kernel
theorem dX1_equation_77 : decode cX1_equation 77 = .ok (.iload 6, 2) := by decide +kernel
theorem dX1_equation_79 : decode cX1_equation 79 = .ok (.aaload, 1) := by decide +kernel
theorem dX1_equation_80 : decode cX1_equation 80 = .ok (.iconst 1, 1) := by decide +kernel
theorem dX1_equation_81 : decode cX1_equation 81 = .ok (.iload_n 2, 1) := by decide +kernel
theorem dX1_equation_82 : decode cX1_equation 82 = .ok (.iastore, 1) := by decide +kernel
theorem dX1_equation_83 : decode cX1_equation 83 = .ok (.aload_n 0, 1) := by decide +kernel
theorem dX1_equation_84 : decode cX1_equation 84 = .ok (.getfield 11, 3) := by decide +kernel
theorem dX1_equation_87 : decode cX1_equation 87 = .ok (.iload 6, 2) := by decide +kernel
theorem dX1_equation_89 : decode cX1_equation 89 = .ok (.aaload, 1) := by decide +kernel
theorem dX1_equation_90 : decode cX1_equation 90 = .ok (.iconst 2, 1) := by decide +kernel
theorem dX1_equation_91 : decode cX1_equation 91 = .ok (.iload_n 3, 1) := by decide +kernel
theorem dX1_equation_92 : decode cX1_equation 92 = .ok (.iastore, 1) := by decide +kernel
theorem dX1_equation_93 : decode cX1_equation 93 = .ok (.aload_n 0, 1) := by decide +kernel
theorem dX1_equation_94 : decode cX1_equation 94 = .ok (.getfield 11, 3) := by decide +kernel
theorem dX1_equation_97 : decode cX1_equation 97 = .ok (.iload 6, 2) := by decide +kernel
theorem dX1_equation_99 : decode cX1_equation 99 = .ok (.aaload, 1) := by decide +kernel
theorem dX1_equation_100 : decode cX1_equation 100 = .ok (.iconst 3, 1) := by decide +kernel
theorem dX1_equation_101 : decode cX1_equation 101 = .ok (.iload 4, 2) := by decide +kernel
theorem dX1_equation_103 : decode cX1_equation 103 = .ok (.iastore, 1) := by decide +kernel
theorem dX1_equation_104 : decode cX1_equation 104 = .ok (.aload_n 0, 1) := by decide +kernel
theorem dX1_equation_105 : decode cX1_equation 105 = .ok (.getfield 14, 3) := by decide +kernel
theorem dX1_equation_108 : decode cX1_equation 108 = .ok (.iload 6, 2) := by decide +kernel
theorem dX1_equation_110 : decode cX1_equation 110 = .ok (.iload 5, 2) := by decide +kernel
theorem dX1_equation_112 : decode cX1_equation 112 = .ok (.iastore, 1) := by decide +kernel
theorem dX1_equation_113 : decode cX1_equation 113 = .ok (.aload_n 0, 1) := by decide +kernel
theorem dX1_equation_114 : decode cX1_equation 114 = .ok (.iload 6, 2) := by decide +kernel
theorem dX1_equation_116 : decode cX1_equation 116 = .ok (.iconst 1, 1) := by decide +kernel
theorem dX1_equation_117 : decode cX1_equation 117 = .ok (.iadd, 1) := by decide +kernel
theorem dX1_equation_118 : decode cX1_equation 118 = .ok (.putfield 46, 3) := by decide +kernel
theorem dX1_equation_121 : decode cX1_equation 121 = .ok (.aload_n 0, 1) := by decide +kernel
theorem dX1_equation_122 : decode cX1_equation 122 = .ok (.invokevirtual 49, 3) := by decide +kernel
theorem dX1_equation_125 : decode cX1_equation 125 = .ok (.iload 6, 2) := by decide +kernel
theorem dX1_equation_127 : decode cX1_equation 127 = .ok (.ireturn, 1) := by decide +kernel
theorem dX1_sum_0 : decode cX1_sum 0 = .ok (.iload_n 1, 1) := by decide +kernel
theorem dX1_sum_1 : decode cX1_sum 1 = .ok (.ifCond .lt 18, 3) := by decide +kernel
theorem dX1_sum_4 : decode cX1_sum 4 = .ok (.iload_n 1, 1) := by decide +kernel
theorem dX1_sum_5 : decode cX1_sum 5 = .ok (.aload_n 0, 1) := by decide +kernel
theorem dX1_sum_6 : decode cX1_sum 6 = .ok (.getfield 46, 3) := by decide +kernel
theorem dX1_sum_9 : decode cX1_sum 9 = .ok (.if_icmp .ge 10, 3) := by decide +kernel
theorem dX1_sum_12 : decode cX1_sum 12 = .ok (.iload_n 2, 1) := by decide +kernel
theorem dX1_sum_13 : decode cX1_sum 13 = .ok (.invokestatic 52, 3) := by decide +kernel
theorem dX1_sum_16 : decode cX1_sum 16 = .ok (.ifCond .ne 5, 3) := by decide +kernel
theorem dX1_sum_19 : decode cX1_sum 19 = .ok (.iconst 0, 1) := by decide +kernel
theorem dX1_sum_20 : decode cX1_sum 20 = .ok (.ireturn, 1) := by decide +kernel
theorem dX1_sum_21 : decode cX1_sum 21 = .ok (.aload_n 0, 1) := by decide +kernel
theorem dX1_sum_22 : decode cX1_sum 22 = .ok (.getfield 14, 3) := by decide +kernel
theorem dX1_sum_25 : decode cX1_sum 25 = .ok (.iload_n 1, 1) := by decide +kernel
theorem dX1_sum_26 : decode cX1_sum 26 = .ok (.iload_n 2, 1) := by decide +kernel
theorem dX1_sum_27 : decode cX1_sum 27 = .ok (.iastore, 1) := by decide +kernel
theorem dX1_sum_28 : decode cX1_sum 28 = .ok (.aload_n 0, 1) := by decide +kernel
theorem dX1_sum_29 : decode cX1_sum 29 = .ok (.invokevirtual 60, 3) := by decide +kernel
theorem dX1_sum_32 : decode cX1_sum 32 = .ok (.iconst 1, 1) := by decide +kernel
theorem dX1_sum_33 : decode cX1_sum 33 = .ok (.ireturn, 1) := by decide +kernel
theorem dX1_drop_0 : decode cX1_drop 0 = .ok (.aload_n 0, 1) := by decide +kernel
theorem dX1_drop_1 : decode cX1_drop 1 = .ok (.getfield 46, 3) := by decide +kernel
theorem dX1_drop_4 : decode cX1_drop 4 = .ok (.ifCond .ne 5, 3) := by decide +kernel
theorem dX1_drop_7 : decode cX1_drop 7 = .ok (.iconst (-1), 1) := by decide +kernel
theorem dX1_drop_8 : decode cX1_drop 8 = .ok (.ireturn, 1) := by decide +kernel
theorem dX1_drop_9 : decode cX1_drop 9 = .ok (.aload_n 0, 1) := by decide +kernel
theorem dX1_drop_10 : decode cX1_drop 10 = .ok (.aload_n 0, 1) := by decide +kernel
theorem dX1_drop_11 : decode cX1_drop 11 = .ok (.getfield 46, 3) := by decide +kernel
theorem dX1_drop_14 : decode cX1_drop 14 = .ok (.iconst 1, 1) := by decide +kernel
theorem dX1_drop_15 : decode cX1_drop 15 = .ok (.isub, 1) := by decide +kernel
theorem dX1_drop_16 : decode cX1_drop 16 = .ok (.putfield 46, 3) := by decide +kernel
theorem dX1_drop_19 : decode cX1_drop 19 = .ok (.aload_n 0, 1) := by decide +kernel
theorem dX1_drop_20 : decode cX1_drop 20 = .ok (.invokevirtual 49, 3) := by decide +kernel
theorem dX1_drop_23 : decode cX1_drop 23 = .ok (.aload_n 0, 1) := by decide +kernel
theorem dX1_drop_24 : decode cX1_drop 24 = .ok (.getfield 46, 3) := by decide +kernel
theorem dX1_drop_27 : decode cX1_drop 27 = .ok (.ireturn, 1) := by decide +kernel
theorem dX1_solve_0 : decode cX1_solve 0 = .ok (.aload_n 0, 1) := by decide +kernel
theorem dX1_solve_1 : decode cX1_solve 1 = .ok (.getfield 63, 3) := by decide +kernel
theorem dX1_solve_4 : decode cX1_solve 4 = .ok (.iconst (-1), 1) := by decide +kernel
theorem dX1_solve_5 : decode cX1_solve 5 = .ok (.if_icmp .ne 10, 3) := by decide +kernel
theorem dX1_solve_8 : decode cX1_solve 8 = .ok (.aload_n 0, 1) := by decide +kernel
theorem dX1_solve_9 : decode cX1_solve 9 = .ok (.invokevirtual 66, 3) := by decide +kernel
theorem dX1_solve_12 : decode cX1_solve 12 = .ok (.goto 4, 3) := by decide +kernel
theorem dX1_solve_15 : decode cX1_solve 15 = .ok (.iconst (-1), 1) := by decide +kernel
theorem dX1_solve_16 : decode cX1_solve 16 = .ok (.ireturn, 1) := by decide +kernel
theorem dX1_fails_0 : decode cX1_fails 0 = .ok (.aload_n 0, 1) := by decide +kernel
theorem dX1_fails_1 : decode cX1_fails 1 = .ok (.getfield 63, 3) := by decide +kernel
theorem dX1_fails_4 : decode cX1_fails 4 = .ok (.ireturn, 1) := by decide +kernel
theorem dX1_solution_0 : decode cX1_solution 0 = .ok (.aload_n 0, 1) := by decide +kernel
theorem dX1_solution_1 : decode cX1_solution 1 = .ok (.getfield 63, 3) := by decide +kernel
theorem dX1_solution_4 : decode cX1_solution 4 = .ok (.iconst (-1), 1) := by decide +kernel
theorem dX1_solution_5 : decode cX1_solution 5 = .ok (.if_icmp .ne 15, 3) := by decide +kernel
theorem dX1_solution_8 : decode cX1_solution 8 = .ok (.iload_n 1, 1) := by decide +kernel
theorem dX1_solution_9 : decode cX1_solution 9 = .ok (.ifCond .lt 11, 3) := by decide +kernel
theorem dX1_solution_12 : decode cX1_solution 12 = .ok (.iload_n 1, 1) := by decide +kernel
theorem dX1_solution_13 : decode cX1_solution 13 = .ok (.aload_n 0, 1) := by decide +kernel
theorem dX1_solution_14 : decode cX1_solution 14 = .ok (.getfield 42, 3) := by decide +kernel
theorem dX1_solution_17 : decode cX1_solution 17 = .ok (.if_icmp .lt 7, 3) := by decide +kernel
theorem dX1_solution_20 : decode cX1_solution 20 = .ok (.ldc2_w 70, 3) := by decide +kernel
theorem dX1_solution_23 : decode cX1_solution 23 = .ok (.lreturn, 1) := by decide +kernel
theorem dX1_solution_24 : decode cX1_solution 24 = .ok (.aload_n 0, 1) := by decide +kernel
theorem dX1_solution_25 : decode cX1_solution 25 = .ok (.getfield 30, 3) := by decide +kernel
theorem dX1_solution_28 : decode cX1_solution 28 = .ok (.aload_n 0, 1) := by decide +kernel
theorem dX1_solution_29 : decode cX1_solution 29 = .ok (.getfield 46, 3) := by decide +kernel
theorem dX1_solution_32 : decode cX1_solution 32 = .ok (.iload_n 1, 1) := by decide +kernel
theorem dX1_solution_33 : decode cX1_solution 33 = .ok (.iadd, 1) := by decide +kernel
theorem dX1_solution_34 : decode cX1_solution 34 = .ok (.laload, 1) := by decide +kernel
theorem dX1_solution_35 : decode cX1_solution 35 = .ok (.lreturn, 1) := by decide +kernel
theorem dX1_basis_0 : decode cX1_basis 0 = .ok (.iload_n 1, 1) := by decide +kernel
theorem dX1_basis_1 : decode cX1_basis 1 = .ok (.ifCond .lt 23, 3) := by decide +kernel
theorem dX1_basis_4 : decode cX1_basis 4 = .ok (.iload_n 1, 1) := by decide +kernel
theorem dX1_basis_5 : decode cX1_basis 5 = .ok (.aload_n 0, 1) := by decide +kernel
theorem dX1_basis_6 : decode cX1_basis 6 = .ok (.invokevirtual 66, 3) := by decide +kernel
theorem dX1_basis_9 : decode cX1_basis 9 = .ok (.if_icmp .ge 15, 3) := by decide +kernel
theorem dX1_basis_12 : decode cX1_basis 12 = .ok (.iload_n 2, 1) := by decide +kernel
theorem dX1_basis_13 : decode cX1_basis 13 = .ok (.ifCond .lt 11, 3) := by decide +kernel
theorem dX1_basis_16 : decode cX1_basis 16 = .ok (.iload_n 2, 1) := by decide +kernel
theorem dX1_basis_17 : decode cX1_basis 17 = .ok (.aload_n 0, 1) := by decide +kernel
theorem dX1_basis_18 : decode cX1_basis 18 = .ok (.getfield 42, 3) := by decide +kernel
theorem dX1_basis_21 : decode cX1_basis 21 = .ok (.if_icmp .lt 7, 3) := by decide +kernel
theorem dX1_basis_24 : decode cX1_basis 24 = .ok (.ldc2_w 70, 3) := by decide +kernel
theorem dX1_basis_27 : decode cX1_basis 27 = .ok (.lreturn, 1) := by decide +kernel
theorem dX1_basis_28 : decode cX1_basis 28 = .ok (.aload_n 0, 1) := by decide +kernel
theorem dX1_basis_29 : decode cX1_basis 29 = .ok (.iload_n 1, 1) := by decide +kernel
theorem dX1_basis_30 : decode cX1_basis 30 = .ok (.iload_n 2, 1) := by decide +kernel
theorem dX1_basis_31 : decode cX1_basis 31 = .ok (.invokevirtual 72, 3) := by decide +kernel
theorem dX1_basis_34 : decode cX1_basis 34 = .ok (.lreturn, 1) := by decide +kernel
theorem dX1_count_0 : decode cX1_count 0 = .ok (.iload_n 1, 1) := by decide +kernel
theorem dX1_count_1 : decode cX1_count 1 = .ok (.tableswitch 51 0 3 #[31, 36, 41, 46], 31) := by decide +kernel
theorem dX1_count_32 : decode cX1_count 32 = .ok (.aload_n 0, 1) := by decide +kernel
theorem dX1_count_33 : decode cX1_count 33 = .ok (.getfield 76, 3) := by decide +kernel
theorem dX1_count_36 : decode cX1_count 36 = .ok (.ireturn, 1) := by decide +kernel
theorem dX1_count_37 : decode cX1_count 37 = .ok (.aload_n 0, 1) := by decide +kernel
theorem dX1_count_38 : decode cX1_count 38 = .ok (.invokevirtual 66, 3) := by decide +kernel
theorem dX1_count_41 : decode cX1_count 41 = .ok (.ireturn, 1) := by decide +kernel
theorem dX1_count_42 : decode cX1_count 42 = .ok (.aload_n 0, 1) := by decide +kernel
theorem dX1_count_43 : decode cX1_count 43 = .ok (.getfield 46, 3) := by decide +kernel
theorem dX1_count_46 : decode cX1_count 46 = .ok (.ireturn, 1) := by decide +kernel
theorem dX1_count_47 : decode cX1_count 47 = .ok (.aload_n 0, 1) := by decide +kernel
theorem dX1_count_48 : decode cX1_count 48 = .ok (.getfield 42, 3) := by decide +kernel
theorem dX1_count_51 : decode cX1_count 51 = .ok (.ireturn, 1) := by decide +kernel
theorem dX1_count_52 : decode cX1_count 52 = .ok (.iconst (-1), 1) := by decide +kernel
theorem dX1_count_53 : decode cX1_count 53 = .ok (.ireturn, 1) := by decide +kernel
theorem dX1_reach_0 : decode cX1_reach 0 = .ok (.iload_n 1, 1) := by decide +kernel
theorem dX1_reach_1 : decode cX1_reach 1 = .ok (.ifCond .lt 23, 3) := by decide +kernel
theorem dX1_reach_4 : decode cX1_reach 4 = .ok (.iload_n 1, 1) := by decide +kernel
theorem dX1_reach_5 : decode cX1_reach 5 = .ok (.aload_n 0, 1) := by decide +kernel
theorem dX1_reach_6 : decode cX1_reach 6 = .ok (.getfield 76, 3) := by decide +kernel
theorem dX1_reach_9 : decode cX1_reach 9 = .ok (.if_icmp .ge 15, 3) := by decide +kernel
theorem dX1_reach_12 : decode cX1_reach 12 = .ok (.iload_n 2, 1) := by decide +kernel
theorem dX1_reach_13 : decode cX1_reach 13 = .ok (.ifCond .lt 11, 3) := by decide +kernel
theorem dX1_reach_16 : decode cX1_reach 16 = .ok (.iload_n 2, 1) := by decide +kernel
theorem dX1_reach_17 : decode cX1_reach 17 = .ok (.aload_n 0, 1) := by decide +kernel
theorem dX1_reach_18 : decode cX1_reach 18 = .ok (.getfield 46, 3) := by decide +kernel
theorem dX1_reach_21 : decode cX1_reach 21 = .ok (.if_icmp .lt 7, 3) := by decide +kernel
theorem dX1_reach_24 : decode cX1_reach 24 = .ok (.ldc2_w 70, 3) := by decide +kernel
theorem dX1_reach_27 : decode cX1_reach 27 = .ok (.lreturn, 1) := by decide +kernel
theorem dX1_reach_28 : decode cX1_reach 28 = .ok (.aload_n 0, 1) := by decide +kernel
theorem dX1_reach_29 : decode cX1_reach 29 = .ok (.getfield 23, 3) := by decide +kernel
theorem dX1_reach_32 : decode cX1_reach 32 = .ok (.iload_n 1, 1) := by decide +kernel
theorem dX1_reach_33 : decode cX1_reach 33 = .ok (.iload_n 2, 1) := by decide +kernel
theorem dX1_reach_34 : decode cX1_reach 34 = .ok (.invokevirtual 79, 3) := by decide +kernel
theorem dX1_reach_37 : decode cX1_reach 37 = .ok (.lreturn, 1) := by decide +kernel
theorem dX1_reached_0 : decode cX1_reached 0 = .ok (.aload_n 0, 1) := by decide +kernel
theorem dX1_reached_1 : decode cX1_reached 1 = .ok (.getfield 34, 3) := by decide +kernel
theorem dX1_reached_4 : decode cX1_reached 4 = .ok (.invokestatic 82, 3) := by decide +kernel
theorem dX1_reached_7 : decode cX1_reached 7 = .ok (.aload_n 0, 1) := by decide +kernel
theorem dX1_reached_8 : decode cX1_reached 8 = .ok (.getfield 34, 3) := by decide +kernel
theorem dX1_reached_11 : decode cX1_reached 11 = .ok (.iconst 0, 1) := by decide +kernel
theorem dX1_reached_12 : decode cX1_reached 12 = .ok (.iload_n 1, 1) := by decide +kernel
theorem dX1_reached_13 : decode cX1_reached 13 = .ok (.i2l, 1) := by decide +kernel
theorem dX1_reached_14 : decode cX1_reached 14 = .ok (.lastore, 1) := by decide +kernel
theorem dX1_reached_15 : decode cX1_reached 15 = .ok (.aload_n 0, 1) := by decide +kernel
theorem dX1_reached_16 : decode cX1_reached 16 = .ok (.getfield 34, 3) := by decide +kernel
theorem dX1_reached_19 : decode cX1_reached 19 = .ok (.iconst 1, 1) := by decide +kernel
theorem dX1_reached_20 : decode cX1_reached 20 = .ok (.iload_n 2, 1) := by decide +kernel
theorem dX1_reached_21 : decode cX1_reached 21 = .ok (.i2l, 1) := by decide +kernel
theorem dX1_reached_22 : decode cX1_reached 22 = .ok (.lastore, 1) := by decide +kernel
theorem dX1_reached_23 : decode cX1_reached 23 = .ok (.aload_n 0, 1) := by decide +kernel
theorem dX1_reached_24 : decode cX1_reached 24 = .ok (.getfield 34, 3) := by decide +kernel
theorem dX1_reached_27 : decode cX1_reached 27 = .ok (.iconst 2, 1) := by decide +kernel
theorem dX1_reached_28 : decode cX1_reached 28 = .ok (.iload_n 3, 1) := by decide +kernel
theorem dX1_reached_29 : decode cX1_reached 29 = .ok (.i2l, 1) := by decide +kernel
theorem dX1_reached_30 : decode cX1_reached 30 = .ok (.lastore, 1) := by decide +kernel
theorem dX1_reached_31 : decode cX1_reached 31 = .ok (.aload_n 0, 1) := by decide +kernel
theorem dX1_reached_32 : decode cX1_reached 32 = .ok (.getfield 23, 3) := by decide +kernel
theorem dX1_reached_35 : decode cX1_reached 35 = .ok (.aload_n 0, 1) := by decide +kernel
theorem dX1_reached_36 : decode cX1_reached 36 = .ok (.getfield 34, 3) := by decide +kernel
theorem dX1_reached_39 : decode cX1_reached 39 = .ok (.invokevirtual 86, 3) := by decide +kernel
theorem dX1_reached_42 : decode cX1_reached 42 = .ok (.aload_n 0, 1) := by decide +kernel
theorem dX1_reached_43 : decode cX1_reached 43 = .ok (.aload_n 0, 1) := by decide +kernel
theorem dX1_reached_44 : decode cX1_reached 44 = .ok (.getfield 34, 3) := by decide +kernel
theorem dX1_reached_47 : decode cX1_reached 47 = .ok (.invokevirtual 89, 3) := by decide +kernel
theorem dX1_reached_50 : decode cX1_reached 50 = .ok (.iconst (-1), 1) := by decide +kernel
theorem dX1_reached_51 : decode cX1_reached 51 = .ok (.if_icmp .ne 7, 3) := by decide +kernel
theorem dX1_reached_54 : decode cX1_reached 54 = .ok (.iconst 1, 1) := by decide +kernel
theorem dX1_reached_55 : decode cX1_reached 55 = .ok (.goto 4, 3) := by decide +kernel
theorem dX1_reached_58 : decode cX1_reached 58 = .ok (.iconst 0, 1) := by decide +kernel
theorem dX1_reached_59 : decode cX1_reached 59 = .ok (.ireturn, 1) := by decide +kernel
theorem dX1_invariant_0 : decode cX1_invariant 0 = .ok (.iload_n 1, 1) := by decide +kernel
theorem dX1_invariant_1 : decode cX1_invariant 1 = .ok (.iconst 1, 1) := by decide +kernel
theorem dX1_invariant_2 : decode cX1_invariant 2 = .ok (.if_icmp .lt 19, 3) := by decide +kernel
theorem dX1_invariant_5 : decode cX1_invariant 5 = .ok (.iload_n 1, 1) := by decide +kernel
theorem dX1_invariant_6 : decode cX1_invariant 6 = .ok (.aload_n 0, 1) := by decide +kernel
theorem dX1_invariant_7 : decode cX1_invariant 7 = .ok (.getfield 46, 3) := by decide +kernel
theorem dX1_invariant_10 : decode cX1_invariant 10 = .ok (.if_icmp .gt 11, 3) := by decide +kernel
theorem dX1_invariant_13 : decode cX1_invariant 13 = .ok (.iload_n 1, 1) := by decide +kernel
theorem dX1_invariant_14 : decode cX1_invariant 14 = .ok (.aload_n 0, 1) := by decide +kernel
theorem dX1_invariant_15 : decode cX1_invariant 15 = .ok (.getfield 42, 3) := by decide +kernel
theorem dX1_invariant_18 : decode cX1_invariant 18 = .ok (.if_icmp .le 7, 3) := by decide +kernel
theorem dX1_invariant_21 : decode cX1_invariant 21 = .ok (.ldc2_w 70, 3) := by decide +kernel
theorem dX1_invariant_24 : decode cX1_invariant 24 = .ok (.lreturn, 1) := by decide +kernel
theorem dX1_invariant_25 : decode cX1_invariant 25 = .ok (.aload_n 0, 1) := by decide +kernel
theorem dX1_invariant_26 : decode cX1_invariant 26 = .ok (.iload_n 1, 1) := by decide +kernel
theorem dX1_invariant_27 : decode cX1_invariant 27 = .ok (.invokevirtual 93, 3) := by decide +kernel
theorem dX1_invariant_30 : decode cX1_invariant 30 = .ok (.lstore_n 2, 1) := by decide +kernel
theorem dX1_invariant_31 : decode cX1_invariant 31 = .ok (.aload_n 0, 1) := by decide +kernel
theorem dX1_invariant_32 : decode cX1_invariant 32 = .ok (.iload_n 1, 1) := by decide +kernel
theorem dX1_invariant_33 : decode cX1_invariant 33 = .ok (.iconst 1, 1) := by decide +kernel
theorem dX1_invariant_34 : decode cX1_invariant 34 = .ok (.isub, 1) := by decide +kernel
theorem dX1_invariant_35 : decode cX1_invariant 35 = .ok (.invokevirtual 93, 3) := by decide +kernel
theorem dX1_invariant_38 : decode cX1_invariant 38 = .ok (.lstore 4, 2) := by decide +kernel
theorem dX1_invariant_40 : decode cX1_invariant 40 = .ok (.lload 4, 2) := by decide +kernel
theorem dX1_invariant_42 : decode cX1_invariant 42 = .ok (.lconst 0, 1) := by decide +kernel
theorem dX1_invariant_43 : decode cX1_invariant 43 = .ok (.lcmp, 1) := by decide +kernel
theorem dX1_invariant_44 : decode cX1_invariant 44 = .ok (.ifCond .ne 7, 3) := by decide +kernel
theorem dX1_invariant_47 : decode cX1_invariant 47 = .ok (.lconst 0, 1) := by decide +kernel
theorem dX1_invariant_48 : decode cX1_invariant 48 = .ok (.goto 7, 3) := by decide +kernel
theorem dX1_invariant_51 : decode cX1_invariant 51 = .ok (.lload_n 2, 1) := by decide +kernel
theorem dX1_invariant_52 : decode cX1_invariant 52 = .ok (.lload 4, 2) := by decide +kernel
theorem dX1_invariant_54 : decode cX1_invariant 54 = .ok (.ldiv, 1) := by decide +kernel
theorem dX1_invariant_55 : decode cX1_invariant 55 = .ok (.lreturn, 1) := by decide +kernel
theorem dX1_box_0 : decode cX1_box 0 = .ok (.iload_n 1, 1) := by decide +kernel
theorem dX1_box_1 : decode cX1_box 1 = .ok (.bipush (-12), 2) := by decide +kernel
theorem dX1_box_3 : decode cX1_box 3 = .ok (.if_icmp .lt 14, 3) := by decide +kernel
theorem dX1_box_6 : decode cX1_box 6 = .ok (.iload_n 2, 1) := by decide +kernel
theorem dX1_box_7 : decode cX1_box 7 = .ok (.bipush 12, 2) := by decide +kernel
theorem dX1_box_9 : decode cX1_box 9 = .ok (.if_icmp .gt 8, 3) := by decide +kernel
theorem dX1_box_12 : decode cX1_box 12 = .ok (.iload_n 2, 1) := by decide +kernel
theorem dX1_box_13 : decode cX1_box 13 = .ok (.iload_n 1, 1) := by decide +kernel
theorem dX1_box_14 : decode cX1_box 14 = .ok (.if_icmp .ge 5, 3) := by decide +kernel
theorem dX1_box_17 : decode cX1_box 17 = .ok (.iconst (-1), 1) := by decide +kernel
theorem dX1_box_18 : decode cX1_box 18 = .ok (.ireturn, 1) := by decide +kernel
theorem dX1_box_19 : decode cX1_box 19 = .ok (.aload_n 0, 1) := by decide +kernel
theorem dX1_box_20 : decode cX1_box 20 = .ok (.getfield 63, 3) := by decide +kernel
theorem dX1_box_23 : decode cX1_box 23 = .ok (.iconst (-1), 1) := by decide +kernel
theorem dX1_box_24 : decode cX1_box 24 = .ok (.if_icmp .eq 5, 3) := by decide +kernel
theorem dX1_box_27 : decode cX1_box 27 = .ok (.iconst 0, 1) := by decide +kernel
theorem dX1_box_28 : decode cX1_box 28 = .ok (.ireturn, 1) := by decide +kernel
theorem dX1_box_29 : decode cX1_box 29 = .ok (.iconst 0, 1) := by decide +kernel
theorem dX1_box_30 : decode cX1_box 30 = .ok (.istore_n 3, 1) := by decide +kernel
theorem dX1_box_31 : decode cX1_box 31 = .ok (.iload_n 3, 1) := by decide +kernel
theorem dX1_box_32 : decode cX1_box 32 = .ok (.aload_n 0, 1) := by decide +kernel
theorem dX1_box_33 : decode cX1_box 33 = .ok (.getfield 42, 3) := by decide +kernel
theorem dX1_box_36 : decode cX1_box 36 = .ok (.if_icmp .ge 28, 3) := by decide +kernel
theorem dX1_box_39 : decode cX1_box 39 = .ok (.aload_n 0, 1) := by decide +kernel
theorem dX1_box_40 : decode cX1_box 40 = .ok (.getfield 39, 3) := by decide +kernel
theorem dX1_box_43 : decode cX1_box 43 = .ok (.iconst 0, 1) := by decide +kernel
theorem dX1_box_44 : decode cX1_box 44 = .ok (.aaload, 1) := by decide +kernel
theorem dX1_box_45 : decode cX1_box 45 = .ok (.iload_n 3, 1) := by decide +kernel
theorem dX1_box_46 : decode cX1_box 46 = .ok (.aload_n 0, 1) := by decide +kernel
theorem dX1_box_47 : decode cX1_box 47 = .ok (.getfield 30, 3) := by decide +kernel
theorem dX1_box_50 : decode cX1_box 50 = .ok (.aload_n 0, 1) := by decide +kernel
theorem dX1_box_51 : decode cX1_box 51 = .ok (.getfield 46, 3) := by decide +kernel
theorem dX1_box_54 : decode cX1_box 54 = .ok (.iload_n 3, 1) := by decide +kernel
theorem dX1_box_55 : decode cX1_box 55 = .ok (.iadd, 1) := by decide +kernel
theorem dX1_box_56 : decode cX1_box 56 = .ok (.laload, 1) := by decide +kernel
theorem dX1_box_57 : decode cX1_box 57 = .ok (.lastore, 1) := by decide +kernel
theorem dX1_box_58 : decode cX1_box 58 = .ok (.iinc 3 1, 3) := by decide +kernel
theorem dX1_box_61 : decode cX1_box 61 = .ok (.goto (-30), 3) := by decide +kernel
theorem dX1_box_64 : decode cX1_box 64 = .ok (.aload_n 0, 1) := by decide +kernel
theorem dX1_box_65 : decode cX1_box 65 = .ok (.iload_n 1, 1) := by decide +kernel
theorem dX1_box_66 : decode cX1_box 66 = .ok (.iload_n 2, 1) := by decide +kernel
theorem dX1_box_67 : decode cX1_box 67 = .ok (.invokevirtual 97, 3) := by decide +kernel
theorem dX1_box_70 : decode cX1_box 70 = .ok (.ifCond .eq 14, 3) := by decide +kernel
theorem dX1_box_73 : decode cX1_box 73 = .ok (.aload_n 0, 1) := by decide +kernel
theorem dX1_box_74 : decode cX1_box 74 = .ok (.iconst 0, 1) := by decide +kernel
theorem dX1_box_75 : decode cX1_box 75 = .ok (.iload_n 1, 1) := by decide +kernel
theorem dX1_box_76 : decode cX1_box 76 = .ok (.iload_n 2, 1) := by decide +kernel
theorem dX1_box_77 : decode cX1_box 77 = .ok (.invokevirtual 100, 3) := by decide +kernel
theorem dX1_box_80 : decode cX1_box 80 = .ok (.l2i, 1) := by decide +kernel
theorem dX1_box_81 : decode cX1_box 81 = .ok (.goto 4, 3) := by decide +kernel
theorem dX1_box_84 : decode cX1_box 84 = .ok (.iconst 0, 1) := by decide +kernel
theorem dX1_box_85 : decode cX1_box 85 = .ok (.ireturn, 1) := by decide +kernel
theorem dX1_modulo_0 : decode cX1_modulo 0 = .ok (.iload_n 1, 1) := by decide +kernel
theorem dX1_modulo_1 : decode cX1_modulo 1 = .ok (.iconst 1, 1) := by decide +kernel
theorem dX1_modulo_2 : decode cX1_modulo 2 = .ok (.if_icmp .lt 9, 3) := by decide +kernel
theorem dX1_modulo_5 : decode cX1_modulo 5 = .ok (.iload_n 1, 1) := by decide +kernel
theorem dX1_modulo_6 : decode cX1_modulo 6 = .ok (.bipush 40, 2) := by decide +kernel
theorem dX1_modulo_8 : decode cX1_modulo 8 = .ok (.if_icmp .le 5, 3) := by decide +kernel
theorem dX1_modulo_11 : decode cX1_modulo 11 = .ok (.iconst (-1), 1) := by decide +kernel
theorem dX1_modulo_12 : decode cX1_modulo 12 = .ok (.ireturn, 1) := by decide +kernel
theorem dX1_modulo_13 : decode cX1_modulo 13 = .ok (.aload_n 0, 1) := by decide +kernel
theorem dX1_modulo_14 : decode cX1_modulo 14 = .ok (.iload_n 1, 1) := by decide +kernel
theorem dX1_modulo_15 : decode cX1_modulo 15 = .ok (.invokevirtual 104, 3) := by decide +kernel
theorem dX1_modulo_18 : decode cX1_modulo 18 = .ok (.aload_n 0, 1) := by decide +kernel
theorem dX1_modulo_19 : decode cX1_modulo 19 = .ok (.getfield 34, 3) := by decide +kernel
theorem dX1_modulo_22 : decode cX1_modulo 22 = .ok (.invokestatic 82, 3) := by decide +kernel
theorem dX1_modulo_25 : decode cX1_modulo 25 = .ok (.iconst 0, 1) := by decide +kernel
theorem dX1_modulo_26 : decode cX1_modulo 26 = .ok (.istore_n 2, 1) := by decide +kernel
theorem dX1_modulo_27 : decode cX1_modulo 27 = .ok (.iload_n 2, 1) := by decide +kernel
theorem dX1_modulo_28 : decode cX1_modulo 28 = .ok (.aload_n 0, 1) := by decide +kernel
theorem dX1_modulo_29 : decode cX1_modulo 29 = .ok (.getfield 46, 3) := by decide +kernel
theorem dX1_modulo_32 : decode cX1_modulo 32 = .ok (.if_icmp .ge 22, 3) := by decide +kernel
theorem dX1_modulo_35 : decode cX1_modulo 35 = .ok (.aload_n 0, 1) := by decide +kernel
theorem dX1_modulo_36 : decode cX1_modulo 36 = .ok (.getfield 34, 3) := by decide +kernel
theorem dX1_modulo_39 : decode cX1_modulo 39 = .ok (.iload_n 2, 1) := by decide +kernel
theorem dX1_modulo_40 : decode cX1_modulo 40 = .ok (.aload_n 0, 1) := by decide +kernel
theorem dX1_modulo_41 : decode cX1_modulo 41 = .ok (.getfield 14, 3) := by decide +kernel
theorem dX1_modulo_44 : decode cX1_modulo 44 = .ok (.iload_n 2, 1) := by decide +kernel
theorem dX1_modulo_45 : decode cX1_modulo 45 = .ok (.iaload, 1) := by decide +kernel
theorem dX1_modulo_46 : decode cX1_modulo 46 = .ok (.i2l, 1) := by decide +kernel
theorem dX1_modulo_47 : decode cX1_modulo 47 = .ok (.lastore, 1) := by decide +kernel
theorem dX1_modulo_48 : decode cX1_modulo 48 = .ok (.iinc 2 1, 3) := by decide +kernel
theorem dX1_modulo_51 : decode cX1_modulo 51 = .ok (.goto (-24), 3) := by decide +kernel
theorem dX1_modulo_54 : decode cX1_modulo 54 = .ok (.aload_n 0, 1) := by decide +kernel
theorem dX1_modulo_55 : decode cX1_modulo 55 = .ok (.getfield 27, 3) := by decide +kernel
theorem dX1_modulo_58 : decode cX1_modulo 58 = .ok (.aload_n 0, 1) := by decide +kernel
theorem dX1_modulo_59 : decode cX1_modulo 59 = .ok (.getfield 34, 3) := by decide +kernel
theorem dX1_modulo_62 : decode cX1_modulo 62 = .ok (.invokevirtual 86, 3) := by decide +kernel
theorem dX1_modulo_65 : decode cX1_modulo 65 = .ok (.aload_n 0, 1) := by decide +kernel
theorem dX1_modulo_66 : decode cX1_modulo 66 = .ok (.aload_n 0, 1) := by decide +kernel
theorem dX1_modulo_67 : decode cX1_modulo 67 = .ok (.getfield 34, 3) := by decide +kernel
theorem dX1_modulo_70 : decode cX1_modulo 70 = .ok (.invokevirtual 89, 3) := by decide +kernel
theorem dX1_modulo_73 : decode cX1_modulo 73 = .ok (.iconst (-1), 1) := by decide +kernel
theorem dX1_modulo_74 : decode cX1_modulo 74 = .ok (.if_icmp .ne 12, 3) := by decide +kernel
theorem dX1_modulo_77 : decode cX1_modulo 77 = .ok (.aload_n 0, 1) := by decide +kernel
theorem dX1_modulo_78 : decode cX1_modulo 78 = .ok (.iload_n 1, 1) := by decide +kernel
theorem dX1_modulo_79 : decode cX1_modulo 79 = .ok (.invokevirtual 108, 3) := by decide +kernel
theorem dX1_modulo_82 : decode cX1_modulo 82 = .ok (.l2i, 1) := by decide +kernel
theorem dX1_modulo_83 : decode cX1_modulo 83 = .ok (.goto 4, 3) := by decide +kernel
theorem dX1_modulo_86 : decode cX1_modulo 86 = .ok (.iconst 0, 1) := by decide +kernel
theorem dX1_modulo_87 : decode cX1_modulo 87 = .ok (.ireturn, 1) := by decide +kernel
theorem dX1_spread_0 : decode cX1_spread 0 = .ok (.aload_n 0, 1) := by decide +kernel
theorem dX1_spread_1 : decode cX1_spread 1 = .ok (.getfield 63, 3) := by decide +kernel
theorem dX1_spread_4 : decode cX1_spread 4 = .ok (.iconst (-1), 1) := by decide +kernel
theorem dX1_spread_5 : decode cX1_spread 5 = .ok (.if_icmp .eq 7, 3) := by decide +kernel
theorem dX1_spread_8 : decode cX1_spread 8 = .ok (.ldc2_w 111, 3) := by decide +kernel
theorem dX1_spread_11 : decode cX1_spread 11 = .ok (.lreturn, 1) := by decide +kernel
theorem dX1_spread_12 : decode cX1_spread 12 = .ok (.lconst 0, 1) := by decide +kernel
theorem dX1_spread_13 : decode cX1_spread 13 = .ok (.lstore_n 1, 1) := by decide +kernel
theorem dX1_spread_14 : decode cX1_spread 14 = .ok (.iconst 0, 1) := by decide +kernel
theorem dX1_spread_15 : decode cX1_spread 15 = .ok (.istore_n 3, 1) := by decide +kernel
theorem dX1_spread_16 : decode cX1_spread 16 = .ok (.iload_n 3, 1) := by decide +kernel
theorem dX1_spread_17 : decode cX1_spread 17 = .ok (.aload_n 0, 1) := by decide +kernel
theorem dX1_spread_18 : decode cX1_spread 18 = .ok (.invokevirtual 66, 3) := by decide +kernel
theorem dX1_spread_21 : decode cX1_spread 21 = .ok (.if_icmp .ge 39, 3) := by decide +kernel
theorem dX1_spread_24 : decode cX1_spread 24 = .ok (.iconst 0, 1) := by decide +kernel
theorem dX1_spread_25 : decode cX1_spread 25 = .ok (.istore 4, 2) := by decide +kernel
theorem dX1_spread_27 : decode cX1_spread 27 = .ok (.iload 4, 2) := by decide +kernel
theorem dX1_spread_29 : decode cX1_spread 29 = .ok (.aload_n 0, 1) := by decide +kernel
theorem dX1_spread_30 : decode cX1_spread 30 = .ok (.getfield 42, 3) := by decide +kernel
theorem dX1_spread_33 : decode cX1_spread 33 = .ok (.if_icmp .ge 21, 3) := by decide +kernel
theorem dX1_spread_36 : decode cX1_spread 36 = .ok (.lload_n 1, 1) := by decide +kernel
theorem dX1_spread_37 : decode cX1_spread 37 = .ok (.aload_n 0, 1) := by decide +kernel
theorem dX1_spread_38 : decode cX1_spread 38 = .ok (.iload_n 3, 1) := by decide +kernel
theorem dX1_spread_39 : decode cX1_spread 39 = .ok (.iload 4, 2) := by decide +kernel
theorem dX1_spread_41 : decode cX1_spread 41 = .ok (.invokevirtual 72, 3) := by decide +kernel
theorem dX1_spread_44 : decode cX1_spread 44 = .ok (.invokestatic 113, 3) := by decide +kernel
theorem dX1_spread_47 : decode cX1_spread 47 = .ok (.lstore_n 1, 1) := by decide +kernel
theorem dX1_spread_48 : decode cX1_spread 48 = .ok (.iinc 4 1, 3) := by decide +kernel
theorem dX1_spread_51 : decode cX1_spread 51 = .ok (.goto (-24), 3) := by decide +kernel
theorem dX1_spread_54 : decode cX1_spread 54 = .ok (.iinc 3 1, 3) := by decide +kernel
theorem dX1_spread_57 : decode cX1_spread 57 = .ok (.goto (-41), 3) := by decide +kernel
theorem dX1_spread_60 : decode cX1_spread 60 = .ok (.lload_n 1, 1) := by decide +kernel
theorem dX1_spread_61 : decode cX1_spread 61 = .ok (.lreturn, 1) := by decide +kernel
theorem dX1_check_0 : decode cX1_check 0 = .ok (.aload_n 0, 1) := by decide +kernel
theorem dX1_check_1 : decode cX1_check 1 = .ok (.getfield 63, 3) := by decide +kernel
theorem dX1_check_4 : decode cX1_check 4 = .ok (.iconst (-1), 1) := by decide +kernel
theorem dX1_check_5 : decode cX1_check 5 = .ok (.if_icmp .ne 10, 3) := by decide +kernel
theorem dX1_check_8 : decode cX1_check 8 = .ok (.aload_n 0, 1) := by decide +kernel
theorem dX1_check_9 : decode cX1_check 9 = .ok (.invokevirtual 117, 3) := by decide +kernel
theorem dX1_check_12 : decode cX1_check 12 = .ok (.ifCond .eq 7, 3) := by decide +kernel
theorem dX1_check_15 : decode cX1_check 15 = .ok (.iconst 1, 1) := by decide +kernel
theorem dX1_check_16 : decode cX1_check 16 = .ok (.goto 4, 3) := by decide +kernel
theorem dX1_check_19 : decode cX1_check 19 = .ok (.iconst 0, 1) := by decide +kernel
theorem dX1_check_20 : decode cX1_check 20 = .ok (.istore_n 1, 1) := by decide +kernel
theorem dX1_check_21 : decode cX1_check 21 = .ok (.iconst 0, 1) := by decide +kernel
theorem dX1_check_22 : decode cX1_check 22 = .ok (.istore_n 2, 1) := by decide +kernel
theorem dX1_check_23 : decode cX1_check 23 = .ok (.iload_n 2, 1) := by decide +kernel
theorem dX1_check_24 : decode cX1_check 24 = .ok (.aload_n 0, 1) := by decide +kernel
theorem dX1_check_25 : decode cX1_check 25 = .ok (.getfield 42, 3) := by decide +kernel
theorem dX1_check_28 : decode cX1_check 28 = .ok (.if_icmp .ge 27, 3) := by decide +kernel
theorem dX1_check_31 : decode cX1_check 31 = .ok (.iload_n 1, 1) := by decide +kernel
theorem dX1_check_32 : decode cX1_check 32 = .ok (.ifCond .eq 15, 3) := by decide +kernel
theorem dX1_check_35 : decode cX1_check 35 = .ok (.aload_n 0, 1) := by decide +kernel
theorem dX1_check_36 : decode cX1_check 36 = .ok (.iload_n 2, 1) := by decide +kernel
theorem dX1_check_37 : decode cX1_check 37 = .ok (.invokevirtual 121, 3) := by decide +kernel
theorem dX1_check_40 : decode cX1_check 40 = .ok (.ifCond .eq 7, 3) := by decide +kernel
theorem dX1_check_43 : decode cX1_check 43 = .ok (.iconst 1, 1) := by decide +kernel
theorem dX1_check_44 : decode cX1_check 44 = .ok (.goto 4, 3) := by decide +kernel
theorem dX1_check_47 : decode cX1_check 47 = .ok (.iconst 0, 1) := by decide +kernel
theorem dX1_check_48 : decode cX1_check 48 = .ok (.istore_n 1, 1) := by decide +kernel
theorem dX1_check_49 : decode cX1_check 49 = .ok (.iinc 2 1, 3) := by decide +kernel
theorem dX1_check_52 : decode cX1_check 52 = .ok (.goto (-29), 3) := by decide +kernel
theorem dX1_check_55 : decode cX1_check 55 = .ok (.iload_n 1, 1) := by decide +kernel
theorem dX1_check_56 : decode cX1_check 56 = .ok (.ifCond .eq 7, 3) := by decide +kernel
theorem dX1_check_59 : decode cX1_check 59 = .ok (.iconst 1, 1) := by decide +kernel
theorem dX1_check_60 : decode cX1_check 60 = .ok (.goto 4, 3) := by decide +kernel
theorem dX1_check_63 : decode cX1_check 63 = .ok (.iconst 0, 1) := by decide +kernel
theorem dX1_check_64 : decode cX1_check 64 = .ok (.ireturn, 1) := by decide +kernel
theorem dX1_isSum_0 : decode cX1_isSum 0 = .ok (.iload_n 0, 1) := by decide +kernel
theorem dX1_isSum_1 : decode cX1_isSum 1 = .ok (.sipush (-1000), 3) := by decide +kernel
theorem dX1_isSum_4 : decode cX1_isSum 4 = .ok (.if_icmp .lt 14, 3) := by decide +kernel
theorem dX1_isSum_7 : decode cX1_isSum 7 = .ok (.iload_n 0, 1) := by decide +kernel
theorem dX1_isSum_8 : decode cX1_isSum 8 = .ok (.sipush 1000, 3) := by decide +kernel
theorem dX1_isSum_11 : decode cX1_isSum 11 = .ok (.if_icmp .gt 7, 3) := by decide +kernel
theorem dX1_isSum_14 : decode cX1_isSum 14 = .ok (.iconst 1, 1) := by decide +kernel
theorem dX1_isSum_15 : decode cX1_isSum 15 = .ok (.goto 4, 3) := by decide +kernel
theorem dX1_isSum_18 : decode cX1_isSum 18 = .ok (.iconst 0, 1) := by decide +kernel
theorem dX1_isSum_19 : decode cX1_isSum 19 = .ok (.ireturn, 1) := by decide +kernel
theorem dX1_isFactor_0 : decode cX1_isFactor 0 = .ok (.iload_n 1, 1) := by decide +kernel
theorem dX1_isFactor_1 : decode cX1_isFactor 1 = .ok (.aload_n 0, 1) := by decide +kernel
theorem dX1_isFactor_2 : decode cX1_isFactor 2 = .ok (.getfield 42, 3) := by decide +kernel
theorem dX1_isFactor_5 : decode cX1_isFactor 5 = .ok (.if_icmp .ge 15, 3) := by decide +kernel
theorem dX1_isFactor_8 : decode cX1_isFactor 8 = .ok (.iload_n 2, 1) := by decide +kernel
theorem dX1_isFactor_9 : decode cX1_isFactor 9 = .ok (.bipush (-9), 2) := by decide +kernel
theorem dX1_isFactor_11 : decode cX1_isFactor 11 = .ok (.if_icmp .lt 13, 3) := by decide +kernel
theorem dX1_isFactor_14 : decode cX1_isFactor 14 = .ok (.iload_n 2, 1) := by decide +kernel
theorem dX1_isFactor_15 : decode cX1_isFactor 15 = .ok (.bipush 9, 2) := by decide +kernel
theorem dX1_isFactor_17 : decode cX1_isFactor 17 = .ok (.if_icmp .gt 7, 3) := by decide +kernel
theorem dX1_isFactor_20 : decode cX1_isFactor 20 = .ok (.iconst 1, 1) := by decide +kernel
theorem dX1_isFactor_21 : decode cX1_isFactor 21 = .ok (.goto 4, 3) := by decide +kernel
theorem dX1_isFactor_24 : decode cX1_isFactor 24 = .ok (.iconst 0, 1) := by decide +kernel
theorem dX1_isFactor_25 : decode cX1_isFactor 25 = .ok (.ireturn, 1) := by decide +kernel
theorem dX1_basisRows_0 : decode cX1_basisRows 0 = .ok (.aload_n 0, 1) := by decide +kernel
theorem dX1_basisRows_1 : decode cX1_basisRows 1 = .ok (.getfield 42, 3) := by decide +kernel
theorem dX1_basisRows_4 : decode cX1_basisRows 4 = .ok (.aload_n 0, 1) := by decide +kernel
theorem dX1_basisRows_5 : decode cX1_basisRows 5 = .ok (.getfield 76, 3) := by decide +kernel
theorem dX1_basisRows_8 : decode cX1_basisRows 8 = .ok (.isub, 1) := by decide +kernel
theorem dX1_basisRows_9 : decode cX1_basisRows 9 = .ok (.ireturn, 1) := by decide +kernel
theorem dX1_basisNumber_0 : decode cX1_basisNumber 0 = .ok (.aload_n 0, 1) := by decide +kernel
theorem dX1_basisNumber_1 : decode cX1_basisNumber 1 = .ok (.getfield 23, 3) := by decide +kernel
theorem dX1_basisNumber_4 : decode cX1_basisNumber 4 = .ok (.aload_n 0, 1) := by decide +kernel
theorem dX1_basisNumber_5 : decode cX1_basisNumber 5 = .ok (.getfield 76, 3) := by decide +kernel
theorem dX1_basisNumber_8 : decode cX1_basisNumber 8 = .ok (.iload_n 1, 1) := by decide +kernel
theorem dX1_basisNumber_9 : decode cX1_basisNumber 9 = .ok (.iadd, 1) := by decide +kernel
theorem dX1_basisNumber_10 : decode cX1_basisNumber 10 = .ok (.aload_n 0, 1) := by decide +kernel
theorem dX1_basisNumber_11 : decode cX1_basisNumber 11 = .ok (.getfield 46, 3) := by decide +kernel
theorem dX1_basisNumber_14 : decode cX1_basisNumber 14 = .ok (.iload_n 2, 1) := by decide +kernel
theorem dX1_basisNumber_15 : decode cX1_basisNumber 15 = .ok (.iadd, 1) := by decide +kernel
theorem dX1_basisNumber_16 : decode cX1_basisNumber 16 = .ok (.invokevirtual 79, 3) := by decide +kernel
theorem dX1_basisNumber_19 : decode cX1_basisNumber 19 = .ok (.lreturn, 1) := by decide +kernel
theorem dX1_leadUnknown_0 : decode cX1_leadUnknown 0 = .ok (.iload_n 1, 1) := by decide +kernel
theorem dX1_leadUnknown_1 : decode cX1_leadUnknown 1 = .ok (.aload_n 0, 1) := by decide +kernel
theorem dX1_leadUnknown_2 : decode cX1_leadUnknown 2 = .ok (.invokevirtual 66, 3) := by decide +kernel
theorem dX1_leadUnknown_5 : decode cX1_leadUnknown 5 = .ok (.if_icmp .ge 24, 3) := by decide +kernel
theorem dX1_leadUnknown_8 : decode cX1_leadUnknown 8 = .ok (.aload_n 0, 1) := by decide +kernel
theorem dX1_leadUnknown_9 : decode cX1_leadUnknown 9 = .ok (.getfield 23, 3) := by decide +kernel
theorem dX1_leadUnknown_12 : decode cX1_leadUnknown 12 = .ok (.aload_n 0, 1) := by decide +kernel
theorem dX1_leadUnknown_13 : decode cX1_leadUnknown 13 = .ok (.getfield 76, 3) := by decide +kernel
theorem dX1_leadUnknown_16 : decode cX1_leadUnknown 16 = .ok (.iload_n 1, 1) := by decide +kernel
theorem dX1_leadUnknown_17 : decode cX1_leadUnknown 17 = .ok (.iadd, 1) := by decide +kernel
theorem dX1_leadUnknown_18 : decode cX1_leadUnknown 18 = .ok (.invokevirtual 124, 3) := by decide +kernel
theorem dX1_leadUnknown_21 : decode cX1_leadUnknown 21 = .ok (.aload_n 0, 1) := by decide +kernel
theorem dX1_leadUnknown_22 : decode cX1_leadUnknown 22 = .ok (.getfield 46, 3) := by decide +kernel
theorem dX1_leadUnknown_25 : decode cX1_leadUnknown 25 = .ok (.isub, 1) := by decide +kernel
theorem dX1_leadUnknown_26 : decode cX1_leadUnknown 26 = .ok (.goto 7, 3) := by decide +kernel
theorem dX1_leadUnknown_29 : decode cX1_leadUnknown 29 = .ok (.aload_n 0, 1) := by decide +kernel
theorem dX1_leadUnknown_30 : decode cX1_leadUnknown 30 = .ok (.getfield 42, 3) := by decide +kernel
theorem dX1_leadUnknown_33 : decode cX1_leadUnknown 33 = .ok (.ireturn, 1) := by decide +kernel
theorem dX1_formWhole_0 : decode cX1_formWhole 0 = .ok (.aload_n 0, 1) := by decide +kernel
theorem dX1_formWhole_1 : decode cX1_formWhole 1 = .ok (.getfield 23, 3) := by decide +kernel
theorem dX1_formWhole_4 : decode cX1_formWhole 4 = .ok (.aload_n 0, 1) := by decide +kernel
theorem dX1_formWhole_5 : decode cX1_formWhole 5 = .ok (.getfield 42, 3) := by decide +kernel
theorem dX1_formWhole_8 : decode cX1_formWhole 8 = .ok (.aload_n 0, 1) := by decide +kernel
theorem dX1_formWhole_9 : decode cX1_formWhole 9 = .ok (.getfield 46, 3) := by decide +kernel
theorem dX1_formWhole_12 : decode cX1_formWhole 12 = .ok (.aload_n 0, 1) := by decide +kernel
theorem dX1_formWhole_13 : decode cX1_formWhole 13 = .ok (.getfield 42, 3) := by decide +kernel
theorem dX1_formWhole_16 : decode cX1_formWhole 16 = .ok (.iadd, 1) := by decide +kernel
theorem dX1_formWhole_17 : decode cX1_formWhole 17 = .ok (.invokevirtual 128, 3) := by decide +kernel
theorem dX1_formWhole_20 : decode cX1_formWhole 20 = .ok (.iconst 0, 1) := by decide +kernel
theorem dX1_formWhole_21 : decode cX1_formWhole 21 = .ok (.istore_n 1, 1) := by decide +kernel
theorem dX1_formWhole_22 : decode cX1_formWhole 22 = .ok (.iload_n 1, 1) := by decide +kernel
theorem dX1_formWhole_23 : decode cX1_formWhole 23 = .ok (.aload_n 0, 1) := by decide +kernel
theorem dX1_formWhole_24 : decode cX1_formWhole 24 = .ok (.getfield 42, 3) := by decide +kernel
theorem dX1_formWhole_27 : decode cX1_formWhole 27 = .ok (.if_icmp .ge 58, 3) := by decide +kernel
theorem dX1_formWhole_30 : decode cX1_formWhole 30 = .ok (.iconst 0, 1) := by decide +kernel
theorem dX1_formWhole_31 : decode cX1_formWhole 31 = .ok (.istore_n 2, 1) := by decide +kernel
theorem dX1_formWhole_32 : decode cX1_formWhole 32 = .ok (.iload_n 2, 1) := by decide +kernel
theorem dX1_formWhole_33 : decode cX1_formWhole 33 = .ok (.aload_n 0, 1) := by decide +kernel
theorem dX1_formWhole_34 : decode cX1_formWhole 34 = .ok (.getfield 46, 3) := by decide +kernel
theorem dX1_formWhole_37 : decode cX1_formWhole 37 = .ok (.if_icmp .ge 27, 3) := by decide +kernel
theorem dX1_formWhole_40 : decode cX1_formWhole 40 = .ok (.aload_n 0, 1) := by decide +kernel
theorem dX1_formWhole_41 : decode cX1_formWhole 41 = .ok (.getfield 23, 3) := by decide +kernel
theorem dX1_formWhole_44 : decode cX1_formWhole 44 = .ok (.iload_n 1, 1) := by decide +kernel
theorem dX1_formWhole_45 : decode cX1_formWhole 45 = .ok (.iload_n 2, 1) := by decide +kernel
theorem dX1_formWhole_46 : decode cX1_formWhole 46 = .ok (.aload_n 0, 1) := by decide +kernel
theorem dX1_formWhole_47 : decode cX1_formWhole 47 = .ok (.getfield 11, 3) := by decide +kernel
theorem dX1_formWhole_50 : decode cX1_formWhole 50 = .ok (.iload_n 2, 1) := by decide +kernel
theorem dX1_formWhole_51 : decode cX1_formWhole 51 = .ok (.aaload, 1) := by decide +kernel
theorem dX1_formWhole_52 : decode cX1_formWhole 52 = .ok (.iload_n 1, 1) := by decide +kernel
theorem dX1_formWhole_53 : decode cX1_formWhole 53 = .ok (.iaload, 1) := by decide +kernel
theorem dX1_formWhole_54 : decode cX1_formWhole 54 = .ok (.i2l, 1) := by decide +kernel
theorem dX1_formWhole_55 : decode cX1_formWhole 55 = .ok (.invokevirtual 131, 3) := by decide +kernel
theorem dX1_formWhole_58 : decode cX1_formWhole 58 = .ok (.iinc 2 1, 3) := by decide +kernel
theorem dX1_formWhole_61 : decode cX1_formWhole 61 = .ok (.goto (-29), 3) := by decide +kernel
theorem dX1_formWhole_64 : decode cX1_formWhole 64 = .ok (.aload_n 0, 1) := by decide +kernel
theorem dX1_formWhole_65 : decode cX1_formWhole 65 = .ok (.getfield 23, 3) := by decide +kernel
theorem dX1_formWhole_68 : decode cX1_formWhole 68 = .ok (.iload_n 1, 1) := by decide +kernel
theorem dX1_formWhole_69 : decode cX1_formWhole 69 = .ok (.aload_n 0, 1) := by decide +kernel
theorem dX1_formWhole_70 : decode cX1_formWhole 70 = .ok (.getfield 46, 3) := by decide +kernel
theorem dX1_formWhole_73 : decode cX1_formWhole 73 = .ok (.iload_n 1, 1) := by decide +kernel
theorem dX1_formWhole_74 : decode cX1_formWhole 74 = .ok (.iadd, 1) := by decide +kernel
theorem dX1_formWhole_75 : decode cX1_formWhole 75 = .ok (.lconst 1, 1) := by decide +kernel
theorem dX1_formWhole_76 : decode cX1_formWhole 76 = .ok (.invokevirtual 131, 3) := by decide +kernel
theorem dX1_formWhole_79 : decode cX1_formWhole 79 = .ok (.iinc 1 1, 3) := by decide +kernel
theorem dX1_formWhole_82 : decode cX1_formWhole 82 = .ok (.goto (-60), 3) := by decide +kernel
theorem dX1_formWhole_85 : decode cX1_formWhole 85 = .ok (.aload_n 0, 1) := by decide +kernel
theorem dX1_formWhole_86 : decode cX1_formWhole 86 = .ok (.getfield 23, 3) := by decide +kernel
theorem dX1_formWhole_89 : decode cX1_formWhole 89 = .ok (.invokevirtual 135, 3) := by decide +kernel
theorem dX1_formWhole_92 : decode cX1_formWhole 92 = .ok (.aload_n 0, 1) := by decide +kernel
theorem dX1_formWhole_93 : decode cX1_formWhole 93 = .ok (.aload_n 0, 1) := by decide +kernel
theorem dX1_formWhole_94 : decode cX1_formWhole 94 = .ok (.getfield 23, 3) := by decide +kernel
theorem dX1_formWhole_97 : decode cX1_formWhole 97 = .ok (.aload_n 0, 1) := by decide +kernel
theorem dX1_formWhole_98 : decode cX1_formWhole 98 = .ok (.getfield 46, 3) := by decide +kernel
theorem dX1_formWhole_101 : decode cX1_formWhole 101 = .ok (.invokevirtual 138, 3) := by decide +kernel
theorem dX1_formWhole_104 : decode cX1_formWhole 104 = .ok (.putfield 76, 3) := by decide +kernel
theorem dX1_formWhole_107 : decode cX1_formWhole 107 = .ok (.aload_n 0, 1) := by decide +kernel
theorem dX1_formWhole_108 : decode cX1_formWhole 108 = .ok (.invokevirtual 60, 3) := by decide +kernel
theorem dX1_formWhole_111 : decode cX1_formWhole 111 = .ok (.return_, 1) := by decide +kernel
theorem dX1_settleSolution_0 : decode cX1_settleSolution 0 = .ok (.aload_n 0, 1) := by decide +kernel
theorem dX1_settleSolution_1 : decode cX1_settleSolution 1 = .ok (.getfield 30, 3) := by decide +kernel
theorem dX1_settleSolution_4 : decode cX1_settleSolution 4 = .ok (.invokestatic 82, 3) := by decide +kernel
theorem dX1_settleSolution_7 : decode cX1_settleSolution 7 = .ok (.iconst 0, 1) := by decide +kernel
theorem dX1_settleSolution_8 : decode cX1_settleSolution 8 = .ok (.istore_n 1, 1) := by decide +kernel
theorem dX1_settleSolution_9 : decode cX1_settleSolution 9 = .ok (.iload_n 1, 1) := by decide +kernel
theorem dX1_settleSolution_10 : decode cX1_settleSolution 10 = .ok (.aload_n 0, 1) := by decide +kernel
theorem dX1_settleSolution_11 : decode cX1_settleSolution 11 = .ok (.getfield 46, 3) := by decide +kernel
theorem dX1_settleSolution_14 : decode cX1_settleSolution 14 = .ok (.if_icmp .ge 23, 3) := by decide +kernel
theorem dX1_settleSolution_17 : decode cX1_settleSolution 17 = .ok (.aload_n 0, 1) := by decide +kernel
theorem dX1_settleSolution_18 : decode cX1_settleSolution 18 = .ok (.getfield 30, 3) := by decide +kernel
theorem dX1_settleSolution_21 : decode cX1_settleSolution 21 = .ok (.iload_n 1, 1) := by decide +kernel
theorem dX1_settleSolution_22 : decode cX1_settleSolution 22 = .ok (.aload_n 0, 1) := by decide +kernel
theorem dX1_settleSolution_23 : decode cX1_settleSolution 23 = .ok (.getfield 14, 3) := by decide +kernel
theorem dX1_settleSolution_26 : decode cX1_settleSolution 26 = .ok (.iload_n 1, 1) := by decide +kernel
theorem dX1_settleSolution_27 : decode cX1_settleSolution 27 = .ok (.iaload, 1) := by decide +kernel
theorem dX1_settleSolution_28 : decode cX1_settleSolution 28 = .ok (.ineg, 1) := by decide +kernel
theorem dX1_settleSolution_29 : decode cX1_settleSolution 29 = .ok (.i2l, 1) := by decide +kernel
theorem dX1_settleSolution_30 : decode cX1_settleSolution 30 = .ok (.lastore, 1) := by decide +kernel
theorem dX1_settleSolution_31 : decode cX1_settleSolution 31 = .ok (.iinc 1 1, 3) := by decide +kernel
theorem dX1_settleSolution_34 : decode cX1_settleSolution 34 = .ok (.goto (-25), 3) := by decide +kernel
theorem dX1_settleSolution_37 : decode cX1_settleSolution 37 = .ok (.aload_n 0, 1) := by decide +kernel
