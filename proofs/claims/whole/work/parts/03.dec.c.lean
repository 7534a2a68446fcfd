theorem dX1_settleSolution_38 : decode cX1_settleSolution 38 = .ok (.getfield 23, 3) := by decide +kernel
theorem dX1_settleSolution_41 : decode cX1_settleSolution 41 = .ok (.aload_n 0, 1) := by decide +kernel
theorem dX1_settleSolution_42 : decode cX1_settleSolution 42 = .ok (.getfield 30, 3) := by decide +kernel
theorem dX1_settleSolution_45 : decode cX1_settleSolution 45 = .ok (.invokevirtual 86, 3) := by decide +kernel
theorem dX1_settleSolution_48 : decode cX1_settleSolution 48 = .ok (.aload_n 0, 1) := by decide +kernel
theorem dX1_settleSolution_49 : decode cX1_settleSolution 49 = .ok (.aload_n 0, 1) := by decide +kernel
theorem dX1_settleSolution_50 : decode cX1_settleSolution 50 = .ok (.aload_n 0, 1) := by decide +kernel
theorem dX1_settleSolution_51 : decode cX1_settleSolution 51 = .ok (.getfield 30, 3) := by decide +kernel
theorem dX1_settleSolution_54 : decode cX1_settleSolution 54 = .ok (.invokevirtual 89, 3) := by decide +kernel
theorem dX1_settleSolution_57 : decode cX1_settleSolution 57 = .ok (.putfield 63, 3) := by decide +kernel
theorem dX1_settleSolution_60 : decode cX1_settleSolution 60 = .ok (.return_, 1) := by decide +kernel
theorem dX1_firstNotZero_0 : decode cX1_firstNotZero 0 = .ok (.iconst 0, 1) := by decide +kernel
theorem dX1_firstNotZero_1 : decode cX1_firstNotZero 1 = .ok (.istore_n 2, 1) := by decide +kernel
theorem dX1_firstNotZero_2 : decode cX1_firstNotZero 2 = .ok (.iload_n 2, 1) := by decide +kernel
theorem dX1_firstNotZero_3 : decode cX1_firstNotZero 3 = .ok (.aload_n 0, 1) := by decide +kernel
theorem dX1_firstNotZero_4 : decode cX1_firstNotZero 4 = .ok (.getfield 46, 3) := by decide +kernel
theorem dX1_firstNotZero_7 : decode cX1_firstNotZero 7 = .ok (.if_icmp .ge 19, 3) := by decide +kernel
theorem dX1_firstNotZero_10 : decode cX1_firstNotZero 10 = .ok (.aload_n 1, 1) := by decide +kernel
theorem dX1_firstNotZero_11 : decode cX1_firstNotZero 11 = .ok (.iload_n 2, 1) := by decide +kernel
theorem dX1_firstNotZero_12 : decode cX1_firstNotZero 12 = .ok (.laload, 1) := by decide +kernel
theorem dX1_firstNotZero_13 : decode cX1_firstNotZero 13 = .ok (.lconst 0, 1) := by decide +kernel
theorem dX1_firstNotZero_14 : decode cX1_firstNotZero 14 = .ok (.lcmp, 1) := by decide +kernel
theorem dX1_firstNotZero_15 : decode cX1_firstNotZero 15 = .ok (.ifCond .eq 5, 3) := by decide +kernel
theorem dX1_firstNotZero_18 : decode cX1_firstNotZero 18 = .ok (.iload_n 2, 1) := by decide +kernel
theorem dX1_firstNotZero_19 : decode cX1_firstNotZero 19 = .ok (.ireturn, 1) := by decide +kernel
theorem dX1_firstNotZero_20 : decode cX1_firstNotZero 20 = .ok (.iinc 2 1, 3) := by decide +kernel
theorem dX1_firstNotZero_23 : decode cX1_firstNotZero 23 = .ok (.goto (-21), 3) := by decide +kernel
theorem dX1_firstNotZero_26 : decode cX1_firstNotZero 26 = .ok (.iconst (-1), 1) := by decide +kernel
theorem dX1_firstNotZero_27 : decode cX1_firstNotZero 27 = .ok (.ireturn, 1) := by decide +kernel
theorem dX1_fillWithZero_0 : decode cX1_fillWithZero 0 = .ok (.iconst 0, 1) := by decide +kernel
theorem dX1_fillWithZero_1 : decode cX1_fillWithZero 1 = .ok (.istore_n 1, 1) := by decide +kernel
theorem dX1_fillWithZero_2 : decode cX1_fillWithZero 2 = .ok (.iload_n 1, 1) := by decide +kernel
theorem dX1_fillWithZero_3 : decode cX1_fillWithZero 3 = .ok (.aload_n 0, 1) := by decide +kernel
theorem dX1_fillWithZero_4 : decode cX1_fillWithZero 4 = .ok (.arraylength, 1) := by decide +kernel
theorem dX1_fillWithZero_5 : decode cX1_fillWithZero 5 = .ok (.if_icmp .ge 13, 3) := by decide +kernel
theorem dX1_fillWithZero_8 : decode cX1_fillWithZero 8 = .ok (.aload_n 0, 1) := by decide +kernel
theorem dX1_fillWithZero_9 : decode cX1_fillWithZero 9 = .ok (.iload_n 1, 1) := by decide +kernel
theorem dX1_fillWithZero_10 : decode cX1_fillWithZero 10 = .ok (.lconst 0, 1) := by decide +kernel
theorem dX1_fillWithZero_11 : decode cX1_fillWithZero 11 = .ok (.lastore, 1) := by decide +kernel
theorem dX1_fillWithZero_12 : decode cX1_fillWithZero 12 = .ok (.iinc 1 1, 3) := by decide +kernel
theorem dX1_fillWithZero_15 : decode cX1_fillWithZero 15 = .ok (.goto (-13), 3) := by decide +kernel
theorem dX1_fillWithZero_18 : decode cX1_fillWithZero 18 = .ok (.return_, 1) := by decide +kernel
theorem dX1_divisorOfDeterminants_0 : decode cX1_divisorOfDeterminants 0 = .ok (.lconst 0, 1) := by decide +kernel
theorem dX1_divisorOfDeterminants_1 : decode cX1_divisorOfDeterminants 1 = .ok (.lstore_n 2, 1) := by decide +kernel
theorem dX1_divisorOfDeterminants_2 : decode cX1_divisorOfDeterminants 2 = .ok (.iconst 0, 1) := by decide +kernel
theorem dX1_divisorOfDeterminants_3 : decode cX1_divisorOfDeterminants 3 = .ok (.istore 4, 2) := by decide +kernel
theorem dX1_divisorOfDeterminants_5 : decode cX1_divisorOfDeterminants 5 = .ok (.iload 4, 2) := by decide +kernel
theorem dX1_divisorOfDeterminants_7 : decode cX1_divisorOfDeterminants 7 = .ok (.iconst 1, 1) := by decide +kernel
theorem dX1_divisorOfDeterminants_8 : decode cX1_divisorOfDeterminants 8 = .ok (.aload_n 0, 1) := by decide +kernel
theorem dX1_divisorOfDeterminants_9 : decode cX1_divisorOfDeterminants 9 = .ok (.getfield 46, 3) := by decide +kernel
theorem dX1_divisorOfDeterminants_12 : decode cX1_divisorOfDeterminants 12 = .ok (.ishl, 1) := by decide +kernel
theorem dX1_divisorOfDeterminants_13 : decode cX1_divisorOfDeterminants 13 = .ok (.if_icmp .ge 30, 3) := by decide +kernel
theorem dX1_divisorOfDeterminants_16 : decode cX1_divisorOfDeterminants 16 = .ok (.iload 4, 2) := by decide +kernel
theorem dX1_divisorOfDeterminants_18 : decode cX1_divisorOfDeterminants 18 = .ok (.invokestatic 141, 3) := by decide +kernel
theorem dX1_divisorOfDeterminants_21 : decode cX1_divisorOfDeterminants 21 = .ok (.iload_n 1, 1) := by decide +kernel
theorem dX1_divisorOfDeterminants_22 : decode cX1_divisorOfDeterminants 22 = .ok (.if_icmp .ne 15, 3) := by decide +kernel
theorem dX1_divisorOfDeterminants_25 : decode cX1_divisorOfDeterminants 25 = .ok (.lload_n 2, 1) := by decide +kernel
theorem dX1_divisorOfDeterminants_26 : decode cX1_divisorOfDeterminants 26 = .ok (.aload_n 0, 1) := by decide +kernel
theorem dX1_divisorOfDeterminants_27 : decode cX1_divisorOfDeterminants 27 = .ok (.iload 4, 2) := by decide +kernel
theorem dX1_divisorOfDeterminants_29 : decode cX1_divisorOfDeterminants 29 = .ok (.iload_n 1, 1) := by decide +kernel
theorem dX1_divisorOfDeterminants_30 : decode cX1_divisorOfDeterminants 30 = .ok (.invokevirtual 146, 3) := by decide +kernel
theorem dX1_divisorOfDeterminants_33 : decode cX1_divisorOfDeterminants 33 = .ok (.invokestatic 113, 3) := by decide +kernel
theorem dX1_divisorOfDeterminants_36 : decode cX1_divisorOfDeterminants 36 = .ok (.lstore_n 2, 1) := by decide +kernel
theorem dX1_divisorOfDeterminants_37 : decode cX1_divisorOfDeterminants 37 = .ok (.iinc 4 1, 3) := by decide +kernel
theorem dX1_divisorOfDeterminants_40 : decode cX1_divisorOfDeterminants 40 = .ok (.goto (-35), 3) := by decide +kernel
theorem dX1_divisorOfDeterminants_43 : decode cX1_divisorOfDeterminants 43 = .ok (.lload_n 2, 1) := by decide +kernel
theorem dX1_divisorOfDeterminants_44 : decode cX1_divisorOfDeterminants 44 = .ok (.lreturn, 1) := by decide +kernel
theorem dX1_divisorOverUnknowns_0 : decode cX1_divisorOverUnknowns 0 = .ok (.lconst 0, 1) := by decide +kernel
theorem dX1_divisorOverUnknowns_1 : decode cX1_divisorOverUnknowns 1 = .ok (.lstore_n 3, 1) := by decide +kernel
theorem dX1_divisorOverUnknowns_2 : decode cX1_divisorOverUnknowns 2 = .ok (.iconst 0, 1) := by decide +kernel
theorem dX1_divisorOverUnknowns_3 : decode cX1_divisorOverUnknowns 3 = .ok (.istore 5, 2) := by decide +kernel
theorem dX1_divisorOverUnknowns_5 : decode cX1_divisorOverUnknowns 5 = .ok (.iload 5, 2) := by decide +kernel
theorem dX1_divisorOverUnknowns_7 : decode cX1_divisorOverUnknowns 7 = .ok (.iconst 1, 1) := by decide +kernel
theorem dX1_divisorOverUnknowns_8 : decode cX1_divisorOverUnknowns 8 = .ok (.aload_n 0, 1) := by decide +kernel
theorem dX1_divisorOverUnknowns_9 : decode cX1_divisorOverUnknowns 9 = .ok (.getfield 42, 3) := by decide +kernel
theorem dX1_divisorOverUnknowns_12 : decode cX1_divisorOverUnknowns 12 = .ok (.ishl, 1) := by decide +kernel
theorem dX1_divisorOverUnknowns_13 : decode cX1_divisorOverUnknowns 13 = .ok (.if_icmp .ge 31, 3) := by decide +kernel
theorem dX1_divisorOverUnknowns_16 : decode cX1_divisorOverUnknowns 16 = .ok (.iload 5, 2) := by decide +kernel
theorem dX1_divisorOverUnknowns_18 : decode cX1_divisorOverUnknowns 18 = .ok (.invokestatic 141, 3) := by decide +kernel
theorem dX1_divisorOverUnknowns_21 : decode cX1_divisorOverUnknowns 21 = .ok (.iload_n 2, 1) := by decide +kernel
theorem dX1_divisorOverUnknowns_22 : decode cX1_divisorOverUnknowns 22 = .ok (.if_icmp .ne 16, 3) := by decide +kernel
theorem dX1_divisorOverUnknowns_25 : decode cX1_divisorOverUnknowns 25 = .ok (.lload_n 3, 1) := by decide +kernel
theorem dX1_divisorOverUnknowns_26 : decode cX1_divisorOverUnknowns 26 = .ok (.aload_n 0, 1) := by decide +kernel
theorem dX1_divisorOverUnknowns_27 : decode cX1_divisorOverUnknowns 27 = .ok (.iconst 0, 1) := by decide +kernel
theorem dX1_divisorOverUnknowns_28 : decode cX1_divisorOverUnknowns 28 = .ok (.iload_n 1, 1) := by decide +kernel
theorem dX1_divisorOverUnknowns_29 : decode cX1_divisorOverUnknowns 29 = .ok (.iload 5, 2) := by decide +kernel
theorem dX1_divisorOverUnknowns_31 : decode cX1_divisorOverUnknowns 31 = .ok (.invokevirtual 149, 3) := by decide +kernel
theorem dX1_divisorOverUnknowns_34 : decode cX1_divisorOverUnknowns 34 = .ok (.invokestatic 113, 3) := by decide +kernel
theorem dX1_divisorOverUnknowns_37 : decode cX1_divisorOverUnknowns 37 = .ok (.lstore_n 3, 1) := by decide +kernel
theorem dX1_divisorOverUnknowns_38 : decode cX1_divisorOverUnknowns 38 = .ok (.iinc 5 1, 3) := by decide +kernel
theorem dX1_divisorOverUnknowns_41 : decode cX1_divisorOverUnknowns 41 = .ok (.goto (-36), 3) := by decide +kernel
theorem dX1_divisorOverUnknowns_44 : decode cX1_divisorOverUnknowns 44 = .ok (.lload_n 3, 1) := by decide +kernel
theorem dX1_divisorOverUnknowns_45 : decode cX1_divisorOverUnknowns 45 = .ok (.lreturn, 1) := by decide +kernel
theorem dX1_determinant_0 : decode cX1_determinant 0 = .ok (.iload_n 1, 1) := by decide +kernel
theorem dX1_determinant_1 : decode cX1_determinant 1 = .ok (.aload_n 0, 1) := by decide +kernel
theorem dX1_determinant_2 : decode cX1_determinant 2 = .ok (.getfield 46, 3) := by decide +kernel
theorem dX1_determinant_5 : decode cX1_determinant 5 = .ok (.if_icmp .lt 5, 3) := by decide +kernel
theorem dX1_determinant_8 : decode cX1_determinant 8 = .ok (.lconst 1, 1) := by decide +kernel
theorem dX1_determinant_9 : decode cX1_determinant 9 = .ok (.lreturn, 1) := by decide +kernel
theorem dX1_determinant_10 : decode cX1_determinant 10 = .ok (.iload_n 2, 1) := by decide +kernel
theorem dX1_determinant_11 : decode cX1_determinant 11 = .ok (.iload_n 1, 1) := by decide +kernel
theorem dX1_determinant_12 : decode cX1_determinant 12 = .ok (.ishr, 1) := by decide +kernel
theorem dX1_determinant_13 : decode cX1_determinant 13 = .ok (.iconst 1, 1) := by decide +kernel
theorem dX1_determinant_14 : decode cX1_determinant 14 = .ok (.iand, 1) := by decide +kernel
theorem dX1_determinant_15 : decode cX1_determinant 15 = .ok (.ifCond .ne 13, 3) := by decide +kernel
theorem dX1_determinant_18 : decode cX1_determinant 18 = .ok (.aload_n 0, 1) := by decide +kernel
theorem dX1_determinant_19 : decode cX1_determinant 19 = .ok (.iload_n 1, 1) := by decide +kernel
theorem dX1_determinant_20 : decode cX1_determinant 20 = .ok (.iconst 1, 1) := by decide +kernel
theorem dX1_determinant_21 : decode cX1_determinant 21 = .ok (.iadd, 1) := by decide +kernel
theorem dX1_determinant_22 : decode cX1_determinant 22 = .ok (.iload_n 2, 1) := by decide +kernel
theorem dX1_determinant_23 : decode cX1_determinant 23 = .ok (.iload_n 3, 1) := by decide +kernel
theorem dX1_determinant_24 : decode cX1_determinant 24 = .ok (.invokevirtual 149, 3) := by decide +kernel
theorem dX1_determinant_27 : decode cX1_determinant 27 = .ok (.lreturn, 1) := by decide +kernel
theorem dX1_determinant_28 : decode cX1_determinant 28 = .ok (.lconst 0, 1) := by decide +kernel
theorem dX1_determinant_29 : decode cX1_determinant 29 = .ok (.lstore 4, 2) := by decide +kernel
theorem dX1_determinant_31 : decode cX1_determinant 31 = .ok (.lconst 1, 1) := by decide +kernel
theorem dX1_determinant_32 : decode cX1_determinant 32 = .ok (.lstore 6, 2) := by decide +kernel
theorem dX1_determinant_34 : decode cX1_determinant 34 = .ok (.iconst 0, 1) := by decide +kernel
theorem dX1_determinant_35 : decode cX1_determinant 35 = .ok (.istore 8, 2) := by decide +kernel
theorem dX1_determinant_37 : decode cX1_determinant 37 = .ok (.iload 8, 2) := by decide +kernel
theorem dX1_determinant_39 : decode cX1_determinant 39 = .ok (.aload_n 0, 1) := by decide +kernel
theorem dX1_determinant_40 : decode cX1_determinant 40 = .ok (.getfield 42, 3) := by decide +kernel
theorem dX1_determinant_43 : decode cX1_determinant 43 = .ok (.if_icmp .ge 57, 3) := by decide +kernel
theorem dX1_determinant_46 : decode cX1_determinant 46 = .ok (.iload_n 3, 1) := by decide +kernel
theorem dX1_determinant_47 : decode cX1_determinant 47 = .ok (.iload 8, 2) := by decide +kernel
theorem dX1_determinant_49 : decode cX1_determinant 49 = .ok (.ishr, 1) := by decide +kernel
theorem dX1_determinant_50 : decode cX1_determinant 50 = .ok (.iconst 1, 1) := by decide +kernel
theorem dX1_determinant_51 : decode cX1_determinant 51 = .ok (.iand, 1) := by decide +kernel
theorem dX1_determinant_52 : decode cX1_determinant 52 = .ok (.iconst 1, 1) := by decide +kernel
theorem dX1_determinant_53 : decode cX1_determinant 53 = .ok (.if_icmp .ne 41, 3) := by decide +kernel
theorem dX1_determinant_56 : decode cX1_determinant 56 = .ok (.lload 4, 2) := by decide +kernel
theorem dX1_determinant_58 : decode cX1_determinant 58 = .ok (.lload 6, 2) := by decide +kernel
theorem dX1_determinant_60 : decode cX1_determinant 60 = .ok (.aload_n 0, 1) := by decide +kernel
theorem dX1_determinant_61 : decode cX1_determinant 61 = .ok (.getfield 11, 3) := by decide +kernel
theorem dX1_determinant_64 : decode cX1_determinant 64 = .ok (.iload_n 1, 1) := by decide +kernel
theorem dX1_determinant_65 : decode cX1_determinant 65 = .ok (.aaload, 1) := by decide +kernel
theorem dX1_determinant_66 : decode cX1_determinant 66 = .ok (.iload 8, 2) := by decide +kernel
theorem dX1_determinant_68 : decode cX1_determinant 68 = .ok (.iaload, 1) := by decide +kernel
theorem dX1_determinant_69 : decode cX1_determinant 69 = .ok (.i2l, 1) := by decide +kernel
theorem dX1_determinant_70 : decode cX1_determinant 70 = .ok (.lmul, 1) := by decide +kernel
theorem dX1_determinant_71 : decode cX1_determinant 71 = .ok (.aload_n 0, 1) := by decide +kernel
theorem dX1_determinant_72 : decode cX1_determinant 72 = .ok (.iload_n 1, 1) := by decide +kernel
theorem dX1_determinant_73 : decode cX1_determinant 73 = .ok (.iconst 1, 1) := by decide +kernel
theorem dX1_determinant_74 : decode cX1_determinant 74 = .ok (.iadd, 1) := by decide +kernel
theorem dX1_determinant_75 : decode cX1_determinant 75 = .ok (.iload_n 2, 1) := by decide +kernel
theorem dX1_determinant_76 : decode cX1_determinant 76 = .ok (.iload_n 3, 1) := by decide +kernel
theorem dX1_determinant_77 : decode cX1_determinant 77 = .ok (.iconst 1, 1) := by decide +kernel
theorem dX1_determinant_78 : decode cX1_determinant 78 = .ok (.iload 8, 2) := by decide +kernel
theorem dX1_determinant_80 : decode cX1_determinant 80 = .ok (.ishl, 1) := by decide +kernel
theorem dX1_determinant_81 : decode cX1_determinant 81 = .ok (.isub, 1) := by decide +kernel
theorem dX1_determinant_82 : decode cX1_determinant 82 = .ok (.invokevirtual 149, 3) := by decide +kernel
theorem dX1_determinant_85 : decode cX1_determinant 85 = .ok (.lmul, 1) := by decide +kernel
theorem dX1_determinant_86 : decode cX1_determinant 86 = .ok (.ladd, 1) := by decide +kernel
theorem dX1_determinant_87 : decode cX1_determinant 87 = .ok (.lstore 4, 2) := by decide +kernel
theorem dX1_determinant_89 : decode cX1_determinant 89 = .ok (.lload 6, 2) := by decide +kernel
theorem dX1_determinant_91 : decode cX1_determinant 91 = .ok (.lneg, 1) := by decide +kernel
theorem dX1_determinant_92 : decode cX1_determinant 92 = .ok (.lstore 6, 2) := by decide +kernel
theorem dX1_determinant_94 : decode cX1_determinant 94 = .ok (.iinc 8 1, 3) := by decide +kernel
theorem dX1_determinant_97 : decode cX1_determinant 97 = .ok (.goto (-60), 3) := by decide +kernel
theorem dX1_determinant_100 : decode cX1_determinant 100 = .ok (.lload 4, 2) := by decide +kernel
theorem dX1_determinant_102 : decode cX1_determinant 102 = .ok (.lreturn, 1) := by decide +kernel
theorem dX1_commonDivisor_0 : decode cX1_commonDivisor 0 = .ok (.lload_n 0, 1) := by decide +kernel
theorem dX1_commonDivisor_1 : decode cX1_commonDivisor 1 = .ok (.invokestatic 152, 3) := by decide +kernel
theorem dX1_commonDivisor_4 : decode cX1_commonDivisor 4 = .ok (.lstore 4, 2) := by decide +kernel
theorem dX1_commonDivisor_6 : decode cX1_commonDivisor 6 = .ok (.lload_n 2, 1) := by decide +kernel
theorem dX1_commonDivisor_7 : decode cX1_commonDivisor 7 = .ok (.invokestatic 152, 3) := by decide +kernel
theorem dX1_commonDivisor_10 : decode cX1_commonDivisor 10 = .ok (.lstore 6, 2) := by decide +kernel
theorem dX1_commonDivisor_12 : decode cX1_commonDivisor 12 = .ok (.iconst 0, 1) := by decide +kernel
theorem dX1_commonDivisor_13 : decode cX1_commonDivisor 13 = .ok (.istore 8, 2) := by decide +kernel
theorem dX1_commonDivisor_15 : decode cX1_commonDivisor 15 = .ok (.iload 8, 2) := by decide +kernel
theorem dX1_commonDivisor_17 : decode cX1_commonDivisor 17 = .ok (.sipush 200, 3) := by decide +kernel
theorem dX1_commonDivisor_20 : decode cX1_commonDivisor 20 = .ok (.if_icmp .ge 31, 3) := by decide +kernel
theorem dX1_commonDivisor_23 : decode cX1_commonDivisor 23 = .ok (.lload 6, 2) := by decide +kernel
theorem dX1_commonDivisor_25 : decode cX1_commonDivisor 25 = .ok (.lconst 0, 1) := by decide +kernel
theorem dX1_commonDivisor_26 : decode cX1_commonDivisor 26 = .ok (.lcmp, 1) := by decide +kernel
theorem dX1_commonDivisor_27 : decode cX1_commonDivisor 27 = .ok (.ifCond .eq 24, 3) := by decide +kernel
theorem dX1_commonDivisor_30 : decode cX1_commonDivisor 30 = .ok (.lload 4, 2) := by decide +kernel
theorem dX1_commonDivisor_32 : decode cX1_commonDivisor 32 = .ok (.lload 6, 2) := by decide +kernel
theorem dX1_commonDivisor_34 : decode cX1_commonDivisor 34 = .ok (.lrem, 1) := by decide +kernel
theorem dX1_commonDivisor_35 : decode cX1_commonDivisor 35 = .ok (.lstore 9, 2) := by decide +kernel
theorem dX1_commonDivisor_37 : decode cX1_commonDivisor 37 = .ok (.lload 6, 2) := by decide +kernel
theorem dX1_commonDivisor_39 : decode cX1_commonDivisor 39 = .ok (.lstore 4, 2) := by decide +kernel
theorem dX1_commonDivisor_41 : decode cX1_commonDivisor 41 = .ok (.lload 9, 2) := by decide +kernel
theorem dX1_commonDivisor_43 : decode cX1_commonDivisor 43 = .ok (.lstore 6, 2) := by decide +kernel
theorem dX1_commonDivisor_45 : decode cX1_commonDivisor 45 = .ok (.iinc 8 1, 3) := by decide +kernel
theorem dX1_commonDivisor_48 : decode cX1_commonDivisor 48 = .ok (.goto (-33), 3) := by decide +kernel
theorem dX1_commonDivisor_51 : decode cX1_commonDivisor 51 = .ok (.lload 4, 2) := by decide +kernel
theorem dX1_commonDivisor_53 : decode cX1_commonDivisor 53 = .ok (.lreturn, 1) := by decide +kernel
theorem dX1_unmovedLieInside_0 : decode cX1_unmovedLieInside 0 = .ok (.aload_n 0, 1) := by decide +kernel
theorem dX1_unmovedLieInside_1 : decode cX1_unmovedLieInside 1 = .ok (.iconst 0, 1) := by decide +kernel
theorem dX1_unmovedLieInside_2 : decode cX1_unmovedLieInside 2 = .ok (.invokevirtual 158, 3) := by decide +kernel
theorem dX1_unmovedLieInside_5 : decode cX1_unmovedLieInside 5 = .ok (.istore_n 3, 1) := by decide +kernel
theorem dX1_unmovedLieInside_6 : decode cX1_unmovedLieInside 6 = .ok (.iconst 0, 1) := by decide +kernel
theorem dX1_unmovedLieInside_7 : decode cX1_unmovedLieInside 7 = .ok (.istore 4, 2) := by decide +kernel
theorem dX1_unmovedLieInside_9 : decode cX1_unmovedLieInside 9 = .ok (.iload 4, 2) := by decide +kernel
theorem dX1_unmovedLieInside_11 : decode cX1_unmovedLieInside 11 = .ok (.iload_n 3, 1) := by decide +kernel
theorem dX1_unmovedLieInside_12 : decode cX1_unmovedLieInside 12 = .ok (.if_icmp .ge 41, 3) := by decide +kernel
theorem dX1_unmovedLieInside_15 : decode cX1_unmovedLieInside 15 = .ok (.aload_n 0, 1) := by decide +kernel
theorem dX1_unmovedLieInside_16 : decode cX1_unmovedLieInside 16 = .ok (.getfield 39, 3) := by decide +kernel
theorem dX1_unmovedLieInside_19 : decode cX1_unmovedLieInside 19 = .ok (.iconst 0, 1) := by decide +kernel
theorem dX1_unmovedLieInside_20 : decode cX1_unmovedLieInside 20 = .ok (.aaload, 1) := by decide +kernel
theorem dX1_unmovedLieInside_21 : decode cX1_unmovedLieInside 21 = .ok (.iload 4, 2) := by decide +kernel
theorem dX1_unmovedLieInside_23 : decode cX1_unmovedLieInside 23 = .ok (.laload, 1) := by decide +kernel
theorem dX1_unmovedLieInside_24 : decode cX1_unmovedLieInside 24 = .ok (.iload_n 1, 1) := by decide +kernel
theorem dX1_unmovedLieInside_25 : decode cX1_unmovedLieInside 25 = .ok (.i2l, 1) := by decide +kernel
theorem dX1_unmovedLieInside_26 : decode cX1_unmovedLieInside 26 = .ok (.lcmp, 1) := by decide +kernel
theorem dX1_unmovedLieInside_27 : decode cX1_unmovedLieInside 27 = .ok (.ifCond .lt 18, 3) := by decide +kernel
theorem dX1_unmovedLieInside_30 : decode cX1_unmovedLieInside 30 = .ok (.aload_n 0, 1) := by decide +kernel
theorem dX1_unmovedLieInside_31 : decode cX1_unmovedLieInside 31 = .ok (.getfield 39, 3) := by decide +kernel
theorem dX1_unmovedLieInside_34 : decode cX1_unmovedLieInside 34 = .ok (.iconst 0, 1) := by decide +kernel
theorem dX1_unmovedLieInside_35 : decode cX1_unmovedLieInside 35 = .ok (.aaload, 1) := by decide +kernel
theorem dX1_unmovedLieInside_36 : decode cX1_unmovedLieInside 36 = .ok (.iload 4, 2) := by decide +kernel
theorem dX1_unmovedLieInside_38 : decode cX1_unmovedLieInside 38 = .ok (.laload, 1) := by decide +kernel
theorem dX1_unmovedLieInside_39 : decode cX1_unmovedLieInside 39 = .ok (.iload_n 2, 1) := by decide +kernel
theorem dX1_unmovedLieInside_40 : decode cX1_unmovedLieInside 40 = .ok (.i2l, 1) := by decide +kernel
theorem dX1_unmovedLieInside_41 : decode cX1_unmovedLieInside 41 = .ok (.lcmp, 1) := by decide +kernel
theorem dX1_unmovedLieInside_42 : decode cX1_unmovedLieInside 42 = .ok (.ifCond .le 5, 3) := by decide +kernel
theorem dX1_unmovedLieInside_45 : decode cX1_unmovedLieInside 45 = .ok (.iconst 0, 1) := by decide +kernel
theorem dX1_unmovedLieInside_46 : decode cX1_unmovedLieInside 46 = .ok (.ireturn, 1) := by decide +kernel
theorem dX1_unmovedLieInside_47 : decode cX1_unmovedLieInside 47 = .ok (.iinc 4 1, 3) := by decide +kernel
theorem dX1_unmovedLieInside_50 : decode cX1_unmovedLieInside 50 = .ok (.goto (-41), 3) := by decide +kernel
theorem dX1_unmovedLieInside_53 : decode cX1_unmovedLieInside 53 = .ok (.iconst 1, 1) := by decide +kernel
theorem dX1_unmovedLieInside_54 : decode cX1_unmovedLieInside 54 = .ok (.ireturn, 1) := by decide +kernel
theorem dX1_countFrom_0 : decode cX1_countFrom 0 = .ok (.iload_n 1, 1) := by decide +kernel
theorem dX1_countFrom_1 : decode cX1_countFrom 1 = .ok (.aload_n 0, 1) := by decide +kernel
theorem dX1_countFrom_2 : decode cX1_countFrom 2 = .ok (.invokevirtual 66, 3) := by decide +kernel
theorem dX1_countFrom_5 : decode cX1_countFrom 5 = .ok (.if_icmp .lt 5, 3) := by decide +kernel
theorem dX1_countFrom_8 : decode cX1_countFrom 8 = .ok (.lconst 1, 1) := by decide +kernel
theorem dX1_countFrom_9 : decode cX1_countFrom 9 = .ok (.lreturn, 1) := by decide +kernel
theorem dX1_countFrom_10 : decode cX1_countFrom 10 = .ok (.aload_n 0, 1) := by decide +kernel
theorem dX1_countFrom_11 : decode cX1_countFrom 11 = .ok (.iload_n 1, 1) := by decide +kernel
theorem dX1_countFrom_12 : decode cX1_countFrom 12 = .ok (.iload_n 2, 1) := by decide +kernel
theorem dX1_countFrom_13 : decode cX1_countFrom 13 = .ok (.iload_n 3, 1) := by decide +kernel
theorem dX1_countFrom_14 : decode cX1_countFrom 14 = .ok (.invokevirtual 161, 3) := by decide +kernel
theorem dX1_countFrom_17 : decode cX1_countFrom 17 = .ok (.lstore 4, 2) := by decide +kernel
theorem dX1_countFrom_19 : decode cX1_countFrom 19 = .ok (.aload_n 0, 1) := by decide +kernel
theorem dX1_countFrom_20 : decode cX1_countFrom 20 = .ok (.iload_n 1, 1) := by decide +kernel
theorem dX1_countFrom_21 : decode cX1_countFrom 21 = .ok (.iload_n 2, 1) := by decide +kernel
theorem dX1_countFrom_22 : decode cX1_countFrom 22 = .ok (.iload_n 3, 1) := by decide +kernel
theorem dX1_countFrom_23 : decode cX1_countFrom 23 = .ok (.invokevirtual 164, 3) := by decide +kernel
theorem dX1_countFrom_26 : decode cX1_countFrom 26 = .ok (.lstore 6, 2) := by decide +kernel
theorem dX1_countFrom_28 : decode cX1_countFrom 28 = .ok (.lload 6, 2) := by decide +kernel
theorem dX1_countFrom_30 : decode cX1_countFrom 30 = .ok (.lload 4, 2) := by decide +kernel
theorem dX1_countFrom_32 : decode cX1_countFrom 32 = .ok (.lcmp, 1) := by decide +kernel
theorem dX1_countFrom_33 : decode cX1_countFrom 33 = .ok (.ifCond .ge 5, 3) := by decide +kernel
theorem dX1_countFrom_36 : decode cX1_countFrom 36 = .ok (.lconst 0, 1) := by decide +kernel
theorem dX1_countFrom_37 : decode cX1_countFrom 37 = .ok (.lreturn, 1) := by decide +kernel
theorem dX1_countFrom_38 : decode cX1_countFrom 38 = .ok (.aload_n 0, 1) := by decide +kernel
theorem dX1_countFrom_39 : decode cX1_countFrom 39 = .ok (.iload_n 1, 1) := by decide +kernel
theorem dX1_countFrom_40 : decode cX1_countFrom 40 = .ok (.invokevirtual 167, 3) := by decide +kernel
theorem dX1_countFrom_43 : decode cX1_countFrom 43 = .ok (.ifCond .eq 27, 3) := by decide +kernel
theorem dX1_countFrom_46 : decode cX1_countFrom 46 = .ok (.aload_n 0, 1) := by decide +kernel
theorem dX1_countFrom_47 : decode cX1_countFrom 47 = .ok (.iload_n 1, 1) := by decide +kernel
theorem dX1_countFrom_48 : decode cX1_countFrom 48 = .ok (.lconst 0, 1) := by decide +kernel
theorem dX1_countFrom_49 : decode cX1_countFrom 49 = .ok (.invokevirtual 170, 3) := by decide +kernel
theorem dX1_countFrom_52 : decode cX1_countFrom 52 = .ok (.lload 6, 2) := by decide +kernel
theorem dX1_countFrom_54 : decode cX1_countFrom 54 = .ok (.lload 4, 2) := by decide +kernel
theorem dX1_countFrom_56 : decode cX1_countFrom 56 = .ok (.lsub, 1) := by decide +kernel
theorem dX1_countFrom_57 : decode cX1_countFrom 57 = .ok (.lconst 1, 1) := by decide +kernel
theorem dX1_countFrom_58 : decode cX1_countFrom 58 = .ok (.ladd, 1) := by decide +kernel
theorem dX1_countFrom_59 : decode cX1_countFrom 59 = .ok (.aload_n 0, 1) := by decide +kernel
theorem dX1_countFrom_60 : decode cX1_countFrom 60 = .ok (.iload_n 1, 1) := by decide +kernel
theorem dX1_countFrom_61 : decode cX1_countFrom 61 = .ok (.iconst 1, 1) := by decide +kernel
theorem dX1_countFrom_62 : decode cX1_countFrom 62 = .ok (.iadd, 1) := by decide +kernel
theorem dX1_countFrom_63 : decode cX1_countFrom 63 = .ok (.iload_n 2, 1) := by decide +kernel
theorem dX1_countFrom_64 : decode cX1_countFrom 64 = .ok (.iload_n 3, 1) := by decide +kernel
theorem dX1_countFrom_65 : decode cX1_countFrom 65 = .ok (.invokevirtual 100, 3) := by decide +kernel
theorem dX1_countFrom_68 : decode cX1_countFrom 68 = .ok (.lmul, 1) := by decide +kernel
theorem dX1_countFrom_69 : decode cX1_countFrom 69 = .ok (.lreturn, 1) := by decide +kernel
theorem dX1_countFrom_70 : decode cX1_countFrom 70 = .ok (.lconst 0, 1) := by decide +kernel
theorem dX1_countFrom_71 : decode cX1_countFrom 71 = .ok (.lstore 8, 2) := by decide +kernel
theorem dX1_countFrom_73 : decode cX1_countFrom 73 = .ok (.lload 4, 2) := by decide +kernel
theorem dX1_countFrom_75 : decode cX1_countFrom 75 = .ok (.lstore 10, 2) := by decide +kernel
theorem dX1_countFrom_77 : decode cX1_countFrom 77 = .ok (.lload 10, 2) := by decide +kernel
theorem dX1_countFrom_79 : decode cX1_countFrom 79 = .ok (.lload 6, 2) := by decide +kernel
theorem dX1_countFrom_81 : decode cX1_countFrom 81 = .ok (.lcmp, 1) := by decide +kernel
theorem dX1_countFrom_82 : decode cX1_countFrom 82 = .ok (.ifCond .gt 33, 3) := by decide +kernel
theorem dX1_countFrom_85 : decode cX1_countFrom 85 = .ok (.aload_n 0, 1) := by decide +kernel
theorem dX1_countFrom_86 : decode cX1_countFrom 86 = .ok (.iload_n 1, 1) := by decide +kernel
theorem dX1_countFrom_87 : decode cX1_countFrom 87 = .ok (.lload 10, 2) := by decide +kernel
theorem dX1_countFrom_89 : decode cX1_countFrom 89 = .ok (.invokevirtual 170, 3) := by decide +kernel
theorem dX1_countFrom_92 : decode cX1_countFrom 92 = .ok (.lload 8, 2) := by decide +kernel
theorem dX1_countFrom_94 : decode cX1_countFrom 94 = .ok (.aload_n 0, 1) := by decide +kernel
theorem dX1_countFrom_95 : decode cX1_countFrom 95 = .ok (.iload_n 1, 1) := by decide +kernel
theorem dX1_countFrom_96 : decode cX1_countFrom 96 = .ok (.iconst 1, 1) := by decide +kernel
theorem dX1_countFrom_97 : decode cX1_countFrom 97 = .ok (.iadd, 1) := by decide +kernel
theorem dX1_countFrom_98 : decode cX1_countFrom 98 = .ok (.iload_n 2, 1) := by decide +kernel
theorem dX1_countFrom_99 : decode cX1_countFrom 99 = .ok (.iload_n 3, 1) := by decide +kernel
theorem dX1_countFrom_100 : decode cX1_countFrom 100 = .ok (.invokevirtual 100, 3) := by decide +kernel
theorem dX1_countFrom_103 : decode cX1_countFrom 103 = .ok (.ladd, 1) := by decide +kernel
theorem dX1_countFrom_104 : decode cX1_countFrom 104 = .ok (.lstore 8, 2) := by decide +kernel
theorem dX1_countFrom_106 : decode cX1_countFrom 106 = .ok (.lload 10, 2) := by decide +kernel
theorem dX1_countFrom_108 : decode cX1_countFrom 108 = .ok (.lconst 1, 1) := by decide +kernel
theorem dX1_countFrom_109 : decode cX1_countFrom 109 = .ok (.ladd, 1) := by decide +kernel
theorem dX1_countFrom_110 : decode cX1_countFrom 110 = .ok (.lstore 10, 2) := by decide +kernel
theorem dX1_countFrom_112 : decode cX1_countFrom 112 = .ok (.goto (-35), 3) := by decide +kernel
theorem dX1_countFrom_115 : decode cX1_countFrom 115 = .ok (.lload 8, 2) := by decide +kernel
theorem dX1_countFrom_117 : decode cX1_countFrom 117 = .ok (.lreturn, 1) := by decide +kernel
theorem dX1_leastTurns_0 : decode cX1_leastTurns 0 = .ok (.aload_n 0, 1) := by decide +kernel
theorem dX1_leastTurns_1 : decode cX1_leastTurns 1 = .ok (.iload_n 1, 1) := by decide +kernel
theorem dX1_leastTurns_2 : decode cX1_leastTurns 2 = .ok (.iconst 1, 1) := by decide +kernel
theorem dX1_leastTurns_3 : decode cX1_leastTurns 3 = .ok (.iadd, 1) := by decide +kernel
theorem dX1_leastTurns_4 : decode cX1_leastTurns 4 = .ok (.invokevirtual 158, 3) := by decide +kernel
theorem dX1_leastTurns_7 : decode cX1_leastTurns 7 = .ok (.istore 4, 2) := by decide +kernel
theorem dX1_leastTurns_9 : decode cX1_leastTurns 9 = .ok (.ldc2_w 70, 3) := by decide +kernel
theorem dX1_leastTurns_12 : decode cX1_leastTurns 12 = .ok (.lstore 5, 2) := by decide +kernel
theorem dX1_leastTurns_14 : decode cX1_leastTurns 14 = .ok (.aload_n 0, 1) := by decide +kernel
theorem dX1_leastTurns_15 : decode cX1_leastTurns 15 = .ok (.iload_n 1, 1) := by decide +kernel
theorem dX1_leastTurns_16 : decode cX1_leastTurns 16 = .ok (.invokevirtual 158, 3) := by decide +kernel
theorem dX1_leastTurns_19 : decode cX1_leastTurns 19 = .ok (.istore 7, 2) := by decide +kernel
theorem dX1_leastTurns_21 : decode cX1_leastTurns 21 = .ok (.iload 7, 2) := by decide +kernel
theorem dX1_leastTurns_23 : decode cX1_leastTurns 23 = .ok (.iload 4, 2) := by decide +kernel
theorem dX1_leastTurns_25 : decode cX1_leastTurns 25 = .ok (.if_icmp .ge 93, 3) := by decide +kernel
theorem dX1_leastTurns_28 : decode cX1_leastTurns 28 = .ok (.aload_n 0, 1) := by decide +kernel
theorem dX1_leastTurns_29 : decode cX1_leastTurns 29 = .ok (.iload_n 1, 1) := by decide +kernel
theorem dX1_leastTurns_30 : decode cX1_leastTurns 30 = .ok (.iload 7, 2) := by decide +kernel
theorem dX1_leastTurns_32 : decode cX1_leastTurns 32 = .ok (.invokevirtual 72, 3) := by decide +kernel
theorem dX1_leastTurns_35 : decode cX1_leastTurns 35 = .ok (.lstore 8, 2) := by decide +kernel
theorem dX1_leastTurns_37 : decode cX1_leastTurns 37 = .ok (.aload_n 0, 1) := by decide +kernel
theorem dX1_leastTurns_38 : decode cX1_leastTurns 38 = .ok (.getfield 39, 3) := by decide +kernel
theorem dX1_leastTurns_41 : decode cX1_leastTurns 41 = .ok (.iload_n 1, 1) := by decide +kernel
theorem dX1_leastTurns_42 : decode cX1_leastTurns 42 = .ok (.aaload, 1) := by decide +kernel
theorem dX1_leastTurns_43 : decode cX1_leastTurns 43 = .ok (.iload 7, 2) := by decide +kernel
theorem dX1_leastTurns_45 : decode cX1_leastTurns 45 = .ok (.laload, 1) := by decide +kernel
theorem dX1_leastTurns_46 : decode cX1_leastTurns 46 = .ok (.lstore 10, 2) := by decide +kernel
theorem dX1_leastTurns_48 : decode cX1_leastTurns 48 = .ok (.lload 8, 2) := by decide +kernel
theorem dX1_leastTurns_50 : decode cX1_leastTurns 50 = .ok (.lconst 0, 1) := by decide +kernel
theorem dX1_leastTurns_51 : decode cX1_leastTurns 51 = .ok (.lcmp, 1) := by decide +kernel
theorem dX1_leastTurns_52 : decode cX1_leastTurns 52 = .ok (.ifCond .eq 39, 3) := by decide +kernel
theorem dX1_leastTurns_55 : decode cX1_leastTurns 55 = .ok (.lload 8, 2) := by decide +kernel
theorem dX1_leastTurns_57 : decode cX1_leastTurns 57 = .ok (.lconst 0, 1) := by decide +kernel
theorem dX1_leastTurns_58 : decode cX1_leastTurns 58 = .ok (.lcmp, 1) := by decide +kernel
theorem dX1_leastTurns_59 : decode cX1_leastTurns 59 = .ok (.ifCond .le 7, 3) := by decide +kernel
theorem dX1_leastTurns_62 : decode cX1_leastTurns 62 = .ok (.iload_n 2, 1) := by decide +kernel
theorem dX1_leastTurns_63 : decode cX1_leastTurns 63 = .ok (.goto 4, 3) := by decide +kernel
theorem dX1_leastTurns_66 : decode cX1_leastTurns 66 = .ok (.iload_n 3, 1) := by decide +kernel
theorem dX1_leastTurns_67 : decode cX1_leastTurns 67 = .ok (.istore 12, 2) := by decide +kernel
theorem dX1_leastTurns_69 : decode cX1_leastTurns 69 = .ok (.lload 5, 2) := by decide +kernel
theorem dX1_leastTurns_71 : decode cX1_leastTurns 71 = .ok (.lload 10, 2) := by decide +kernel
theorem dX1_leastTurns_73 : decode cX1_leastTurns 73 = .ok (.iload 12, 2) := by decide +kernel
theorem dX1_leastTurns_75 : decode cX1_leastTurns 75 = .ok (.i2l, 1) := by decide +kernel
theorem dX1_leastTurns_76 : decode cX1_leastTurns 76 = .ok (.lsub, 1) := by decide +kernel
theorem dX1_leastTurns_77 : decode cX1_leastTurns 77 = .ok (.lload 8, 2) := by decide +kernel
theorem dX1_leastTurns_79 : decode cX1_leastTurns 79 = .ok (.invokestatic 174, 3) := by decide +kernel
theorem dX1_leastTurns_82 : decode cX1_leastTurns 82 = .ok (.lneg, 1) := by decide +kernel
theorem dX1_leastTurns_83 : decode cX1_leastTurns 83 = .ok (.invokestatic 177, 3) := by decide +kernel
theorem dX1_leastTurns_86 : decode cX1_leastTurns 86 = .ok (.lstore 5, 2) := by decide +kernel
theorem dX1_leastTurns_88 : decode cX1_leastTurns 88 = .ok (.goto 24, 3) := by decide +kernel
theorem dX1_leastTurns_91 : decode cX1_leastTurns 91 = .ok (.lload 10, 2) := by decide +kernel
theorem dX1_leastTurns_93 : decode cX1_leastTurns 93 = .ok (.iload_n 2, 1) := by decide +kernel
theorem dX1_leastTurns_94 : decode cX1_leastTurns 94 = .ok (.i2l, 1) := by decide +kernel
theorem dX1_leastTurns_95 : decode cX1_leastTurns 95 = .ok (.lcmp, 1) := by decide +kernel
theorem dX1_leastTurns_96 : decode cX1_leastTurns 96 = .ok (.ifCond .lt 11, 3) := by decide +kernel
theorem dX1_leastTurns_99 : decode cX1_leastTurns 99 = .ok (.lload 10, 2) := by decide +kernel
theorem dX1_leastTurns_101 : decode cX1_leastTurns 101 = .ok (.iload_n 3, 1) := by decide +kernel
theorem dX1_leastTurns_102 : decode cX1_leastTurns 102 = .ok (.i2l, 1) := by decide +kernel
theorem dX1_leastTurns_103 : decode cX1_leastTurns 103 = .ok (.lcmp, 1) := by decide +kernel
theorem dX1_leastTurns_104 : decode cX1_leastTurns 104 = .ok (.ifCond .le 8, 3) := by decide +kernel
theorem dX1_leastTurns_107 : decode cX1_leastTurns 107 = .ok (.ldc2_w 180, 3) := by decide +kernel
theorem dX1_leastTurns_110 : decode cX1_leastTurns 110 = .ok (.lstore 5, 2) := by decide +kernel
theorem dX1_leastTurns_112 : decode cX1_leastTurns 112 = .ok (.iinc 7 1, 3) := by decide +kernel
theorem dX1_leastTurns_115 : decode cX1_leastTurns 115 = .ok (.goto (-94), 3) := by decide +kernel
theorem dX1_leastTurns_118 : decode cX1_leastTurns 118 = .ok (.lload 5, 2) := by decide +kernel
theorem dX1_leastTurns_120 : decode cX1_leastTurns 120 = .ok (.lreturn, 1) := by decide +kernel
theorem dX1_mostTurns_0 : decode cX1_mostTurns 0 = .ok (.aload_n 0, 1) := by decide +kernel
theorem dX1_mostTurns_1 : decode cX1_mostTurns 1 = .ok (.iload_n 1, 1) := by decide +kernel
theorem dX1_mostTurns_2 : decode cX1_mostTurns 2 = .ok (.iconst 1, 1) := by decide +kernel
theorem dX1_mostTurns_3 : decode cX1_mostTurns 3 = .ok (.iadd, 1) := by decide +kernel
theorem dX1_mostTurns_4 : decode cX1_mostTurns 4 = .ok (.invokevirtual 158, 3) := by decide +kernel
theorem dX1_mostTurns_7 : decode cX1_mostTurns 7 = .ok (.istore 4, 2) := by decide +kernel
theorem dX1_mostTurns_9 : decode cX1_mostTurns 9 = .ok (.ldc2_w 182, 3) := by decide +kernel
theorem dX1_mostTurns_12 : decode cX1_mostTurns 12 = .ok (.lstore 5, 2) := by decide +kernel
theorem dX1_mostTurns_14 : decode cX1_mostTurns 14 = .ok (.aload_n 0, 1) := by decide +kernel
theorem dX1_mostTurns_15 : decode cX1_mostTurns 15 = .ok (.iload_n 1, 1) := by decide +kernel
theorem dX1_mostTurns_16 : decode cX1_mostTurns 16 = .ok (.invokevirtual 158, 3) := by decide +kernel
theorem dX1_mostTurns_19 : decode cX1_mostTurns 19 = .ok (.istore 7, 2) := by decide +kernel
theorem dX1_mostTurns_21 : decode cX1_mostTurns 21 = .ok (.iload 7, 2) := by decide +kernel
theorem dX1_mostTurns_23 : decode cX1_mostTurns 23 = .ok (.iload 4, 2) := by decide +kernel
theorem dX1_mostTurns_25 : decode cX1_mostTurns 25 = .ok (.if_icmp .ge 64, 3) := by decide +kernel
theorem dX1_mostTurns_28 : decode cX1_mostTurns 28 = .ok (.aload_n 0, 1) := by decide +kernel
theorem dX1_mostTurns_29 : decode cX1_mostTurns 29 = .ok (.iload_n 1, 1) := by decide +kernel
theorem dX1_mostTurns_30 : decode cX1_mostTurns 30 = .ok (.iload 7, 2) := by decide +kernel
theorem dX1_mostTurns_32 : decode cX1_mostTurns 32 = .ok (.invokevirtual 72, 3) := by decide +kernel
theorem dX1_mostTurns_35 : decode cX1_mostTurns 35 = .ok (.lstore 8, 2) := by decide +kernel
theorem dX1_mostTurns_37 : decode cX1_mostTurns 37 = .ok (.lload 8, 2) := by decide +kernel
theorem dX1_mostTurns_39 : decode cX1_mostTurns 39 = .ok (.lconst 0, 1) := by decide +kernel
theorem dX1_mostTurns_40 : decode cX1_mostTurns 40 = .ok (.lcmp, 1) := by decide +kernel
theorem dX1_mostTurns_41 : decode cX1_mostTurns 41 = .ok (.ifCond .eq 42, 3) := by decide +kernel
theorem dX1_mostTurns_44 : decode cX1_mostTurns 44 = .ok (.lload 8, 2) := by decide +kernel
theorem dX1_mostTurns_46 : decode cX1_mostTurns 46 = .ok (.lconst 0, 1) := by decide +kernel
theorem dX1_mostTurns_47 : decode cX1_mostTurns 47 = .ok (.lcmp, 1) := by decide +kernel
theorem dX1_mostTurns_48 : decode cX1_mostTurns 48 = .ok (.ifCond .le 7, 3) := by decide +kernel
theorem dX1_mostTurns_51 : decode cX1_mostTurns 51 = .ok (.iload_n 3, 1) := by decide +kernel
theorem dX1_mostTurns_52 : decode cX1_mostTurns 52 = .ok (.goto 4, 3) := by decide +kernel
theorem dX1_mostTurns_55 : decode cX1_mostTurns 55 = .ok (.iload_n 2, 1) := by decide +kernel
theorem dX1_mostTurns_56 : decode cX1_mostTurns 56 = .ok (.istore 10, 2) := by decide +kernel
theorem dX1_mostTurns_58 : decode cX1_mostTurns 58 = .ok (.lload 5, 2) := by decide +kernel
theorem dX1_mostTurns_60 : decode cX1_mostTurns 60 = .ok (.iload 10, 2) := by decide +kernel
theorem dX1_mostTurns_62 : decode cX1_mostTurns 62 = .ok (.i2l, 1) := by decide +kernel
theorem dX1_mostTurns_63 : decode cX1_mostTurns 63 = .ok (.aload_n 0, 1) := by decide +kernel
theorem dX1_mostTurns_64 : decode cX1_mostTurns 64 = .ok (.getfield 39, 3) := by decide +kernel
theorem dX1_mostTurns_67 : decode cX1_mostTurns 67 = .ok (.iload_n 1, 1) := by decide +kernel
theorem dX1_mostTurns_68 : decode cX1_mostTurns 68 = .ok (.aaload, 1) := by decide +kernel
theorem dX1_mostTurns_69 : decode cX1_mostTurns 69 = .ok (.iload 7, 2) := by decide +kernel
theorem dX1_mostTurns_71 : decode cX1_mostTurns 71 = .ok (.laload, 1) := by decide +kernel
theorem dX1_mostTurns_72 : decode cX1_mostTurns 72 = .ok (.lsub, 1) := by decide +kernel
theorem dX1_mostTurns_73 : decode cX1_mostTurns 73 = .ok (.lload 8, 2) := by decide +kernel
theorem dX1_mostTurns_75 : decode cX1_mostTurns 75 = .ok (.invokestatic 174, 3) := by decide +kernel
theorem dX1_mostTurns_78 : decode cX1_mostTurns 78 = .ok (.invokestatic 184, 3) := by decide +kernel
theorem dX1_mostTurns_81 : decode cX1_mostTurns 81 = .ok (.lstore 5, 2) := by decide +kernel
theorem dX1_mostTurns_83 : decode cX1_mostTurns 83 = .ok (.iinc 7 1, 3) := by decide +kernel
theorem dX1_mostTurns_86 : decode cX1_mostTurns 86 = .ok (.goto (-65), 3) := by decide +kernel
theorem dX1_mostTurns_89 : decode cX1_mostTurns 89 = .ok (.lload 5, 2) := by decide +kernel
theorem dX1_mostTurns_91 : decode cX1_mostTurns 91 = .ok (.lreturn, 1) := by decide +kernel
theorem dX1_leavesLaterUnknowns_0 : decode cX1_leavesLaterUnknowns 0 = .ok (.aload_n 0, 1) := by decide +kernel
theorem dX1_leavesLaterUnknowns_1 : decode cX1_leavesLaterUnknowns 1 = .ok (.iload_n 1, 1) := by decide +kernel
theorem dX1_leavesLaterUnknowns_2 : decode cX1_leavesLaterUnknowns 2 = .ok (.iconst 1, 1) := by decide +kernel
theorem dX1_leavesLaterUnknowns_3 : decode cX1_leavesLaterUnknowns 3 = .ok (.iadd, 1) := by decide +kernel
theorem dX1_leavesLaterUnknowns_4 : decode cX1_leavesLaterUnknowns 4 = .ok (.invokevirtual 158, 3) := by decide +kernel
theorem dX1_leavesLaterUnknowns_7 : decode cX1_leavesLaterUnknowns 7 = .ok (.istore_n 2, 1) := by decide +kernel
theorem dX1_leavesLaterUnknowns_8 : decode cX1_leavesLaterUnknowns 8 = .ok (.iload_n 2, 1) := by decide +kernel
theorem dX1_leavesLaterUnknowns_9 : decode cX1_leavesLaterUnknowns 9 = .ok (.aload_n 0, 1) := by decide +kernel
theorem dX1_leavesLaterUnknowns_10 : decode cX1_leavesLaterUnknowns 10 = .ok (.getfield 42, 3) := by decide +kernel
theorem dX1_leavesLaterUnknowns_13 : decode cX1_leavesLaterUnknowns 13 = .ok (.if_icmp .ge 22, 3) := by decide +kernel
theorem dX1_leavesLaterUnknowns_16 : decode cX1_leavesLaterUnknowns 16 = .ok (.aload_n 0, 1) := by decide +kernel
theorem dX1_leavesLaterUnknowns_17 : decode cX1_leavesLaterUnknowns 17 = .ok (.iload_n 1, 1) := by decide +kernel
theorem dX1_leavesLaterUnknowns_18 : decode cX1_leavesLaterUnknowns 18 = .ok (.iload_n 2, 1) := by decide +kernel
theorem dX1_leavesLaterUnknowns_19 : decode cX1_leavesLaterUnknowns 19 = .ok (.invokevirtual 72, 3) := by decide +kernel
theorem dX1_leavesLaterUnknowns_22 : decode cX1_leavesLaterUnknowns 22 = .ok (.lconst 0, 1) := by decide +kernel
theorem dX1_leavesLaterUnknowns_23 : decode cX1_leavesLaterUnknowns 23 = .ok (.lcmp, 1) := by decide +kernel
theorem dX1_leavesLaterUnknowns_24 : decode cX1_leavesLaterUnknowns 24 = .ok (.ifCond .eq 5, 3) := by decide +kernel
theorem dX1_leavesLaterUnknowns_27 : decode cX1_leavesLaterUnknowns 27 = .ok (.iconst 0, 1) := by decide +kernel
theorem dX1_leavesLaterUnknowns_28 : decode cX1_leavesLaterUnknowns 28 = .ok (.ireturn, 1) := by decide +kernel
theorem dX1_leavesLaterUnknowns_29 : decode cX1_leavesLaterUnknowns 29 = .ok (.iinc 2 1, 3) := by decide +kernel
theorem dX1_leavesLaterUnknowns_32 : decode cX1_leavesLaterUnknowns 32 = .ok (.goto (-24), 3) := by decide +kernel
theorem dX1_leavesLaterUnknowns_35 : decode cX1_leavesLaterUnknowns 35 = .ok (.iconst 1, 1) := by decide +kernel
theorem dX1_leavesLaterUnknowns_36 : decode cX1_leavesLaterUnknowns 36 = .ok (.ireturn, 1) := by decide +kernel
theorem dX1_turn_0 : decode cX1_turn 0 = .ok (.iconst 0, 1) := by decide +kernel
theorem dX1_turn_1 : decode cX1_turn 1 = .ok (.istore 4, 2) := by decide +kernel
theorem dX1_turn_3 : decode cX1_turn 3 = .ok (.iload 4, 2) := by decide +kernel
theorem dX1_turn_5 : decode cX1_turn 5 = .ok (.aload_n 0, 1) := by decide +kernel
theorem dX1_turn_6 : decode cX1_turn 6 = .ok (.getfield 42, 3) := by decide +kernel
theorem dX1_turn_9 : decode cX1_turn 9 = .ok (.if_icmp .ge 39, 3) := by decide +kernel
theorem dX1_turn_12 : decode cX1_turn 12 = .ok (.aload_n 0, 1) := by decide +kernel
theorem dX1_turn_13 : decode cX1_turn 13 = .ok (.getfield 39, 3) := by decide +kernel
theorem dX1_turn_16 : decode cX1_turn 16 = .ok (.iload_n 1, 1) := by decide +kernel
theorem dX1_turn_17 : decode cX1_turn 17 = .ok (.iconst 1, 1) := by decide +kernel
theorem dX1_turn_18 : decode cX1_turn 18 = .ok (.iadd, 1) := by decide +kernel
theorem dX1_turn_19 : decode cX1_turn 19 = .ok (.aaload, 1) := by decide +kernel
theorem dX1_turn_20 : decode cX1_turn 20 = .ok (.iload 4, 2) := by decide +kernel
theorem dX1_turn_22 : decode cX1_turn 22 = .ok (.aload_n 0, 1) := by decide +kernel
theorem dX1_turn_23 : decode cX1_turn 23 = .ok (.getfield 39, 3) := by decide +kernel
theorem dX1_turn_26 : decode cX1_turn 26 = .ok (.iload_n 1, 1) := by decide +kernel
theorem dX1_turn_27 : decode cX1_turn 27 = .ok (.aaload, 1) := by decide +kernel
theorem dX1_turn_28 : decode cX1_turn 28 = .ok (.iload 4, 2) := by decide +kernel
theorem dX1_turn_30 : decode cX1_turn 30 = .ok (.laload, 1) := by decide +kernel
theorem dX1_turn_31 : decode cX1_turn 31 = .ok (.lload_n 2, 1) := by decide +kernel
theorem dX1_turn_32 : decode cX1_turn 32 = .ok (.aload_n 0, 1) := by decide +kernel
theorem dX1_turn_33 : decode cX1_turn 33 = .ok (.iload_n 1, 1) := by decide +kernel
theorem dX1_turn_34 : decode cX1_turn 34 = .ok (.iload 4, 2) := by decide +kernel
theorem dX1_turn_36 : decode cX1_turn 36 = .ok (.invokevirtual 72, 3) := by decide +kernel
theorem dX1_turn_39 : decode cX1_turn 39 = .ok (.lmul, 1) := by decide +kernel
theorem dX1_turn_40 : decode cX1_turn 40 = .ok (.ladd, 1) := by decide +kernel
theorem dX1_turn_41 : decode cX1_turn 41 = .ok (.lastore, 1) := by decide +kernel
theorem dX1_turn_42 : decode cX1_turn 42 = .ok (.iinc 4 1, 3) := by decide +kernel
theorem dX1_turn_45 : decode cX1_turn 45 = .ok (.goto (-42), 3) := by decide +kernel
theorem dX1_turn_48 : decode cX1_turn 48 = .ok (.return_, 1) := by decide +kernel
theorem dX1_formRemainders_0 : decode cX1_formRemainders 0 = .ok (.aload_n 0, 1) := by decide +kernel
theorem dX1_formRemainders_1 : decode cX1_formRemainders 1 = .ok (.getfield 27, 3) := by decide +kernel
theorem dX1_formRemainders_4 : decode cX1_formRemainders 4 = .ok (.aload_n 0, 1) := by decide +kernel
theorem dX1_formRemainders_5 : decode cX1_formRemainders 5 = .ok (.getfield 76, 3) := by decide +kernel
theorem dX1_formRemainders_8 : decode cX1_formRemainders 8 = .ok (.aload_n 0, 1) := by decide +kernel
theorem dX1_formRemainders_9 : decode cX1_formRemainders 9 = .ok (.getfield 46, 3) := by decide +kernel
theorem dX1_formRemainders_12 : decode cX1_formRemainders 12 = .ok (.iadd, 1) := by decide +kernel
theorem dX1_formRemainders_13 : decode cX1_formRemainders 13 = .ok (.aload_n 0, 1) := by decide +kernel
theorem dX1_formRemainders_14 : decode cX1_formRemainders 14 = .ok (.getfield 46, 3) := by decide +kernel
theorem dX1_formRemainders_17 : decode cX1_formRemainders 17 = .ok (.invokevirtual 128, 3) := by decide +kernel
theorem dX1_formRemainders_20 : decode cX1_formRemainders 20 = .ok (.iconst 0, 1) := by decide +kernel
theorem dX1_formRemainders_21 : decode cX1_formRemainders 21 = .ok (.istore_n 2, 1) := by decide +kernel
theorem dX1_formRemainders_22 : decode cX1_formRemainders 22 = .ok (.iload_n 2, 1) := by decide +kernel
theorem dX1_formRemainders_23 : decode cX1_formRemainders 23 = .ok (.aload_n 0, 1) := by decide +kernel
theorem dX1_formRemainders_24 : decode cX1_formRemainders 24 = .ok (.getfield 46, 3) := by decide +kernel
theorem dX1_formRemainders_27 : decode cX1_formRemainders 27 = .ok (.if_icmp .ge 59, 3) := by decide +kernel
theorem dX1_formRemainders_30 : decode cX1_formRemainders 30 = .ok (.iconst 0, 1) := by decide +kernel
theorem dX1_formRemainders_31 : decode cX1_formRemainders 31 = .ok (.istore_n 3, 1) := by decide +kernel
theorem dX1_formRemainders_32 : decode cX1_formRemainders 32 = .ok (.iload_n 3, 1) := by decide +kernel
theorem dX1_formRemainders_33 : decode cX1_formRemainders 33 = .ok (.aload_n 0, 1) := by decide +kernel
theorem dX1_formRemainders_34 : decode cX1_formRemainders 34 = .ok (.getfield 76, 3) := by decide +kernel
theorem dX1_formRemainders_37 : decode cX1_formRemainders 37 = .ok (.if_icmp .ge 27, 3) := by decide +kernel
theorem dX1_formRemainders_40 : decode cX1_formRemainders 40 = .ok (.aload_n 0, 1) := by decide +kernel
theorem dX1_formRemainders_41 : decode cX1_formRemainders 41 = .ok (.getfield 27, 3) := by decide +kernel
theorem dX1_formRemainders_44 : decode cX1_formRemainders 44 = .ok (.iload_n 3, 1) := by decide +kernel
theorem dX1_formRemainders_45 : decode cX1_formRemainders 45 = .ok (.iload_n 2, 1) := by decide +kernel
theorem dX1_formRemainders_46 : decode cX1_formRemainders 46 = .ok (.aload_n 0, 1) := by decide +kernel
theorem dX1_formRemainders_47 : decode cX1_formRemainders 47 = .ok (.getfield 23, 3) := by decide +kernel
theorem dX1_formRemainders_50 : decode cX1_formRemainders 50 = .ok (.iload_n 3, 1) := by decide +kernel
theorem dX1_formRemainders_51 : decode cX1_formRemainders 51 = .ok (.iload_n 2, 1) := by decide +kernel
theorem dX1_formRemainders_52 : decode cX1_formRemainders 52 = .ok (.invokevirtual 79, 3) := by decide +kernel
theorem dX1_formRemainders_55 : decode cX1_formRemainders 55 = .ok (.invokevirtual 131, 3) := by decide +kernel
theorem dX1_formRemainders_58 : decode cX1_formRemainders 58 = .ok (.iinc 3 1, 3) := by decide +kernel
theorem dX1_formRemainders_61 : decode cX1_formRemainders 61 = .ok (.goto (-29), 3) := by decide +kernel
theorem dX1_formRemainders_64 : decode cX1_formRemainders 64 = .ok (.aload_n 0, 1) := by decide +kernel
theorem dX1_formRemainders_65 : decode cX1_formRemainders 65 = .ok (.getfield 27, 3) := by decide +kernel
theorem dX1_formRemainders_68 : decode cX1_formRemainders 68 = .ok (.aload_n 0, 1) := by decide +kernel
theorem dX1_formRemainders_69 : decode cX1_formRemainders 69 = .ok (.getfield 76, 3) := by decide +kernel
theorem dX1_formRemainders_72 : decode cX1_formRemainders 72 = .ok (.iload_n 2, 1) := by decide +kernel
theorem dX1_formRemainders_73 : decode cX1_formRemainders 73 = .ok (.iadd, 1) := by decide +kernel
theorem dX1_formRemainders_74 : decode cX1_formRemainders 74 = .ok (.iload_n 2, 1) := by decide +kernel
theorem dX1_formRemainders_75 : decode cX1_formRemainders 75 = .ok (.iload_n 1, 1) := by decide +kernel
theorem dX1_formRemainders_76 : decode cX1_formRemainders 76 = .ok (.i2l, 1) := by decide +kernel
theorem dX1_formRemainders_77 : decode cX1_formRemainders 77 = .ok (.invokevirtual 131, 3) := by decide +kernel
theorem dX1_formRemainders_80 : decode cX1_formRemainders 80 = .ok (.iinc 2 1, 3) := by decide +kernel
theorem dX1_formRemainders_83 : decode cX1_formRemainders 83 = .ok (.goto (-61), 3) := by decide +kernel
theorem dX1_formRemainders_86 : decode cX1_formRemainders 86 = .ok (.aload_n 0, 1) := by decide +kernel
theorem dX1_formRemainders_87 : decode cX1_formRemainders 87 = .ok (.getfield 27, 3) := by decide +kernel
theorem dX1_formRemainders_90 : decode cX1_formRemainders 90 = .ok (.invokevirtual 135, 3) := by decide +kernel
theorem dX1_formRemainders_93 : decode cX1_formRemainders 93 = .ok (.return_, 1) := by decide +kernel
theorem dX1_waysToEachSum_0 : decode cX1_waysToEachSum 0 = .ok (.lconst 1, 1) := by decide +kernel
theorem dX1_waysToEachSum_1 : decode cX1_waysToEachSum 1 = .ok (.lstore_n 2, 1) := by decide +kernel
theorem dX1_waysToEachSum_2 : decode cX1_waysToEachSum 2 = .ok (.iconst 0, 1) := by decide +kernel
theorem dX1_waysToEachSum_3 : decode cX1_waysToEachSum 3 = .ok (.istore 4, 2) := by decide +kernel
theorem dX1_waysToEachSum_5 : decode cX1_waysToEachSum 5 = .ok (.iload 4, 2) := by decide +kernel
theorem dX1_waysToEachSum_7 : decode cX1_waysToEachSum 7 = .ok (.aload_n 0, 1) := by decide +kernel
theorem dX1_waysToEachSum_8 : decode cX1_waysToEachSum 8 = .ok (.getfield 42, 3) := by decide +kernel
theorem dX1_waysToEachSum_11 : decode cX1_waysToEachSum 11 = .ok (.if_icmp .ge 14, 3) := by decide +kernel
theorem dX1_waysToEachSum_14 : decode cX1_waysToEachSum 14 = .ok (.lload_n 2, 1) := by decide +kernel
theorem dX1_waysToEachSum_15 : decode cX1_waysToEachSum 15 = .ok (.iload_n 1, 1) := by decide +kernel
theorem dX1_waysToEachSum_16 : decode cX1_waysToEachSum 16 = .ok (.i2l, 1) := by decide +kernel
theorem dX1_waysToEachSum_17 : decode cX1_waysToEachSum 17 = .ok (.lmul, 1) := by decide +kernel
theorem dX1_waysToEachSum_18 : decode cX1_waysToEachSum 18 = .ok (.lstore_n 2, 1) := by decide +kernel
theorem dX1_waysToEachSum_19 : decode cX1_waysToEachSum 19 = .ok (.iinc 4 1, 3) := by decide +kernel
theorem dX1_waysToEachSum_22 : decode cX1_waysToEachSum 22 = .ok (.goto (-17), 3) := by decide +kernel
theorem dX1_waysToEachSum_25 : decode cX1_waysToEachSum 25 = .ok (.lconst 1, 1) := by decide +kernel
theorem dX1_waysToEachSum_26 : decode cX1_waysToEachSum 26 = .ok (.lstore 4, 2) := by decide +kernel
theorem dX1_waysToEachSum_28 : decode cX1_waysToEachSum 28 = .ok (.iconst 0, 1) := by decide +kernel
theorem dX1_waysToEachSum_29 : decode cX1_waysToEachSum 29 = .ok (.istore 6, 2) := by decide +kernel
theorem dX1_waysToEachSum_31 : decode cX1_waysToEachSum 31 = .ok (.iload 6, 2) := by decide +kernel
theorem dX1_waysToEachSum_33 : decode cX1_waysToEachSum 33 = .ok (.aload_n 0, 1) := by decide +kernel
theorem dX1_waysToEachSum_34 : decode cX1_waysToEachSum 34 = .ok (.getfield 46, 3) := by decide +kernel
theorem dX1_waysToEachSum_37 : decode cX1_waysToEachSum 37 = .ok (.if_icmp .ge 30, 3) := by decide +kernel
theorem dX1_waysToEachSum_40 : decode cX1_waysToEachSum 40 = .ok (.lload_n 2, 1) := by decide +kernel
theorem dX1_waysToEachSum_41 : decode cX1_waysToEachSum 41 = .ok (.aload_n 0, 1) := by decide +kernel
theorem dX1_waysToEachSum_42 : decode cX1_waysToEachSum 42 = .ok (.getfield 27, 3) := by decide +kernel
theorem dX1_waysToEachSum_45 : decode cX1_waysToEachSum 45 = .ok (.iload 6, 2) := by decide +kernel
theorem dX1_waysToEachSum_47 : decode cX1_waysToEachSum 47 = .ok (.iload 6, 2) := by decide +kernel
theorem dX1_waysToEachSum_49 : decode cX1_waysToEachSum 49 = .ok (.invokevirtual 79, 3) := by decide +kernel
theorem dX1_waysToEachSum_52 : decode cX1_waysToEachSum 52 = .ok (.lmul, 1) := by decide +kernel
theorem dX1_waysToEachSum_53 : decode cX1_waysToEachSum 53 = .ok (.lstore_n 2, 1) := by decide +kernel
theorem dX1_waysToEachSum_54 : decode cX1_waysToEachSum 54 = .ok (.lload 4, 2) := by decide +kernel
theorem dX1_waysToEachSum_56 : decode cX1_waysToEachSum 56 = .ok (.iload_n 1, 1) := by decide +kernel
theorem dX1_waysToEachSum_57 : decode cX1_waysToEachSum 57 = .ok (.i2l, 1) := by decide +kernel
theorem dX1_waysToEachSum_58 : decode cX1_waysToEachSum 58 = .ok (.lmul, 1) := by decide +kernel
theorem dX1_waysToEachSum_59 : decode cX1_waysToEachSum 59 = .ok (.lstore 4, 2) := by decide +kernel
theorem dX1_waysToEachSum_61 : decode cX1_waysToEachSum 61 = .ok (.iinc 6 1, 3) := by decide +kernel
theorem dX1_waysToEachSum_64 : decode cX1_waysToEachSum 64 = .ok (.goto (-33), 3) := by decide +kernel
theorem dX1_waysToEachSum_67 : decode cX1_waysToEachSum 67 = .ok (.lload 4, 2) := by decide +kernel
theorem dX1_waysToEachSum_69 : decode cX1_waysToEachSum 69 = .ok (.lconst 0, 1) := by decide +kernel
theorem dX1_waysToEachSum_70 : decode cX1_waysToEachSum 70 = .ok (.lcmp, 1) := by decide +kernel
theorem dX1_waysToEachSum_71 : decode cX1_waysToEachSum 71 = .ok (.ifCond .ne 7, 3) := by decide +kernel
theorem dX1_waysToEachSum_74 : decode cX1_waysToEachSum 74 = .ok (.lconst 0, 1) := by decide +kernel
theorem dX1_waysToEachSum_75 : decode cX1_waysToEachSum 75 = .ok (.goto 7, 3) := by decide +kernel
theorem dX1_waysToEachSum_78 : decode cX1_waysToEachSum 78 = .ok (.lload_n 2, 1) := by decide +kernel
theorem dX1_waysToEachSum_79 : decode cX1_waysToEachSum 79 = .ok (.lload 4, 2) := by decide +kernel
theorem dX1_waysToEachSum_81 : decode cX1_waysToEachSum 81 = .ok (.ldiv, 1) := by decide +kernel
theorem dX1_waysToEachSum_82 : decode cX1_waysToEachSum 82 = .ok (.lreturn, 1) := by decide +kernel
theorem dX1_solutionHolds_0 : decode cX1_solutionHolds 0 = .ok (.iconst 0, 1) := by decide +kernel
theorem dX1_solutionHolds_1 : decode cX1_solutionHolds 1 = .ok (.istore_n 1, 1) := by decide +kernel
theorem dX1_solutionHolds_2 : decode cX1_solutionHolds 2 = .ok (.iload_n 1, 1) := by decide +kernel
theorem dX1_solutionHolds_3 : decode cX1_solutionHolds 3 = .ok (.aload_n 0, 1) := by decide +kernel
theorem dX1_solutionHolds_4 : decode cX1_solutionHolds 4 = .ok (.getfield 46, 3) := by decide +kernel
theorem dX1_solutionHolds_7 : decode cX1_solutionHolds 7 = .ok (.if_icmp .ge 31, 3) := by decide +kernel
theorem dX1_solutionHolds_10 : decode cX1_solutionHolds 10 = .ok (.aload_n 0, 1) := by decide +kernel
theorem dX1_solutionHolds_11 : decode cX1_solutionHolds 11 = .ok (.iload_n 1, 1) := by decide +kernel
theorem dX1_solutionHolds_12 : decode cX1_solutionHolds 12 = .ok (.aload_n 0, 1) := by decide +kernel
theorem dX1_solutionHolds_13 : decode cX1_solutionHolds 13 = .ok (.getfield 30, 3) := by decide +kernel
theorem dX1_solutionHolds_16 : decode cX1_solutionHolds 16 = .ok (.invokevirtual 187, 3) := by decide +kernel
theorem dX1_solutionHolds_19 : decode cX1_solutionHolds 19 = .ok (.aload_n 0, 1) := by decide +kernel
theorem dX1_solutionHolds_20 : decode cX1_solutionHolds 20 = .ok (.getfield 14, 3) := by decide +kernel
theorem dX1_solutionHolds_23 : decode cX1_solutionHolds 23 = .ok (.iload_n 1, 1) := by decide +kernel
theorem dX1_solutionHolds_24 : decode cX1_solutionHolds 24 = .ok (.iaload, 1) := by decide +kernel
theorem dX1_solutionHolds_25 : decode cX1_solutionHolds 25 = .ok (.i2l, 1) := by decide +kernel
theorem dX1_solutionHolds_26 : decode cX1_solutionHolds 26 = .ok (.lcmp, 1) := by decide +kernel
theorem dX1_solutionHolds_27 : decode cX1_solutionHolds 27 = .ok (.ifCond .eq 5, 3) := by decide +kernel
theorem dX1_solutionHolds_30 : decode cX1_solutionHolds 30 = .ok (.iconst 0, 1) := by decide +kernel
theorem dX1_solutionHolds_31 : decode cX1_solutionHolds 31 = .ok (.ireturn, 1) := by decide +kernel
theorem dX1_solutionHolds_32 : decode cX1_solutionHolds 32 = .ok (.iinc 1 1, 3) := by decide +kernel
theorem dX1_solutionHolds_35 : decode cX1_solutionHolds 35 = .ok (.goto (-33), 3) := by decide +kernel
theorem dX1_solutionHolds_38 : decode cX1_solutionHolds 38 = .ok (.iconst 1, 1) := by decide +kernel
theorem dX1_solutionHolds_39 : decode cX1_solutionHolds 39 = .ok (.ireturn, 1) := by decide +kernel
theorem dX1_rowHolds_0 : decode cX1_rowHolds 0 = .ok (.iconst 0, 1) := by decide +kernel
theorem dX1_rowHolds_1 : decode cX1_rowHolds 1 = .ok (.istore_n 2, 1) := by decide +kernel
theorem dX1_rowHolds_2 : decode cX1_rowHolds 2 = .ok (.iload_n 2, 1) := by decide +kernel
theorem dX1_rowHolds_3 : decode cX1_rowHolds 3 = .ok (.aload_n 0, 1) := by decide +kernel
theorem dX1_rowHolds_4 : decode cX1_rowHolds 4 = .ok (.getfield 46, 3) := by decide +kernel
theorem dX1_rowHolds_7 : decode cX1_rowHolds 7 = .ok (.if_icmp .ge 37, 3) := by decide +kernel
theorem dX1_rowHolds_10 : decode cX1_rowHolds 10 = .ok (.aload_n 0, 1) := by decide +kernel
theorem dX1_rowHolds_11 : decode cX1_rowHolds 11 = .ok (.iload_n 2, 1) := by decide +kernel
theorem dX1_rowHolds_12 : decode cX1_rowHolds 12 = .ok (.aload_n 0, 1) := by decide +kernel
theorem dX1_rowHolds_13 : decode cX1_rowHolds 13 = .ok (.getfield 23, 3) := by decide +kernel
theorem dX1_rowHolds_16 : decode cX1_rowHolds 16 = .ok (.iload_n 1, 1) := by decide +kernel
theorem dX1_rowHolds_17 : decode cX1_rowHolds 17 = .ok (.invokevirtual 191, 3) := by decide +kernel
theorem dX1_rowHolds_20 : decode cX1_rowHolds 20 = .ok (.invokevirtual 187, 3) := by decide +kernel
theorem dX1_rowHolds_23 : decode cX1_rowHolds 23 = .ok (.aload_n 0, 1) := by decide +kernel
theorem dX1_rowHolds_24 : decode cX1_rowHolds 24 = .ok (.getfield 23, 3) := by decide +kernel
theorem dX1_rowHolds_27 : decode cX1_rowHolds 27 = .ok (.iload_n 1, 1) := by decide +kernel
theorem dX1_rowHolds_28 : decode cX1_rowHolds 28 = .ok (.iload_n 2, 1) := by decide +kernel
theorem dX1_rowHolds_29 : decode cX1_rowHolds 29 = .ok (.invokevirtual 79, 3) := by decide +kernel
theorem dX1_rowHolds_32 : decode cX1_rowHolds 32 = .ok (.lcmp, 1) := by decide +kernel
theorem dX1_rowHolds_33 : decode cX1_rowHolds 33 = .ok (.ifCond .eq 5, 3) := by decide +kernel
theorem dX1_rowHolds_36 : decode cX1_rowHolds 36 = .ok (.iconst 0, 1) := by decide +kernel
theorem dX1_rowHolds_37 : decode cX1_rowHolds 37 = .ok (.ireturn, 1) := by decide +kernel
theorem dX1_rowHolds_38 : decode cX1_rowHolds 38 = .ok (.iinc 2 1, 3) := by decide +kernel
theorem dX1_rowHolds_41 : decode cX1_rowHolds 41 = .ok (.goto (-39), 3) := by decide +kernel
theorem dX1_rowHolds_44 : decode cX1_rowHolds 44 = .ok (.iconst 1, 1) := by decide +kernel
theorem dX1_rowHolds_45 : decode cX1_rowHolds 45 = .ok (.ireturn, 1) := by decide +kernel
theorem dX1_sumOfUnknowns_0 : decode cX1_sumOfUnknowns 0 = .ok (.lconst 0, 1) := by decide +kernel
theorem dX1_sumOfUnknowns_1 : decode cX1_sumOfUnknowns 1 = .ok (.lstore_n 3, 1) := by decide +kernel
theorem dX1_sumOfUnknowns_2 : decode cX1_sumOfUnknowns 2 = .ok (.iconst 0, 1) := by decide +kernel
theorem dX1_sumOfUnknowns_3 : decode cX1_sumOfUnknowns 3 = .ok (.istore 5, 2) := by decide +kernel
theorem dX1_sumOfUnknowns_5 : decode cX1_sumOfUnknowns 5 = .ok (.iload 5, 2) := by decide +kernel
theorem dX1_sumOfUnknowns_7 : decode cX1_sumOfUnknowns 7 = .ok (.aload_n 0, 1) := by decide +kernel
theorem dX1_sumOfUnknowns_8 : decode cX1_sumOfUnknowns 8 = .ok (.getfield 42, 3) := by decide +kernel
theorem dX1_sumOfUnknowns_11 : decode cX1_sumOfUnknowns 11 = .ok (.if_icmp .ge 32, 3) := by decide +kernel
theorem dX1_sumOfUnknowns_14 : decode cX1_sumOfUnknowns 14 = .ok (.lload_n 3, 1) := by decide +kernel
theorem dX1_sumOfUnknowns_15 : decode cX1_sumOfUnknowns 15 = .ok (.aload_n 0, 1) := by decide +kernel
theorem dX1_sumOfUnknowns_16 : decode cX1_sumOfUnknowns 16 = .ok (.getfield 11, 3) := by decide +kernel
theorem dX1_sumOfUnknowns_19 : decode cX1_sumOfUnknowns 19 = .ok (.iload_n 1, 1) := by decide +kernel
theorem dX1_sumOfUnknowns_20 : decode cX1_sumOfUnknowns 20 = .ok (.aaload, 1) := by decide +kernel
theorem dX1_sumOfUnknowns_21 : decode cX1_sumOfUnknowns 21 = .ok (.iload 5, 2) := by decide +kernel
theorem dX1_sumOfUnknowns_23 : decode cX1_sumOfUnknowns 23 = .ok (.iaload, 1) := by decide +kernel
theorem dX1_sumOfUnknowns_24 : decode cX1_sumOfUnknowns 24 = .ok (.i2l, 1) := by decide +kernel
theorem dX1_sumOfUnknowns_25 : decode cX1_sumOfUnknowns 25 = .ok (.aload_n 2, 1) := by decide +kernel
theorem dX1_sumOfUnknowns_26 : decode cX1_sumOfUnknowns 26 = .ok (.aload_n 0, 1) := by decide +kernel
theorem dX1_sumOfUnknowns_27 : decode cX1_sumOfUnknowns 27 = .ok (.getfield 46, 3) := by decide +kernel
theorem dX1_sumOfUnknowns_30 : decode cX1_sumOfUnknowns 30 = .ok (.iload 5, 2) := by decide +kernel
theorem dX1_sumOfUnknowns_32 : decode cX1_sumOfUnknowns 32 = .ok (.iadd, 1) := by decide +kernel
theorem dX1_sumOfUnknowns_33 : decode cX1_sumOfUnknowns 33 = .ok (.laload, 1) := by decide +kernel
theorem dX1_sumOfUnknowns_34 : decode cX1_sumOfUnknowns 34 = .ok (.lmul, 1) := by decide +kernel
theorem dX1_sumOfUnknowns_35 : decode cX1_sumOfUnknowns 35 = .ok (.ladd, 1) := by decide +kernel
theorem dX1_sumOfUnknowns_36 : decode cX1_sumOfUnknowns 36 = .ok (.lstore_n 3, 1) := by decide +kernel
theorem dX1_sumOfUnknowns_37 : decode cX1_sumOfUnknowns 37 = .ok (.iinc 5 1, 3) := by decide +kernel
theorem dX1_sumOfUnknowns_40 : decode cX1_sumOfUnknowns 40 = .ok (.goto (-35), 3) := by decide +kernel
theorem dX1_sumOfUnknowns_43 : decode cX1_sumOfUnknowns 43 = .ok (.lload_n 3, 1) := by decide +kernel
theorem dX1_sumOfUnknowns_44 : decode cX1_sumOfUnknowns 44 = .ok (.lreturn, 1) := by decide +kernel
