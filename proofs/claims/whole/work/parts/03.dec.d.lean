theorem dX2_init_0 : decode cX2_init 0 = .ok (.aload_n 0, 1) := by decide +kernel
theorem dX2_init_1 : decode cX2_init 1 = .ok (.invokespecial 1, 3) := by decide +kernel
theorem dX2_init_4 : decode cX2_init 4 = .ok (.aload_n 0, 1) := by decide +kernel
theorem dX2_init_5 : decode cX2_init 5 = .ok (.iconst 1, 1) := by decide +kernel
theorem dX2_init_6 : decode cX2_init 6 = .ok (.putfield 7, 3) := by decide +kernel
theorem dX2_init_9 : decode cX2_init 9 = .ok (.aload_n 0, 1) := by decide +kernel
theorem dX2_init_10 : decode cX2_init 10 = .ok (.bipush 12, 2) := by decide +kernel
theorem dX2_init_12 : decode cX2_init 12 = .ok (.newarray .int, 2) := by decide +kernel
theorem dX2_init_14 : decode cX2_init 14 = .ok (.putfield 13, 3) := by decide +kernel
theorem dX2_init_17 : decode cX2_init 17 = .ok (.aload_n 0, 1) := by decide +kernel
theorem dX2_init_18 : decode cX2_init 18 = .ok (.iconst 3, 1) := by decide +kernel
theorem dX2_init_19 : decode cX2_init 19 = .ok (.newarray .int, 2) := by decide +kernel
theorem dX2_init_21 : decode cX2_init 21 = .ok (.putfield 17, 3) := by decide +kernel
theorem dX2_init_24 : decode cX2_init 24 = .ok (.aload_n 0, 1) := by decide +kernel
theorem dX2_init_25 : decode cX2_init 25 = .ok (.bipush 64, 2) := by decide +kernel
theorem dX2_init_27 : decode cX2_init 27 = .ok (.newarray .long, 2) := by decide +kernel
theorem dX2_init_29 : decode cX2_init 29 = .ok (.putfield 20, 3) := by decide +kernel
theorem dX2_init_32 : decode cX2_init 32 = .ok (.aload_n 0, 1) := by decide +kernel
theorem dX2_init_33 : decode cX2_init 33 = .ok (.bipush 8, 2) := by decide +kernel
theorem dX2_init_35 : decode cX2_init 35 = .ok (.newarray .int, 2) := by decide +kernel
theorem dX2_init_37 : decode cX2_init 37 = .ok (.putfield 24, 3) := by decide +kernel
theorem dX2_init_40 : decode cX2_init 40 = .ok (.aload_n 0, 1) := by decide +kernel
theorem dX2_init_41 : decode cX2_init 41 = .ok (.iconst 3, 1) := by decide +kernel
theorem dX2_init_42 : decode cX2_init 42 = .ok (.newarray .long, 2) := by decide +kernel
theorem dX2_init_44 : decode cX2_init 44 = .ok (.putfield 27, 3) := by decide +kernel
theorem dX2_init_47 : decode cX2_init 47 = .ok (.aload_n 0, 1) := by decide +kernel
theorem dX2_init_48 : decode cX2_init 48 = .ok (.iconst 4, 1) := by decide +kernel
theorem dX2_init_49 : decode cX2_init 49 = .ok (.newarray .long, 2) := by decide +kernel
theorem dX2_init_51 : decode cX2_init 51 = .ok (.putfield 30, 3) := by decide +kernel
theorem dX2_init_54 : decode cX2_init 54 = .ok (.return_, 1) := by decide +kernel
theorem dX2_unknowns_0 : decode cX2_unknowns 0 = .ok (.iload_n 1, 1) := by decide +kernel
theorem dX2_unknowns_1 : decode cX2_unknowns 1 = .ok (.iconst 1, 1) := by decide +kernel
theorem dX2_unknowns_2 : decode cX2_unknowns 2 = .ok (.if_icmp .lt 8, 3) := by decide +kernel
theorem dX2_unknowns_5 : decode cX2_unknowns 5 = .ok (.iload_n 1, 1) := by decide +kernel
theorem dX2_unknowns_6 : decode cX2_unknowns 6 = .ok (.iconst 4, 1) := by decide +kernel
theorem dX2_unknowns_7 : decode cX2_unknowns 7 = .ok (.if_icmp .le 5, 3) := by decide +kernel
theorem dX2_unknowns_10 : decode cX2_unknowns 10 = .ok (.iconst 0, 1) := by decide +kernel
theorem dX2_unknowns_11 : decode cX2_unknowns 11 = .ok (.ireturn, 1) := by decide +kernel
theorem dX2_unknowns_12 : decode cX2_unknowns 12 = .ok (.aload_n 0, 1) := by decide +kernel
theorem dX2_unknowns_13 : decode cX2_unknowns 13 = .ok (.iload_n 1, 1) := by decide +kernel
theorem dX2_unknowns_14 : decode cX2_unknowns 14 = .ok (.putfield 7, 3) := by decide +kernel
theorem dX2_unknowns_17 : decode cX2_unknowns 17 = .ok (.aload_n 0, 1) := by decide +kernel
theorem dX2_unknowns_18 : decode cX2_unknowns 18 = .ok (.iconst 0, 1) := by decide +kernel
theorem dX2_unknowns_19 : decode cX2_unknowns 19 = .ok (.putfield 33, 3) := by decide +kernel
theorem dX2_unknowns_22 : decode cX2_unknowns 22 = .ok (.iconst 1, 1) := by decide +kernel
theorem dX2_unknowns_23 : decode cX2_unknowns 23 = .ok (.ireturn, 1) := by decide +kernel
theorem dX2_isSum_0 : decode cX2_isSum 0 = .ok (.iload_n 0, 1) := by decide +kernel
theorem dX2_isSum_1 : decode cX2_isSum 1 = .ok (.sipush (-1000), 3) := by decide +kernel
theorem dX2_isSum_4 : decode cX2_isSum 4 = .ok (.if_icmp .lt 14, 3) := by decide +kernel
theorem dX2_isSum_7 : decode cX2_isSum 7 = .ok (.iload_n 0, 1) := by decide +kernel
theorem dX2_isSum_8 : decode cX2_isSum 8 = .ok (.sipush 1000, 3) := by decide +kernel
theorem dX2_isSum_11 : decode cX2_isSum 11 = .ok (.if_icmp .gt 7, 3) := by decide +kernel
theorem dX2_isSum_14 : decode cX2_isSum 14 = .ok (.iconst 1, 1) := by decide +kernel
theorem dX2_isSum_15 : decode cX2_isSum 15 = .ok (.goto 4, 3) := by decide +kernel
theorem dX2_isSum_18 : decode cX2_isSum 18 = .ok (.iconst 0, 1) := by decide +kernel
theorem dX2_isSum_19 : decode cX2_isSum 19 = .ok (.ireturn, 1) := by decide +kernel
theorem dX2_isFactor_0 : decode cX2_isFactor 0 = .ok (.iload_n 1, 1) := by decide +kernel
theorem dX2_isFactor_1 : decode cX2_isFactor 1 = .ok (.aload_n 0, 1) := by decide +kernel
theorem dX2_isFactor_2 : decode cX2_isFactor 2 = .ok (.getfield 7, 3) := by decide +kernel
theorem dX2_isFactor_5 : decode cX2_isFactor 5 = .ok (.if_icmp .ge 15, 3) := by decide +kernel
theorem dX2_isFactor_8 : decode cX2_isFactor 8 = .ok (.iload_n 2, 1) := by decide +kernel
theorem dX2_isFactor_9 : decode cX2_isFactor 9 = .ok (.bipush (-9), 2) := by decide +kernel
theorem dX2_isFactor_11 : decode cX2_isFactor 11 = .ok (.if_icmp .lt 13, 3) := by decide +kernel
theorem dX2_isFactor_14 : decode cX2_isFactor 14 = .ok (.iload_n 2, 1) := by decide +kernel
theorem dX2_isFactor_15 : decode cX2_isFactor 15 = .ok (.bipush 9, 2) := by decide +kernel
theorem dX2_isFactor_17 : decode cX2_isFactor 17 = .ok (.if_icmp .gt 7, 3) := by decide +kernel
theorem dX2_isFactor_20 : decode cX2_isFactor 20 = .ok (.iconst 1, 1) := by decide +kernel
theorem dX2_isFactor_21 : decode cX2_isFactor 21 = .ok (.goto 4, 3) := by decide +kernel
theorem dX2_isFactor_24 : decode cX2_isFactor 24 = .ok (.iconst 0, 1) := by decide +kernel
theorem dX2_isFactor_25 : decode cX2_isFactor 25 = .ok (.ireturn, 1) := by decide +kernel
theorem dX2_equation_0 : decode cX2_equation 0 = .ok (.aload_n 0, 1) := by decide +kernel
theorem dX2_equation_1 : decode cX2_equation 1 = .ok (.iconst 0, 1) := by decide +kernel
theorem dX2_equation_2 : decode cX2_equation 2 = .ok (.iload_n 1, 1) := by decide +kernel
theorem dX2_equation_3 : decode cX2_equation 3 = .ok (.invokevirtual 36, 3) := by decide +kernel
theorem dX2_equation_6 : decode cX2_equation 6 = .ok (.ifCond .eq 47, 3) := by decide +kernel
theorem dX2_equation_9 : decode cX2_equation 9 = .ok (.aload_n 0, 1) := by decide +kernel
theorem dX2_equation_10 : decode cX2_equation 10 = .ok (.iconst 1, 1) := by decide +kernel
theorem dX2_equation_11 : decode cX2_equation 11 = .ok (.iload_n 2, 1) := by decide +kernel
theorem dX2_equation_12 : decode cX2_equation 12 = .ok (.invokevirtual 36, 3) := by decide +kernel
theorem dX2_equation_15 : decode cX2_equation 15 = .ok (.ifCond .eq 38, 3) := by decide +kernel
theorem dX2_equation_18 : decode cX2_equation 18 = .ok (.aload_n 0, 1) := by decide +kernel
theorem dX2_equation_19 : decode cX2_equation 19 = .ok (.iconst 2, 1) := by decide +kernel
theorem dX2_equation_20 : decode cX2_equation 20 = .ok (.iload_n 3, 1) := by decide +kernel
theorem dX2_equation_21 : decode cX2_equation 21 = .ok (.invokevirtual 36, 3) := by decide +kernel
theorem dX2_equation_24 : decode cX2_equation 24 = .ok (.ifCond .eq 29, 3) := by decide +kernel
theorem dX2_equation_27 : decode cX2_equation 27 = .ok (.aload_n 0, 1) := by decide +kernel
theorem dX2_equation_28 : decode cX2_equation 28 = .ok (.iconst 3, 1) := by decide +kernel
theorem dX2_equation_29 : decode cX2_equation 29 = .ok (.iload 4, 2) := by decide +kernel
theorem dX2_equation_31 : decode cX2_equation 31 = .ok (.invokevirtual 36, 3) := by decide +kernel
theorem dX2_equation_34 : decode cX2_equation 34 = .ok (.ifCond .eq 19, 3) := by decide +kernel
theorem dX2_equation_37 : decode cX2_equation 37 = .ok (.iload 5, 2) := by decide +kernel
theorem dX2_equation_39 : decode cX2_equation 39 = .ok (.invokestatic 40, 3) := by decide +kernel
theorem dX2_equation_42 : decode cX2_equation 42 = .ok (.ifCond .eq 11, 3) := by decide +kernel
theorem dX2_equation_45 : decode cX2_equation 45 = .ok (.aload_n 0, 1) := by decide +kernel
theorem dX2_equation_46 : decode cX2_equation 46 = .ok (.getfield 33, 3) := by decide +kernel
theorem dX2_equation_49 : decode cX2_equation 49 = .ok (.iconst 3, 1) := by decide +kernel
theorem dX2_equation_50 : decode cX2_equation 50 = .ok (.if_icmp .ne 5, 3) := by decide +kernel
theorem dX2_equation_53 : decode cX2_equation 53 = .ok (.iconst (-1), 1) := by decide +kernel
theorem dX2_equation_54 : decode cX2_equation 54 = .ok (.ireturn, 1) := by decide +kernel
theorem dX2_equation_55 : decode cX2_equation 55 = .ok (.iconst 4, 1) := by decide +kernel
theorem dX2_equation_56 : decode cX2_equation 56 = .ok (.aload_n 0, 1) := by decide +kernel
theorem dX2_equation_57 : decode cX2_equation 57 = .ok (.getfield 33, 3) := by decide +kernel
theorem dX2_equation_60 : decode cX2_equation 60 = .ok (.imul, 1) := by decide +kernel
theorem dX2_equation_61 : decode cX2_equation 61 = .ok (.istore 6, 2) := by decide +kernel
theorem dX2_equation_63 : decode cX2_equation 63 = .ok (.aload_n 0, 1) := by decide +kernel
theorem dX2_equation_64 : decode cX2_equation 64 = .ok (.getfield 13, 3) := by decide +kernel
theorem dX2_equation_67 : decode cX2_equation 67 = .ok (.iload 6, 2) := by decide +kernel
theorem dX2_equation_69 : decode cX2_equation 69 = .ok (.iload_n 1, 1) := by decide +kernel
theorem dX2_equation_70 : decode cX2_equation 70 = .ok (.iastore, 1) := by decide +kernel
theorem dX2_equation_71 : decode cX2_equation 71 = .ok (.aload_n 0, 1) := by decide +kernel
theorem dX2_equation_72 : decode cX2_equation 72 = .ok (.getfield 13, 3) := by decide +kernel
theorem dX2_equation_75 : decode cX2_equation 75 = .ok (.iload 6, 2) := by decide +kernel
theorem dX2_equation_77 : decode cX2_equation 77 = .ok (.iconst 1, 1) := by decide +kernel
theorem dX2_equation_78 : decode cX2_equation 78 = .ok (.iadd, 1) := by decide +kernel
theorem dX2_equation_79 : decode cX2_equation 79 = .ok (.iload_n 2, 1) := by decide +kernel
theorem dX2_equation_80 : decode cX2_equation 80 = .ok (.iastore, 1) := by decide +kernel
theorem dX2_equation_81 : decode cX2_equation 81 = .ok (.aload_n 0, 1) := by decide +kernel
theorem dX2_equation_82 : decode cX2_equation 82 = .ok (.getfield 13, 3) := by decide +kernel
theorem dX2_equation_85 : decode cX2_equation 85 = .ok (.iload 6, 2) := by decide +kernel
theorem dX2_equation_87 : decode cX2_equation 87 = .ok (.iconst 2, 1) := by decide +kernel
theorem dX2_equation_88 : decode cX2_equation 88 = .ok (.iadd, 1) := by decide +kernel
theorem dX2_equation_89 : decode cX2_equation 89 = .ok (.iload_n 3, 1) := by decide +kernel
theorem dX2_equation_90 : decode cX2_equation 90 = .ok (.iastore, 1) := by decide +kernel
theorem dX2_equation_91 : decode cX2_equation 91 = .ok (.aload_n 0, 1) := by decide +kernel
theorem dX2_equation_92 : decode cX2_equation 92 = .ok (.getfield 13, 3) := by decide +kernel
theorem dX2_equation_95 : decode cX2_equation 95 = .ok (.iload 6, 2) := by decide +kernel
theorem dX2_equation_97 : decode cX2_equation 97 = .ok (.iconst 3, 1) := by decide +kernel
theorem dX2_equation_98 : decode cX2_equation 98 = .ok (.iadd, 1) := by decide +kernel
theorem dX2_equation_99 : decode cX2_equation 99 = .ok (.iload 4, 2) := by decide +kernel
theorem dX2_equation_101 : decode cX2_equation 101 = .ok (.iastore, 1) := by decide +kernel
theorem dX2_equation_102 : decode cX2_equation 102 = .ok (.aload_n 0, 1) := by decide +kernel
theorem dX2_equation_103 : decode cX2_equation 103 = .ok (.getfield 17, 3) := by decide +kernel
theorem dX2_equation_106 : decode cX2_equation 106 = .ok (.aload_n 0, 1) := by decide +kernel
theorem dX2_equation_107 : decode cX2_equation 107 = .ok (.getfield 33, 3) := by decide +kernel
theorem dX2_equation_110 : decode cX2_equation 110 = .ok (.iload 5, 2) := by decide +kernel
theorem dX2_equation_112 : decode cX2_equation 112 = .ok (.iastore, 1) := by decide +kernel
theorem dX2_equation_113 : decode cX2_equation 113 = .ok (.aload_n 0, 1) := by decide +kernel
theorem dX2_equation_114 : decode cX2_equation 114 = .ok (.dup, 1) := by decide +kernel
theorem dX2_equation_115 : decode cX2_equation 115 = .ok (.getfield 33, 3) := by decide +kernel
theorem dX2_equation_118 : decode cX2_equation 118 = .ok (.iconst 1, 1) := by decide +kernel
theorem dX2_equation_119 : decode cX2_equation 119 = .ok (.iadd, 1) := by decide +kernel
theorem dX2_equation_120 : decode cX2_equation 120 = .ok (.putfield 33, 3) := by decide +kernel
theorem dX2_equation_123 : decode cX2_equation 123 = .ok (.aload_n 0, 1) := by decide +kernel
theorem dX2_equation_124 : decode cX2_equation 124 = .ok (.getfield 33, 3) := by decide +kernel
theorem dX2_equation_127 : decode cX2_equation 127 = .ok (.iconst 1, 1) := by decide +kernel
theorem dX2_equation_128 : decode cX2_equation 128 = .ok (.isub, 1) := by decide +kernel
theorem dX2_equation_129 : decode cX2_equation 129 = .ok (.ireturn, 1) := by decide +kernel
theorem dX2_sum_0 : decode cX2_sum 0 = .ok (.iload_n 1, 1) := by decide +kernel
theorem dX2_sum_1 : decode cX2_sum 1 = .ok (.ifCond .lt 18, 3) := by decide +kernel
theorem dX2_sum_4 : decode cX2_sum 4 = .ok (.iload_n 1, 1) := by decide +kernel
theorem dX2_sum_5 : decode cX2_sum 5 = .ok (.aload_n 0, 1) := by decide +kernel
theorem dX2_sum_6 : decode cX2_sum 6 = .ok (.getfield 33, 3) := by decide +kernel
theorem dX2_sum_9 : decode cX2_sum 9 = .ok (.if_icmp .ge 10, 3) := by decide +kernel
theorem dX2_sum_12 : decode cX2_sum 12 = .ok (.iload_n 2, 1) := by decide +kernel
theorem dX2_sum_13 : decode cX2_sum 13 = .ok (.invokestatic 40, 3) := by decide +kernel
theorem dX2_sum_16 : decode cX2_sum 16 = .ok (.ifCond .ne 5, 3) := by decide +kernel
theorem dX2_sum_19 : decode cX2_sum 19 = .ok (.iconst 0, 1) := by decide +kernel
theorem dX2_sum_20 : decode cX2_sum 20 = .ok (.ireturn, 1) := by decide +kernel
theorem dX2_sum_21 : decode cX2_sum 21 = .ok (.aload_n 0, 1) := by decide +kernel
theorem dX2_sum_22 : decode cX2_sum 22 = .ok (.getfield 17, 3) := by decide +kernel
theorem dX2_sum_25 : decode cX2_sum 25 = .ok (.iload_n 1, 1) := by decide +kernel
theorem dX2_sum_26 : decode cX2_sum 26 = .ok (.iload_n 2, 1) := by decide +kernel
theorem dX2_sum_27 : decode cX2_sum 27 = .ok (.iastore, 1) := by decide +kernel
theorem dX2_sum_28 : decode cX2_sum 28 = .ok (.iconst 1, 1) := by decide +kernel
theorem dX2_sum_29 : decode cX2_sum 29 = .ok (.ireturn, 1) := by decide +kernel
theorem dX2_drop_0 : decode cX2_drop 0 = .ok (.aload_n 0, 1) := by decide +kernel
theorem dX2_drop_1 : decode cX2_drop 1 = .ok (.getfield 33, 3) := by decide +kernel
theorem dX2_drop_4 : decode cX2_drop 4 = .ok (.ifCond .ne 5, 3) := by decide +kernel
theorem dX2_drop_7 : decode cX2_drop 7 = .ok (.iconst (-1), 1) := by decide +kernel
theorem dX2_drop_8 : decode cX2_drop 8 = .ok (.ireturn, 1) := by decide +kernel
theorem dX2_drop_9 : decode cX2_drop 9 = .ok (.aload_n 0, 1) := by decide +kernel
theorem dX2_drop_10 : decode cX2_drop 10 = .ok (.dup, 1) := by decide +kernel
theorem dX2_drop_11 : decode cX2_drop 11 = .ok (.getfield 33, 3) := by decide +kernel
theorem dX2_drop_14 : decode cX2_drop 14 = .ok (.iconst 1, 1) := by decide +kernel
theorem dX2_drop_15 : decode cX2_drop 15 = .ok (.isub, 1) := by decide +kernel
theorem dX2_drop_16 : decode cX2_drop 16 = .ok (.putfield 33, 3) := by decide +kernel
theorem dX2_drop_19 : decode cX2_drop 19 = .ok (.aload_n 0, 1) := by decide +kernel
theorem dX2_drop_20 : decode cX2_drop 20 = .ok (.getfield 33, 3) := by decide +kernel
theorem dX2_drop_23 : decode cX2_drop 23 = .ok (.ireturn, 1) := by decide +kernel
theorem dX2_down_0 : decode cX2_down 0 = .ok (.lload_n 0, 1) := by decide +kernel
theorem dX2_down_1 : decode cX2_down 1 = .ok (.lload_n 2, 1) := by decide +kernel
theorem dX2_down_2 : decode cX2_down 2 = .ok (.ldiv, 1) := by decide +kernel
theorem dX2_down_3 : decode cX2_down 3 = .ok (.lstore 4, 2) := by decide +kernel
theorem dX2_down_5 : decode cX2_down 5 = .ok (.lload 4, 2) := by decide +kernel
theorem dX2_down_7 : decode cX2_down 7 = .ok (.lload_n 2, 1) := by decide +kernel
theorem dX2_down_8 : decode cX2_down 8 = .ok (.lmul, 1) := by decide +kernel
theorem dX2_down_9 : decode cX2_down 9 = .ok (.lload_n 0, 1) := by decide +kernel
theorem dX2_down_10 : decode cX2_down 10 = .ok (.lcmp, 1) := by decide +kernel
theorem dX2_down_11 : decode cX2_down 11 = .ok (.ifCond .le 10, 3) := by decide +kernel
theorem dX2_down_14 : decode cX2_down 14 = .ok (.lload 4, 2) := by decide +kernel
theorem dX2_down_16 : decode cX2_down 16 = .ok (.lconst 1, 1) := by decide +kernel
theorem dX2_down_17 : decode cX2_down 17 = .ok (.lsub, 1) := by decide +kernel
theorem dX2_down_18 : decode cX2_down 18 = .ok (.goto 5, 3) := by decide +kernel
theorem dX2_down_21 : decode cX2_down 21 = .ok (.lload 4, 2) := by decide +kernel
theorem dX2_down_23 : decode cX2_down 23 = .ok (.lreturn, 1) := by decide +kernel
theorem dX2_take_0 : decode cX2_take 0 = .ok (.iconst 0, 1) := by decide +kernel
theorem dX2_take_1 : decode cX2_take 1 = .ok (.istore 6, 2) := by decide +kernel
theorem dX2_take_3 : decode cX2_take 3 = .ok (.iload 6, 2) := by decide +kernel
theorem dX2_take_5 : decode cX2_take 5 = .ok (.iload 5, 2) := by decide +kernel
theorem dX2_take_7 : decode cX2_take 7 = .ok (.if_icmp .ge 38, 3) := by decide +kernel
theorem dX2_take_10 : decode cX2_take 10 = .ok (.aload_n 0, 1) := by decide +kernel
theorem dX2_take_11 : decode cX2_take 11 = .ok (.getfield 20, 3) := by decide +kernel
theorem dX2_take_14 : decode cX2_take 14 = .ok (.bipush 8, 2) := by decide +kernel
theorem dX2_take_16 : decode cX2_take 16 = .ok (.iload_n 1, 1) := by decide +kernel
theorem dX2_take_17 : decode cX2_take 17 = .ok (.imul, 1) := by decide +kernel
theorem dX2_take_18 : decode cX2_take 18 = .ok (.iload 6, 2) := by decide +kernel
theorem dX2_take_20 : decode cX2_take 20 = .ok (.iadd, 1) := by decide +kernel
theorem dX2_take_21 : decode cX2_take 21 = .ok (.dup2, 1) := by decide +kernel
theorem dX2_take_22 : decode cX2_take 22 = .ok (.laload, 1) := by decide +kernel
theorem dX2_take_23 : decode cX2_take 23 = .ok (.lload_n 3, 1) := by decide +kernel
theorem dX2_take_24 : decode cX2_take 24 = .ok (.aload_n 0, 1) := by decide +kernel
theorem dX2_take_25 : decode cX2_take 25 = .ok (.getfield 20, 3) := by decide +kernel
theorem dX2_take_28 : decode cX2_take 28 = .ok (.bipush 8, 2) := by decide +kernel
theorem dX2_take_30 : decode cX2_take 30 = .ok (.iload_n 2, 1) := by decide +kernel
theorem dX2_take_31 : decode cX2_take 31 = .ok (.imul, 1) := by decide +kernel
theorem dX2_take_32 : decode cX2_take 32 = .ok (.iload 6, 2) := by decide +kernel
theorem dX2_take_34 : decode cX2_take 34 = .ok (.iadd, 1) := by decide +kernel
theorem dX2_take_35 : decode cX2_take 35 = .ok (.laload, 1) := by decide +kernel
theorem dX2_take_36 : decode cX2_take 36 = .ok (.lmul, 1) := by decide +kernel
theorem dX2_take_37 : decode cX2_take 37 = .ok (.lsub, 1) := by decide +kernel
theorem dX2_take_38 : decode cX2_take 38 = .ok (.lastore, 1) := by decide +kernel
theorem dX2_take_39 : decode cX2_take 39 = .ok (.iinc 6 1, 3) := by decide +kernel
theorem dX2_take_42 : decode cX2_take 42 = .ok (.goto (-39), 3) := by decide +kernel
theorem dX2_take_45 : decode cX2_take 45 = .ok (.return_, 1) := by decide +kernel
theorem dX2_change_0 : decode cX2_change 0 = .ok (.iconst 0, 1) := by decide +kernel
theorem dX2_change_1 : decode cX2_change 1 = .ok (.istore_n 3, 1) := by decide +kernel
theorem dX2_change_2 : decode cX2_change 2 = .ok (.iload_n 3, 1) := by decide +kernel
theorem dX2_change_3 : decode cX2_change 3 = .ok (.bipush 8, 2) := by decide +kernel
theorem dX2_change_5 : decode cX2_change 5 = .ok (.if_icmp .ge 57, 3) := by decide +kernel
theorem dX2_change_8 : decode cX2_change 8 = .ok (.aload_n 0, 1) := by decide +kernel
theorem dX2_change_9 : decode cX2_change 9 = .ok (.getfield 20, 3) := by decide +kernel
theorem dX2_change_12 : decode cX2_change 12 = .ok (.bipush 8, 2) := by decide +kernel
theorem dX2_change_14 : decode cX2_change 14 = .ok (.iload_n 1, 1) := by decide +kernel
theorem dX2_change_15 : decode cX2_change 15 = .ok (.imul, 1) := by decide +kernel
theorem dX2_change_16 : decode cX2_change 16 = .ok (.iload_n 3, 1) := by decide +kernel
theorem dX2_change_17 : decode cX2_change 17 = .ok (.iadd, 1) := by decide +kernel
theorem dX2_change_18 : decode cX2_change 18 = .ok (.laload, 1) := by decide +kernel
theorem dX2_change_19 : decode cX2_change 19 = .ok (.lstore 4, 2) := by decide +kernel
theorem dX2_change_21 : decode cX2_change 21 = .ok (.aload_n 0, 1) := by decide +kernel
theorem dX2_change_22 : decode cX2_change 22 = .ok (.getfield 20, 3) := by decide +kernel
theorem dX2_change_25 : decode cX2_change 25 = .ok (.bipush 8, 2) := by decide +kernel
theorem dX2_change_27 : decode cX2_change 27 = .ok (.iload_n 1, 1) := by decide +kernel
theorem dX2_change_28 : decode cX2_change 28 = .ok (.imul, 1) := by decide +kernel
theorem dX2_change_29 : decode cX2_change 29 = .ok (.iload_n 3, 1) := by decide +kernel
theorem dX2_change_30 : decode cX2_change 30 = .ok (.iadd, 1) := by decide +kernel
theorem dX2_change_31 : decode cX2_change 31 = .ok (.aload_n 0, 1) := by decide +kernel
theorem dX2_change_32 : decode cX2_change 32 = .ok (.getfield 20, 3) := by decide +kernel
theorem dX2_change_35 : decode cX2_change 35 = .ok (.bipush 8, 2) := by decide +kernel
theorem dX2_change_37 : decode cX2_change 37 = .ok (.iload_n 2, 1) := by decide +kernel
theorem dX2_change_38 : decode cX2_change 38 = .ok (.imul, 1) := by decide +kernel
theorem dX2_change_39 : decode cX2_change 39 = .ok (.iload_n 3, 1) := by decide +kernel
theorem dX2_change_40 : decode cX2_change 40 = .ok (.iadd, 1) := by decide +kernel
theorem dX2_change_41 : decode cX2_change 41 = .ok (.laload, 1) := by decide +kernel
theorem dX2_change_42 : decode cX2_change 42 = .ok (.lastore, 1) := by decide +kernel
theorem dX2_change_43 : decode cX2_change 43 = .ok (.aload_n 0, 1) := by decide +kernel
theorem dX2_change_44 : decode cX2_change 44 = .ok (.getfield 20, 3) := by decide +kernel
theorem dX2_change_47 : decode cX2_change 47 = .ok (.bipush 8, 2) := by decide +kernel
theorem dX2_change_49 : decode cX2_change 49 = .ok (.iload_n 2, 1) := by decide +kernel
theorem dX2_change_50 : decode cX2_change 50 = .ok (.imul, 1) := by decide +kernel
theorem dX2_change_51 : decode cX2_change 51 = .ok (.iload_n 3, 1) := by decide +kernel
theorem dX2_change_52 : decode cX2_change 52 = .ok (.iadd, 1) := by decide +kernel
theorem dX2_change_53 : decode cX2_change 53 = .ok (.lload 4, 2) := by decide +kernel
theorem dX2_change_55 : decode cX2_change 55 = .ok (.lastore, 1) := by decide +kernel
theorem dX2_change_56 : decode cX2_change 56 = .ok (.iinc 3 1, 3) := by decide +kernel
theorem dX2_change_59 : decode cX2_change 59 = .ok (.goto (-57), 3) := by decide +kernel
theorem dX2_change_62 : decode cX2_change 62 = .ok (.return_, 1) := by decide +kernel
theorem dX2_size_0 : decode cX2_size 0 = .ok (.lload_n 0, 1) := by decide +kernel
theorem dX2_size_1 : decode cX2_size 1 = .ok (.lconst 0, 1) := by decide +kernel
theorem dX2_size_2 : decode cX2_size 2 = .ok (.lcmp, 1) := by decide +kernel
theorem dX2_size_3 : decode cX2_size 3 = .ok (.ifCond .ge 8, 3) := by decide +kernel
theorem dX2_size_6 : decode cX2_size 6 = .ok (.lload_n 0, 1) := by decide +kernel
theorem dX2_size_7 : decode cX2_size 7 = .ok (.lneg, 1) := by decide +kernel
theorem dX2_size_8 : decode cX2_size 8 = .ok (.goto 4, 3) := by decide +kernel
theorem dX2_size_11 : decode cX2_size 11 = .ok (.lload_n 0, 1) := by decide +kernel
theorem dX2_size_12 : decode cX2_size 12 = .ok (.lreturn, 1) := by decide +kernel
theorem dX2_least_0 : decode cX2_least 0 = .ok (.iconst (-1), 1) := by decide +kernel
theorem dX2_least_1 : decode cX2_least 1 = .ok (.istore 4, 2) := by decide +kernel
theorem dX2_least_3 : decode cX2_least 3 = .ok (.iload_n 1, 1) := by decide +kernel
theorem dX2_least_4 : decode cX2_least 4 = .ok (.istore 5, 2) := by decide +kernel
theorem dX2_least_6 : decode cX2_least 6 = .ok (.iload 5, 2) := by decide +kernel
theorem dX2_least_8 : decode cX2_least 8 = .ok (.iload_n 3, 1) := by decide +kernel
theorem dX2_least_9 : decode cX2_least 9 = .ok (.if_icmp .ge 63, 3) := by decide +kernel
theorem dX2_least_12 : decode cX2_least 12 = .ok (.aload_n 0, 1) := by decide +kernel
theorem dX2_least_13 : decode cX2_least 13 = .ok (.getfield 20, 3) := by decide +kernel
theorem dX2_least_16 : decode cX2_least 16 = .ok (.bipush 8, 2) := by decide +kernel
theorem dX2_least_18 : decode cX2_least 18 = .ok (.iload 5, 2) := by decide +kernel
theorem dX2_least_20 : decode cX2_least 20 = .ok (.imul, 1) := by decide +kernel
theorem dX2_least_21 : decode cX2_least 21 = .ok (.iload_n 2, 1) := by decide +kernel
theorem dX2_least_22 : decode cX2_least 22 = .ok (.iadd, 1) := by decide +kernel
theorem dX2_least_23 : decode cX2_least 23 = .ok (.laload, 1) := by decide +kernel
theorem dX2_least_24 : decode cX2_least 24 = .ok (.invokestatic 44, 3) := by decide +kernel
theorem dX2_least_27 : decode cX2_least 27 = .ok (.lstore 6, 2) := by decide +kernel
theorem dX2_least_29 : decode cX2_least 29 = .ok (.lload 6, 2) := by decide +kernel
theorem dX2_least_31 : decode cX2_least 31 = .ok (.lconst 0, 1) := by decide +kernel
theorem dX2_least_32 : decode cX2_least 32 = .ok (.lcmp, 1) := by decide +kernel
theorem dX2_least_33 : decode cX2_least 33 = .ok (.ifCond .le 33, 3) := by decide +kernel
theorem dX2_least_36 : decode cX2_least 36 = .ok (.iload 4, 2) := by decide +kernel
theorem dX2_least_38 : decode cX2_least 38 = .ok (.ifCond .lt 24, 3) := by decide +kernel
theorem dX2_least_41 : decode cX2_least 41 = .ok (.lload 6, 2) := by decide +kernel
theorem dX2_least_43 : decode cX2_least 43 = .ok (.aload_n 0, 1) := by decide +kernel
theorem dX2_least_44 : decode cX2_least 44 = .ok (.getfield 20, 3) := by decide +kernel
theorem dX2_least_47 : decode cX2_least 47 = .ok (.bipush 8, 2) := by decide +kernel
theorem dX2_least_49 : decode cX2_least 49 = .ok (.iload 4, 2) := by decide +kernel
theorem dX2_least_51 : decode cX2_least 51 = .ok (.imul, 1) := by decide +kernel
theorem dX2_least_52 : decode cX2_least 52 = .ok (.iload_n 2, 1) := by decide +kernel
theorem dX2_least_53 : decode cX2_least 53 = .ok (.iadd, 1) := by decide +kernel
theorem dX2_least_54 : decode cX2_least 54 = .ok (.laload, 1) := by decide +kernel
theorem dX2_least_55 : decode cX2_least 55 = .ok (.invokestatic 44, 3) := by decide +kernel
theorem dX2_least_58 : decode cX2_least 58 = .ok (.lcmp, 1) := by decide +kernel
theorem dX2_least_59 : decode cX2_least 59 = .ok (.ifCond .ge 7, 3) := by decide +kernel
theorem dX2_least_62 : decode cX2_least 62 = .ok (.iload 5, 2) := by decide +kernel
theorem dX2_least_64 : decode cX2_least 64 = .ok (.istore 4, 2) := by decide +kernel
theorem dX2_least_66 : decode cX2_least 66 = .ok (.iinc 5 1, 3) := by decide +kernel
theorem dX2_least_69 : decode cX2_least 69 = .ok (.goto (-63), 3) := by decide +kernel
theorem dX2_least_72 : decode cX2_least 72 = .ok (.iload 4, 2) := by decide +kernel
theorem dX2_least_74 : decode cX2_least 74 = .ok (.ireturn, 1) := by decide +kernel
theorem dX2_form_0 : decode cX2_form 0 = .ok (.iconst 0, 1) := by decide +kernel
theorem dX2_form_1 : decode cX2_form 1 = .ok (.istore_n 3, 1) := by decide +kernel
theorem dX2_form_2 : decode cX2_form 2 = .ok (.iconst 0, 1) := by decide +kernel
theorem dX2_form_3 : decode cX2_form 3 = .ok (.istore 4, 2) := by decide +kernel
theorem dX2_form_5 : decode cX2_form 5 = .ok (.iload 4, 2) := by decide +kernel
theorem dX2_form_7 : decode cX2_form 7 = .ok (.iload_n 2, 1) := by decide +kernel
theorem dX2_form_8 : decode cX2_form 8 = .ok (.if_icmp .ge 230, 3) := by decide +kernel
theorem dX2_form_11 : decode cX2_form 11 = .ok (.aload_n 0, 1) := by decide +kernel
theorem dX2_form_12 : decode cX2_form 12 = .ok (.iload_n 3, 1) := by decide +kernel
theorem dX2_form_13 : decode cX2_form 13 = .ok (.iload 4, 2) := by decide +kernel
theorem dX2_form_15 : decode cX2_form 15 = .ok (.iload_n 1, 1) := by decide +kernel
theorem dX2_form_16 : decode cX2_form 16 = .ok (.invokevirtual 48, 3) := by decide +kernel
theorem dX2_form_19 : decode cX2_form 19 = .ok (.istore 5, 2) := by decide +kernel
theorem dX2_form_21 : decode cX2_form 21 = .ok (.iload 5, 2) := by decide +kernel
theorem dX2_form_23 : decode cX2_form 23 = .ok (.ifCond .ge 6, 3) := by decide +kernel
theorem dX2_form_26 : decode cX2_form 26 = .ok (.goto 206, 3) := by decide +kernel
theorem dX2_form_29 : decode cX2_form 29 = .ok (.iconst 0, 1) := by decide +kernel
theorem dX2_form_30 : decode cX2_form 30 = .ok (.istore 6, 2) := by decide +kernel
theorem dX2_form_32 : decode cX2_form 32 = .ok (.iload 6, 2) := by decide +kernel
theorem dX2_form_34 : decode cX2_form 34 = .ok (.ifCond .ne 136, 3) := by decide +kernel
theorem dX2_form_37 : decode cX2_form 37 = .ok (.aload_n 0, 1) := by decide +kernel
theorem dX2_form_38 : decode cX2_form 38 = .ok (.iload_n 3, 1) := by decide +kernel
theorem dX2_form_39 : decode cX2_form 39 = .ok (.iload 5, 2) := by decide +kernel
theorem dX2_form_41 : decode cX2_form 41 = .ok (.invokevirtual 52, 3) := by decide +kernel
theorem dX2_form_44 : decode cX2_form 44 = .ok (.aload_n 0, 1) := by decide +kernel
theorem dX2_form_45 : decode cX2_form 45 = .ok (.getfield 20, 3) := by decide +kernel
theorem dX2_form_48 : decode cX2_form 48 = .ok (.bipush 8, 2) := by decide +kernel
theorem dX2_form_50 : decode cX2_form 50 = .ok (.iload_n 3, 1) := by decide +kernel
theorem dX2_form_51 : decode cX2_form 51 = .ok (.imul, 1) := by decide +kernel
theorem dX2_form_52 : decode cX2_form 52 = .ok (.iload 4, 2) := by decide +kernel
theorem dX2_form_54 : decode cX2_form 54 = .ok (.iadd, 1) := by decide +kernel
theorem dX2_form_55 : decode cX2_form 55 = .ok (.laload, 1) := by decide +kernel
theorem dX2_form_56 : decode cX2_form 56 = .ok (.lconst 0, 1) := by decide +kernel
theorem dX2_form_57 : decode cX2_form 57 = .ok (.lcmp, 1) := by decide +kernel
theorem dX2_form_58 : decode cX2_form 58 = .ok (.ifCond .ge 13, 3) := by decide +kernel
theorem dX2_form_61 : decode cX2_form 61 = .ok (.aload_n 0, 1) := by decide +kernel
theorem dX2_form_62 : decode cX2_form 62 = .ok (.iload_n 3, 1) := by decide +kernel
theorem dX2_form_63 : decode cX2_form 63 = .ok (.iload_n 3, 1) := by decide +kernel
theorem dX2_form_64 : decode cX2_form 64 = .ok (.ldc2_w 56, 3) := by decide +kernel
theorem dX2_form_67 : decode cX2_form 67 = .ok (.iload_n 2, 1) := by decide +kernel
theorem dX2_form_68 : decode cX2_form 68 = .ok (.invokevirtual 58, 3) := by decide +kernel
theorem dX2_form_71 : decode cX2_form 71 = .ok (.iconst 1, 1) := by decide +kernel
theorem dX2_form_72 : decode cX2_form 72 = .ok (.istore 6, 2) := by decide +kernel
theorem dX2_form_74 : decode cX2_form 74 = .ok (.iload_n 3, 1) := by decide +kernel
theorem dX2_form_75 : decode cX2_form 75 = .ok (.iconst 1, 1) := by decide +kernel
theorem dX2_form_76 : decode cX2_form 76 = .ok (.iadd, 1) := by decide +kernel
theorem dX2_form_77 : decode cX2_form 77 = .ok (.istore 7, 2) := by decide +kernel
theorem dX2_form_79 : decode cX2_form 79 = .ok (.iload 7, 2) := by decide +kernel
theorem dX2_form_81 : decode cX2_form 81 = .ok (.iload_n 1, 1) := by decide +kernel
theorem dX2_form_82 : decode cX2_form 82 = .ok (.if_icmp .ge 75, 3) := by decide +kernel
theorem dX2_form_85 : decode cX2_form 85 = .ok (.aload_n 0, 1) := by decide +kernel
theorem dX2_form_86 : decode cX2_form 86 = .ok (.iload 7, 2) := by decide +kernel
theorem dX2_form_88 : decode cX2_form 88 = .ok (.iload_n 3, 1) := by decide +kernel
theorem dX2_form_89 : decode cX2_form 89 = .ok (.aload_n 0, 1) := by decide +kernel
theorem dX2_form_90 : decode cX2_form 90 = .ok (.getfield 20, 3) := by decide +kernel
theorem dX2_form_93 : decode cX2_form 93 = .ok (.bipush 8, 2) := by decide +kernel
theorem dX2_form_95 : decode cX2_form 95 = .ok (.iload 7, 2) := by decide +kernel
theorem dX2_form_97 : decode cX2_form 97 = .ok (.imul, 1) := by decide +kernel
theorem dX2_form_98 : decode cX2_form 98 = .ok (.iload 4, 2) := by decide +kernel
theorem dX2_form_100 : decode cX2_form 100 = .ok (.iadd, 1) := by decide +kernel
theorem dX2_form_101 : decode cX2_form 101 = .ok (.laload, 1) := by decide +kernel
theorem dX2_form_102 : decode cX2_form 102 = .ok (.aload_n 0, 1) := by decide +kernel
theorem dX2_form_103 : decode cX2_form 103 = .ok (.getfield 20, 3) := by decide +kernel
theorem dX2_form_106 : decode cX2_form 106 = .ok (.bipush 8, 2) := by decide +kernel
theorem dX2_form_108 : decode cX2_form 108 = .ok (.iload_n 3, 1) := by decide +kernel
theorem dX2_form_109 : decode cX2_form 109 = .ok (.imul, 1) := by decide +kernel
theorem dX2_form_110 : decode cX2_form 110 = .ok (.iload 4, 2) := by decide +kernel
theorem dX2_form_112 : decode cX2_form 112 = .ok (.iadd, 1) := by decide +kernel
theorem dX2_form_113 : decode cX2_form 113 = .ok (.laload, 1) := by decide +kernel
theorem dX2_form_114 : decode cX2_form 114 = .ok (.invokestatic 62, 3) := by decide +kernel
theorem dX2_form_117 : decode cX2_form 117 = .ok (.iload_n 2, 1) := by decide +kernel
theorem dX2_form_118 : decode cX2_form 118 = .ok (.invokevirtual 58, 3) := by decide +kernel
theorem dX2_form_121 : decode cX2_form 121 = .ok (.iload 6, 2) := by decide +kernel
theorem dX2_form_123 : decode cX2_form 123 = .ok (.ifCond .eq 25, 3) := by decide +kernel
theorem dX2_form_126 : decode cX2_form 126 = .ok (.aload_n 0, 1) := by decide +kernel
theorem dX2_form_127 : decode cX2_form 127 = .ok (.getfield 20, 3) := by decide +kernel
theorem dX2_form_130 : decode cX2_form 130 = .ok (.bipush 8, 2) := by decide +kernel
theorem dX2_form_132 : decode cX2_form 132 = .ok (.iload 7, 2) := by decide +kernel
theorem dX2_form_134 : decode cX2_form 134 = .ok (.imul, 1) := by decide +kernel
theorem dX2_form_135 : decode cX2_form 135 = .ok (.iload 4, 2) := by decide +kernel
theorem dX2_form_137 : decode cX2_form 137 = .ok (.iadd, 1) := by decide +kernel
theorem dX2_form_138 : decode cX2_form 138 = .ok (.laload, 1) := by decide +kernel
theorem dX2_form_139 : decode cX2_form 139 = .ok (.lconst 0, 1) := by decide +kernel
theorem dX2_form_140 : decode cX2_form 140 = .ok (.lcmp, 1) := by decide +kernel
theorem dX2_form_141 : decode cX2_form 141 = .ok (.ifCond .ne 7, 3) := by decide +kernel
theorem dX2_form_144 : decode cX2_form 144 = .ok (.iconst 1, 1) := by decide +kernel
theorem dX2_form_145 : decode cX2_form 145 = .ok (.goto 4, 3) := by decide +kernel
theorem dX2_form_148 : decode cX2_form 148 = .ok (.iconst 0, 1) := by decide +kernel
theorem dX2_form_149 : decode cX2_form 149 = .ok (.istore 6, 2) := by decide +kernel
theorem dX2_form_151 : decode cX2_form 151 = .ok (.iinc 7 1, 3) := by decide +kernel
theorem dX2_form_154 : decode cX2_form 154 = .ok (.goto (-75), 3) := by decide +kernel
theorem dX2_form_157 : decode cX2_form 157 = .ok (.aload_n 0, 1) := by decide +kernel
theorem dX2_form_158 : decode cX2_form 158 = .ok (.iload_n 3, 1) := by decide +kernel
theorem dX2_form_159 : decode cX2_form 159 = .ok (.iload 4, 2) := by decide +kernel
theorem dX2_form_161 : decode cX2_form 161 = .ok (.iload_n 1, 1) := by decide +kernel
theorem dX2_form_162 : decode cX2_form 162 = .ok (.invokevirtual 48, 3) := by decide +kernel
theorem dX2_form_165 : decode cX2_form 165 = .ok (.istore 5, 2) := by decide +kernel
theorem dX2_form_167 : decode cX2_form 167 = .ok (.goto (-135), 3) := by decide +kernel
theorem dX2_form_170 : decode cX2_form 170 = .ok (.iconst 0, 1) := by decide +kernel
theorem dX2_form_171 : decode cX2_form 171 = .ok (.istore 7, 2) := by decide +kernel
theorem dX2_form_173 : decode cX2_form 173 = .ok (.iload 7, 2) := by decide +kernel
theorem dX2_form_175 : decode cX2_form 175 = .ok (.iload_n 3, 1) := by decide +kernel
theorem dX2_form_176 : decode cX2_form 176 = .ok (.if_icmp .ge 45, 3) := by decide +kernel
theorem dX2_form_179 : decode cX2_form 179 = .ok (.aload_n 0, 1) := by decide +kernel
theorem dX2_form_180 : decode cX2_form 180 = .ok (.iload 7, 2) := by decide +kernel
theorem dX2_form_182 : decode cX2_form 182 = .ok (.iload_n 3, 1) := by decide +kernel
theorem dX2_form_183 : decode cX2_form 183 = .ok (.aload_n 0, 1) := by decide +kernel
theorem dX2_form_184 : decode cX2_form 184 = .ok (.getfield 20, 3) := by decide +kernel
theorem dX2_form_187 : decode cX2_form 187 = .ok (.bipush 8, 2) := by decide +kernel
theorem dX2_form_189 : decode cX2_form 189 = .ok (.iload 7, 2) := by decide +kernel
theorem dX2_form_191 : decode cX2_form 191 = .ok (.imul, 1) := by decide +kernel
theorem dX2_form_192 : decode cX2_form 192 = .ok (.iload 4, 2) := by decide +kernel
theorem dX2_form_194 : decode cX2_form 194 = .ok (.iadd, 1) := by decide +kernel
theorem dX2_form_195 : decode cX2_form 195 = .ok (.laload, 1) := by decide +kernel
theorem dX2_form_196 : decode cX2_form 196 = .ok (.aload_n 0, 1) := by decide +kernel
theorem dX2_form_197 : decode cX2_form 197 = .ok (.getfield 20, 3) := by decide +kernel
theorem dX2_form_200 : decode cX2_form 200 = .ok (.bipush 8, 2) := by decide +kernel
theorem dX2_form_202 : decode cX2_form 202 = .ok (.iload_n 3, 1) := by decide +kernel
theorem dX2_form_203 : decode cX2_form 203 = .ok (.imul, 1) := by decide +kernel
theorem dX2_form_204 : decode cX2_form 204 = .ok (.iload 4, 2) := by decide +kernel
theorem dX2_form_206 : decode cX2_form 206 = .ok (.iadd, 1) := by decide +kernel
theorem dX2_form_207 : decode cX2_form 207 = .ok (.laload, 1) := by decide +kernel
theorem dX2_form_208 : decode cX2_form 208 = .ok (.invokestatic 62, 3) := by decide +kernel
theorem dX2_form_211 : decode cX2_form 211 = .ok (.iload_n 2, 1) := by decide +kernel
theorem dX2_form_212 : decode cX2_form 212 = .ok (.invokevirtual 58, 3) := by decide +kernel
theorem dX2_form_215 : decode cX2_form 215 = .ok (.iinc 7 1, 3) := by decide +kernel
theorem dX2_form_218 : decode cX2_form 218 = .ok (.goto (-45), 3) := by decide +kernel
theorem dX2_form_221 : decode cX2_form 221 = .ok (.aload_n 0, 1) := by decide +kernel
theorem dX2_form_222 : decode cX2_form 222 = .ok (.getfield 24, 3) := by decide +kernel
theorem dX2_form_225 : decode cX2_form 225 = .ok (.iload_n 3, 1) := by decide +kernel
theorem dX2_form_226 : decode cX2_form 226 = .ok (.iload 4, 2) := by decide +kernel
theorem dX2_form_228 : decode cX2_form 228 = .ok (.iastore, 1) := by decide +kernel
theorem dX2_form_229 : decode cX2_form 229 = .ok (.iinc 3 1, 3) := by decide +kernel
theorem dX2_form_232 : decode cX2_form 232 = .ok (.iinc 4 1, 3) := by decide +kernel
theorem dX2_form_235 : decode cX2_form 235 = .ok (.goto (-230), 3) := by decide +kernel
theorem dX2_form_238 : decode cX2_form 238 = .ok (.aload_n 0, 1) := by decide +kernel
theorem dX2_form_239 : decode cX2_form 239 = .ok (.iload_n 3, 1) := by decide +kernel
theorem dX2_form_240 : decode cX2_form 240 = .ok (.putfield 66, 3) := by decide +kernel
theorem dX2_form_243 : decode cX2_form 243 = .ok (.return_, 1) := by decide +kernel
theorem dX2_relate_0 : decode cX2_relate 0 = .ok (.iconst 0, 1) := by decide +kernel
theorem dX2_relate_1 : decode cX2_relate 1 = .ok (.istore_n 2, 1) := by decide +kernel
theorem dX2_relate_2 : decode cX2_relate 2 = .ok (.iload_n 2, 1) := by decide +kernel
theorem dX2_relate_3 : decode cX2_relate 3 = .ok (.aload_n 0, 1) := by decide +kernel
theorem dX2_relate_4 : decode cX2_relate 4 = .ok (.getfield 7, 3) := by decide +kernel
theorem dX2_relate_7 : decode cX2_relate 7 = .ok (.if_icmp .ge 65, 3) := by decide +kernel
theorem dX2_relate_10 : decode cX2_relate 10 = .ok (.iconst 0, 1) := by decide +kernel
theorem dX2_relate_11 : decode cX2_relate 11 = .ok (.istore_n 3, 1) := by decide +kernel
theorem dX2_relate_12 : decode cX2_relate 12 = .ok (.iload_n 3, 1) := by decide +kernel
theorem dX2_relate_13 : decode cX2_relate 13 = .ok (.bipush 8, 2) := by decide +kernel
theorem dX2_relate_15 : decode cX2_relate 15 = .ok (.if_icmp .ge 51, 3) := by decide +kernel
theorem dX2_relate_18 : decode cX2_relate 18 = .ok (.aload_n 0, 1) := by decide +kernel
theorem dX2_relate_19 : decode cX2_relate 19 = .ok (.getfield 20, 3) := by decide +kernel
theorem dX2_relate_22 : decode cX2_relate 22 = .ok (.bipush 8, 2) := by decide +kernel
theorem dX2_relate_24 : decode cX2_relate 24 = .ok (.iload_n 2, 1) := by decide +kernel
theorem dX2_relate_25 : decode cX2_relate 25 = .ok (.imul, 1) := by decide +kernel
theorem dX2_relate_26 : decode cX2_relate 26 = .ok (.iload_n 3, 1) := by decide +kernel
theorem dX2_relate_27 : decode cX2_relate 27 = .ok (.iadd, 1) := by decide +kernel
theorem dX2_relate_28 : decode cX2_relate 28 = .ok (.iload_n 3, 1) := by decide +kernel
theorem dX2_relate_29 : decode cX2_relate 29 = .ok (.iload_n 1, 1) := by decide +kernel
theorem dX2_relate_30 : decode cX2_relate 30 = .ok (.if_icmp .ge 17, 3) := by decide +kernel
theorem dX2_relate_33 : decode cX2_relate 33 = .ok (.aload_n 0, 1) := by decide +kernel
theorem dX2_relate_34 : decode cX2_relate 34 = .ok (.getfield 13, 3) := by decide +kernel
theorem dX2_relate_37 : decode cX2_relate 37 = .ok (.iconst 4, 1) := by decide +kernel
theorem dX2_relate_38 : decode cX2_relate 38 = .ok (.iload_n 3, 1) := by decide +kernel
theorem dX2_relate_39 : decode cX2_relate 39 = .ok (.imul, 1) := by decide +kernel
theorem dX2_relate_40 : decode cX2_relate 40 = .ok (.iload_n 2, 1) := by decide +kernel
theorem dX2_relate_41 : decode cX2_relate 41 = .ok (.iadd, 1) := by decide +kernel
theorem dX2_relate_42 : decode cX2_relate 42 = .ok (.iaload, 1) := by decide +kernel
theorem dX2_relate_43 : decode cX2_relate 43 = .ok (.i2l, 1) := by decide +kernel
theorem dX2_relate_44 : decode cX2_relate 44 = .ok (.goto 15, 3) := by decide +kernel
theorem dX2_relate_47 : decode cX2_relate 47 = .ok (.iload_n 3, 1) := by decide +kernel
theorem dX2_relate_48 : decode cX2_relate 48 = .ok (.iload_n 1, 1) := by decide +kernel
theorem dX2_relate_49 : decode cX2_relate 49 = .ok (.iload_n 2, 1) := by decide +kernel
theorem dX2_relate_50 : decode cX2_relate 50 = .ok (.iadd, 1) := by decide +kernel
theorem dX2_relate_51 : decode cX2_relate 51 = .ok (.if_icmp .ne 7, 3) := by decide +kernel
theorem dX2_relate_54 : decode cX2_relate 54 = .ok (.lconst 1, 1) := by decide +kernel
theorem dX2_relate_55 : decode cX2_relate 55 = .ok (.goto 4, 3) := by decide +kernel
theorem dX2_relate_58 : decode cX2_relate 58 = .ok (.lconst 0, 1) := by decide +kernel
theorem dX2_relate_59 : decode cX2_relate 59 = .ok (.lastore, 1) := by decide +kernel
theorem dX2_relate_60 : decode cX2_relate 60 = .ok (.iinc 3 1, 3) := by decide +kernel
theorem dX2_relate_63 : decode cX2_relate 63 = .ok (.goto (-51), 3) := by decide +kernel
theorem dX2_relate_66 : decode cX2_relate 66 = .ok (.iinc 2 1, 3) := by decide +kernel
theorem dX2_relate_69 : decode cX2_relate 69 = .ok (.goto (-67), 3) := by decide +kernel
theorem dX2_relate_72 : decode cX2_relate 72 = .ok (.aload_n 0, 1) := by decide +kernel
theorem dX2_relate_73 : decode cX2_relate 73 = .ok (.aload_n 0, 1) := by decide +kernel
theorem dX2_relate_74 : decode cX2_relate 74 = .ok (.getfield 7, 3) := by decide +kernel
theorem dX2_relate_77 : decode cX2_relate 77 = .ok (.iload_n 1, 1) := by decide +kernel
theorem dX2_relate_78 : decode cX2_relate 78 = .ok (.aload_n 0, 1) := by decide +kernel
theorem dX2_relate_79 : decode cX2_relate 79 = .ok (.getfield 7, 3) := by decide +kernel
theorem dX2_relate_82 : decode cX2_relate 82 = .ok (.iadd, 1) := by decide +kernel
theorem dX2_relate_83 : decode cX2_relate 83 = .ok (.invokevirtual 69, 3) := by decide +kernel
theorem dX2_relate_86 : decode cX2_relate 86 = .ok (.return_, 1) := by decide +kernel
theorem dX2_before_0 : decode cX2_before 0 = .ok (.iconst 0, 1) := by decide +kernel
theorem dX2_before_1 : decode cX2_before 1 = .ok (.istore_n 2, 1) := by decide +kernel
theorem dX2_before_2 : decode cX2_before 2 = .ok (.iload_n 2, 1) := by decide +kernel
theorem dX2_before_3 : decode cX2_before 3 = .ok (.aload_n 0, 1) := by decide +kernel
theorem dX2_before_4 : decode cX2_before 4 = .ok (.getfield 66, 3) := by decide +kernel
theorem dX2_before_7 : decode cX2_before 7 = .ok (.if_icmp .ge 19, 3) := by decide +kernel
theorem dX2_before_10 : decode cX2_before 10 = .ok (.aload_n 0, 1) := by decide +kernel
theorem dX2_before_11 : decode cX2_before 11 = .ok (.getfield 24, 3) := by decide +kernel
theorem dX2_before_14 : decode cX2_before 14 = .ok (.iload_n 2, 1) := by decide +kernel
theorem dX2_before_15 : decode cX2_before 15 = .ok (.iaload, 1) := by decide +kernel
theorem dX2_before_16 : decode cX2_before 16 = .ok (.iload_n 1, 1) := by decide +kernel
theorem dX2_before_17 : decode cX2_before 17 = .ok (.if_icmp .ge 9, 3) := by decide +kernel
theorem dX2_before_20 : decode cX2_before 20 = .ok (.iinc 2 1, 3) := by decide +kernel
theorem dX2_before_23 : decode cX2_before 23 = .ok (.goto (-21), 3) := by decide +kernel
theorem dX2_before_26 : decode cX2_before 26 = .ok (.iload_n 2, 1) := by decide +kernel
theorem dX2_before_27 : decode cX2_before 27 = .ok (.ireturn, 1) := by decide +kernel
theorem dX2_comes_0 : decode cX2_comes 0 = .ok (.iconst 0, 1) := by decide +kernel
theorem dX2_comes_1 : decode cX2_comes 1 = .ok (.istore_n 2, 1) := by decide +kernel
theorem dX2_comes_2 : decode cX2_comes 2 = .ok (.iload_n 2, 1) := by decide +kernel
theorem dX2_comes_3 : decode cX2_comes 3 = .ok (.iconst 4, 1) := by decide +kernel
theorem dX2_comes_4 : decode cX2_comes 4 = .ok (.if_icmp .ge 16, 3) := by decide +kernel
theorem dX2_comes_7 : decode cX2_comes 7 = .ok (.aload_n 0, 1) := by decide +kernel
theorem dX2_comes_8 : decode cX2_comes 8 = .ok (.getfield 30, 3) := by decide +kernel
theorem dX2_comes_11 : decode cX2_comes 11 = .ok (.iload_n 2, 1) := by decide +kernel
theorem dX2_comes_12 : decode cX2_comes 12 = .ok (.lconst 0, 1) := by decide +kernel
theorem dX2_comes_13 : decode cX2_comes 13 = .ok (.lastore, 1) := by decide +kernel
theorem dX2_comes_14 : decode cX2_comes 14 = .ok (.iinc 2 1, 3) := by decide +kernel
theorem dX2_comes_17 : decode cX2_comes 17 = .ok (.goto (-15), 3) := by decide +kernel
theorem dX2_comes_20 : decode cX2_comes 20 = .ok (.aload_n 0, 1) := by decide +kernel
theorem dX2_comes_21 : decode cX2_comes 21 = .ok (.iload_n 1, 1) := by decide +kernel
theorem dX2_comes_22 : decode cX2_comes 22 = .ok (.invokevirtual 72, 3) := by decide +kernel
theorem dX2_comes_25 : decode cX2_comes 25 = .ok (.istore_n 2, 1) := by decide +kernel
theorem dX2_comes_26 : decode cX2_comes 26 = .ok (.iconst 0, 1) := by decide +kernel
theorem dX2_comes_27 : decode cX2_comes 27 = .ok (.istore_n 3, 1) := by decide +kernel
theorem dX2_comes_28 : decode cX2_comes 28 = .ok (.iload_n 3, 1) := by decide +kernel
theorem dX2_comes_29 : decode cX2_comes 29 = .ok (.iload_n 2, 1) := by decide +kernel
theorem dX2_comes_30 : decode cX2_comes 30 = .ok (.if_icmp .ge 159, 3) := by decide +kernel
theorem dX2_comes_33 : decode cX2_comes 33 = .ok (.aload_n 0, 1) := by decide +kernel
theorem dX2_comes_34 : decode cX2_comes 34 = .ok (.getfield 20, 3) := by decide +kernel
theorem dX2_comes_37 : decode cX2_comes 37 = .ok (.bipush 8, 2) := by decide +kernel
theorem dX2_comes_39 : decode cX2_comes 39 = .ok (.iload_n 3, 1) := by decide +kernel
theorem dX2_comes_40 : decode cX2_comes 40 = .ok (.imul, 1) := by decide +kernel
theorem dX2_comes_41 : decode cX2_comes 41 = .ok (.aload_n 0, 1) := by decide +kernel
theorem dX2_comes_42 : decode cX2_comes 42 = .ok (.getfield 24, 3) := by decide +kernel
theorem dX2_comes_45 : decode cX2_comes 45 = .ok (.iload_n 3, 1) := by decide +kernel
theorem dX2_comes_46 : decode cX2_comes 46 = .ok (.iaload, 1) := by decide +kernel
theorem dX2_comes_47 : decode cX2_comes 47 = .ok (.iadd, 1) := by decide +kernel
theorem dX2_comes_48 : decode cX2_comes 48 = .ok (.laload, 1) := by decide +kernel
theorem dX2_comes_49 : decode cX2_comes 49 = .ok (.lstore 4, 2) := by decide +kernel
theorem dX2_comes_51 : decode cX2_comes 51 = .ok (.aload_n 0, 1) := by decide +kernel
theorem dX2_comes_52 : decode cX2_comes 52 = .ok (.getfield 27, 3) := by decide +kernel
theorem dX2_comes_55 : decode cX2_comes 55 = .ok (.aload_n 0, 1) := by decide +kernel
theorem dX2_comes_56 : decode cX2_comes 56 = .ok (.getfield 24, 3) := by decide +kernel
theorem dX2_comes_59 : decode cX2_comes 59 = .ok (.iload_n 3, 1) := by decide +kernel
theorem dX2_comes_60 : decode cX2_comes 60 = .ok (.iaload, 1) := by decide +kernel
theorem dX2_comes_61 : decode cX2_comes 61 = .ok (.laload, 1) := by decide +kernel
theorem dX2_comes_62 : decode cX2_comes 62 = .ok (.lload 4, 2) := by decide +kernel
theorem dX2_comes_64 : decode cX2_comes 64 = .ok (.ldiv, 1) := by decide +kernel
theorem dX2_comes_65 : decode cX2_comes 65 = .ok (.lstore 6, 2) := by decide +kernel
theorem dX2_comes_67 : decode cX2_comes 67 = .ok (.lload 6, 2) := by decide +kernel
theorem dX2_comes_69 : decode cX2_comes 69 = .ok (.lload 4, 2) := by decide +kernel
theorem dX2_comes_71 : decode cX2_comes 71 = .ok (.lmul, 1) := by decide +kernel
theorem dX2_comes_72 : decode cX2_comes 72 = .ok (.aload_n 0, 1) := by decide +kernel
theorem dX2_comes_73 : decode cX2_comes 73 = .ok (.getfield 27, 3) := by decide +kernel
theorem dX2_comes_76 : decode cX2_comes 76 = .ok (.aload_n 0, 1) := by decide +kernel
theorem dX2_comes_77 : decode cX2_comes 77 = .ok (.getfield 24, 3) := by decide +kernel
theorem dX2_comes_80 : decode cX2_comes 80 = .ok (.iload_n 3, 1) := by decide +kernel
theorem dX2_comes_81 : decode cX2_comes 81 = .ok (.iaload, 1) := by decide +kernel
theorem dX2_comes_82 : decode cX2_comes 82 = .ok (.laload, 1) := by decide +kernel
theorem dX2_comes_83 : decode cX2_comes 83 = .ok (.lcmp, 1) := by decide +kernel
theorem dX2_comes_84 : decode cX2_comes 84 = .ok (.ifCond .eq 5, 3) := by decide +kernel
theorem dX2_comes_87 : decode cX2_comes 87 = .ok (.iconst 0, 1) := by decide +kernel
theorem dX2_comes_88 : decode cX2_comes 88 = .ok (.ireturn, 1) := by decide +kernel
theorem dX2_comes_89 : decode cX2_comes 89 = .ok (.iconst 0, 1) := by decide +kernel
theorem dX2_comes_90 : decode cX2_comes 90 = .ok (.istore 8, 2) := by decide +kernel
theorem dX2_comes_92 : decode cX2_comes 92 = .ok (.iload 8, 2) := by decide +kernel
theorem dX2_comes_94 : decode cX2_comes 94 = .ok (.iload_n 1, 1) := by decide +kernel
theorem dX2_comes_95 : decode cX2_comes 95 = .ok (.if_icmp .ge 34, 3) := by decide +kernel
theorem dX2_comes_98 : decode cX2_comes 98 = .ok (.aload_n 0, 1) := by decide +kernel
theorem dX2_comes_99 : decode cX2_comes 99 = .ok (.getfield 27, 3) := by decide +kernel
theorem dX2_comes_102 : decode cX2_comes 102 = .ok (.iload 8, 2) := by decide +kernel
theorem dX2_comes_104 : decode cX2_comes 104 = .ok (.dup2, 1) := by decide +kernel
theorem dX2_comes_105 : decode cX2_comes 105 = .ok (.laload, 1) := by decide +kernel
theorem dX2_comes_106 : decode cX2_comes 106 = .ok (.lload 6, 2) := by decide +kernel
theorem dX2_comes_108 : decode cX2_comes 108 = .ok (.aload_n 0, 1) := by decide +kernel
theorem dX2_comes_109 : decode cX2_comes 109 = .ok (.getfield 20, 3) := by decide +kernel
theorem dX2_comes_112 : decode cX2_comes 112 = .ok (.bipush 8, 2) := by decide +kernel
theorem dX2_comes_114 : decode cX2_comes 114 = .ok (.iload_n 3, 1) := by decide +kernel
theorem dX2_comes_115 : decode cX2_comes 115 = .ok (.imul, 1) := by decide +kernel
theorem dX2_comes_116 : decode cX2_comes 116 = .ok (.iload 8, 2) := by decide +kernel
theorem dX2_comes_118 : decode cX2_comes 118 = .ok (.iadd, 1) := by decide +kernel
theorem dX2_comes_119 : decode cX2_comes 119 = .ok (.laload, 1) := by decide +kernel
theorem dX2_comes_120 : decode cX2_comes 120 = .ok (.lmul, 1) := by decide +kernel
theorem dX2_comes_121 : decode cX2_comes 121 = .ok (.lsub, 1) := by decide +kernel
theorem dX2_comes_122 : decode cX2_comes 122 = .ok (.lastore, 1) := by decide +kernel
theorem dX2_comes_123 : decode cX2_comes 123 = .ok (.iinc 8 1, 3) := by decide +kernel
theorem dX2_comes_126 : decode cX2_comes 126 = .ok (.goto (-34), 3) := by decide +kernel
theorem dX2_comes_129 : decode cX2_comes 129 = .ok (.iconst 0, 1) := by decide +kernel
theorem dX2_comes_130 : decode cX2_comes 130 = .ok (.istore 8, 2) := by decide +kernel
theorem dX2_comes_132 : decode cX2_comes 132 = .ok (.iload 8, 2) := by decide +kernel
theorem dX2_comes_134 : decode cX2_comes 134 = .ok (.aload_n 0, 1) := by decide +kernel
theorem dX2_comes_135 : decode cX2_comes 135 = .ok (.getfield 7, 3) := by decide +kernel
theorem dX2_comes_138 : decode cX2_comes 138 = .ok (.if_icmp .ge 45, 3) := by decide +kernel
theorem dX2_comes_141 : decode cX2_comes 141 = .ok (.iload_n 1, 1) := by decide +kernel
theorem dX2_comes_142 : decode cX2_comes 142 = .ok (.iload 8, 2) := by decide +kernel
theorem dX2_comes_144 : decode cX2_comes 144 = .ok (.iadd, 1) := by decide +kernel
theorem dX2_comes_145 : decode cX2_comes 145 = .ok (.bipush 8, 2) := by decide +kernel
theorem dX2_comes_147 : decode cX2_comes 147 = .ok (.if_icmp .ge 36, 3) := by decide +kernel
theorem dX2_comes_150 : decode cX2_comes 150 = .ok (.aload_n 0, 1) := by decide +kernel
theorem dX2_comes_151 : decode cX2_comes 151 = .ok (.getfield 30, 3) := by decide +kernel
theorem dX2_comes_154 : decode cX2_comes 154 = .ok (.iload 8, 2) := by decide +kernel
theorem dX2_comes_156 : decode cX2_comes 156 = .ok (.dup2, 1) := by decide +kernel
theorem dX2_comes_157 : decode cX2_comes 157 = .ok (.laload, 1) := by decide +kernel
theorem dX2_comes_158 : decode cX2_comes 158 = .ok (.lload 6, 2) := by decide +kernel
theorem dX2_comes_160 : decode cX2_comes 160 = .ok (.aload_n 0, 1) := by decide +kernel
theorem dX2_comes_161 : decode cX2_comes 161 = .ok (.getfield 20, 3) := by decide +kernel
theorem dX2_comes_164 : decode cX2_comes 164 = .ok (.bipush 8, 2) := by decide +kernel
theorem dX2_comes_166 : decode cX2_comes 166 = .ok (.iload_n 3, 1) := by decide +kernel
theorem dX2_comes_167 : decode cX2_comes 167 = .ok (.imul, 1) := by decide +kernel
theorem dX2_comes_168 : decode cX2_comes 168 = .ok (.iload_n 1, 1) := by decide +kernel
theorem dX2_comes_169 : decode cX2_comes 169 = .ok (.iadd, 1) := by decide +kernel
theorem dX2_comes_170 : decode cX2_comes 170 = .ok (.iload 8, 2) := by decide +kernel
theorem dX2_comes_172 : decode cX2_comes 172 = .ok (.iadd, 1) := by decide +kernel
theorem dX2_comes_173 : decode cX2_comes 173 = .ok (.laload, 1) := by decide +kernel
theorem dX2_comes_174 : decode cX2_comes 174 = .ok (.lmul, 1) := by decide +kernel
theorem dX2_comes_175 : decode cX2_comes 175 = .ok (.ladd, 1) := by decide +kernel
theorem dX2_comes_176 : decode cX2_comes 176 = .ok (.lastore, 1) := by decide +kernel
theorem dX2_comes_177 : decode cX2_comes 177 = .ok (.iinc 8 1, 3) := by decide +kernel
theorem dX2_comes_180 : decode cX2_comes 180 = .ok (.goto (-48), 3) := by decide +kernel
theorem dX2_comes_183 : decode cX2_comes 183 = .ok (.iinc 3 1, 3) := by decide +kernel
theorem dX2_comes_186 : decode cX2_comes 186 = .ok (.goto (-158), 3) := by decide +kernel
theorem dX2_comes_189 : decode cX2_comes 189 = .ok (.iconst 0, 1) := by decide +kernel
theorem dX2_comes_190 : decode cX2_comes 190 = .ok (.istore_n 3, 1) := by decide +kernel
theorem dX2_comes_191 : decode cX2_comes 191 = .ok (.iload_n 3, 1) := by decide +kernel
theorem dX2_comes_192 : decode cX2_comes 192 = .ok (.iload_n 1, 1) := by decide +kernel
theorem dX2_comes_193 : decode cX2_comes 193 = .ok (.if_icmp .ge 22, 3) := by decide +kernel
theorem dX2_comes_196 : decode cX2_comes 196 = .ok (.aload_n 0, 1) := by decide +kernel
theorem dX2_comes_197 : decode cX2_comes 197 = .ok (.getfield 27, 3) := by decide +kernel
theorem dX2_comes_200 : decode cX2_comes 200 = .ok (.iload_n 3, 1) := by decide +kernel
theorem dX2_comes_201 : decode cX2_comes 201 = .ok (.laload, 1) := by decide +kernel
theorem dX2_comes_202 : decode cX2_comes 202 = .ok (.lconst 0, 1) := by decide +kernel
theorem dX2_comes_203 : decode cX2_comes 203 = .ok (.lcmp, 1) := by decide +kernel
theorem dX2_comes_204 : decode cX2_comes 204 = .ok (.ifCond .eq 5, 3) := by decide +kernel
theorem dX2_comes_207 : decode cX2_comes 207 = .ok (.iconst 0, 1) := by decide +kernel
theorem dX2_comes_208 : decode cX2_comes 208 = .ok (.ireturn, 1) := by decide +kernel
theorem dX2_comes_209 : decode cX2_comes 209 = .ok (.iinc 3 1, 3) := by decide +kernel
theorem dX2_comes_212 : decode cX2_comes 212 = .ok (.goto (-21), 3) := by decide +kernel
theorem dX2_comes_215 : decode cX2_comes 215 = .ok (.iconst 1, 1) := by decide +kernel
theorem dX2_comes_216 : decode cX2_comes 216 = .ok (.ireturn, 1) := by decide +kernel
theorem dX2_goes_0 : decode cX2_goes 0 = .ok (.aload_n 0, 1) := by decide +kernel
theorem dX2_goes_1 : decode cX2_goes 1 = .ok (.iload_n 1, 1) := by decide +kernel
theorem dX2_goes_2 : decode cX2_goes 2 = .ok (.invokevirtual 76, 3) := by decide +kernel
theorem dX2_goes_5 : decode cX2_goes 5 = .ok (.iconst 0, 1) := by decide +kernel
theorem dX2_goes_6 : decode cX2_goes 6 = .ok (.istore_n 2, 1) := by decide +kernel
theorem dX2_goes_7 : decode cX2_goes 7 = .ok (.iload_n 2, 1) := by decide +kernel
theorem dX2_goes_8 : decode cX2_goes 8 = .ok (.iload_n 1, 1) := by decide +kernel
theorem dX2_goes_9 : decode cX2_goes 9 = .ok (.if_icmp .ge 22, 3) := by decide +kernel
theorem dX2_goes_12 : decode cX2_goes 12 = .ok (.aload_n 0, 1) := by decide +kernel
theorem dX2_goes_13 : decode cX2_goes 13 = .ok (.getfield 27, 3) := by decide +kernel
theorem dX2_goes_16 : decode cX2_goes 16 = .ok (.iload_n 2, 1) := by decide +kernel
theorem dX2_goes_17 : decode cX2_goes 17 = .ok (.aload_n 0, 1) := by decide +kernel
theorem dX2_goes_18 : decode cX2_goes 18 = .ok (.getfield 17, 3) := by decide +kernel
theorem dX2_goes_21 : decode cX2_goes 21 = .ok (.iload_n 2, 1) := by decide +kernel
theorem dX2_goes_22 : decode cX2_goes 22 = .ok (.iaload, 1) := by decide +kernel
theorem dX2_goes_23 : decode cX2_goes 23 = .ok (.i2l, 1) := by decide +kernel
theorem dX2_goes_24 : decode cX2_goes 24 = .ok (.lastore, 1) := by decide +kernel
theorem dX2_goes_25 : decode cX2_goes 25 = .ok (.iinc 2 1, 3) := by decide +kernel
theorem dX2_goes_28 : decode cX2_goes 28 = .ok (.goto (-21), 3) := by decide +kernel
theorem dX2_goes_31 : decode cX2_goes 31 = .ok (.aload_n 0, 1) := by decide +kernel
theorem dX2_goes_32 : decode cX2_goes 32 = .ok (.iload_n 1, 1) := by decide +kernel
theorem dX2_goes_33 : decode cX2_goes 33 = .ok (.invokevirtual 80, 3) := by decide +kernel
theorem dX2_goes_36 : decode cX2_goes 36 = .ok (.ireturn, 1) := by decide +kernel
theorem dX2_basisCount_0 : decode cX2_basisCount 0 = .ok (.aload_n 0, 1) := by decide +kernel
theorem dX2_basisCount_1 : decode cX2_basisCount 1 = .ok (.getfield 66, 3) := by decide +kernel
theorem dX2_basisCount_4 : decode cX2_basisCount 4 = .ok (.aload_n 0, 1) := by decide +kernel
theorem dX2_basisCount_5 : decode cX2_basisCount 5 = .ok (.aload_n 0, 1) := by decide +kernel
theorem dX2_basisCount_6 : decode cX2_basisCount 6 = .ok (.getfield 33, 3) := by decide +kernel
theorem dX2_basisCount_9 : decode cX2_basisCount 9 = .ok (.invokevirtual 72, 3) := by decide +kernel
theorem dX2_basisCount_12 : decode cX2_basisCount 12 = .ok (.isub, 1) := by decide +kernel
theorem dX2_basisCount_13 : decode cX2_basisCount 13 = .ok (.ireturn, 1) := by decide +kernel
theorem dX2_solve_0 : decode cX2_solve 0 = .ok (.aload_n 0, 1) := by decide +kernel
theorem dX2_solve_1 : decode cX2_solve 1 = .ok (.aload_n 0, 1) := by decide +kernel
theorem dX2_solve_2 : decode cX2_solve 2 = .ok (.getfield 33, 3) := by decide +kernel
theorem dX2_solve_5 : decode cX2_solve 5 = .ok (.invokevirtual 83, 3) := by decide +kernel
theorem dX2_solve_8 : decode cX2_solve 8 = .ok (.ifCond .eq 10, 3) := by decide +kernel
theorem dX2_solve_11 : decode cX2_solve 11 = .ok (.aload_n 0, 1) := by decide +kernel
theorem dX2_solve_12 : decode cX2_solve 12 = .ok (.invokevirtual 86, 3) := by decide +kernel
theorem dX2_solve_15 : decode cX2_solve 15 = .ok (.goto 4, 3) := by decide +kernel
theorem dX2_solve_18 : decode cX2_solve 18 = .ok (.iconst (-1), 1) := by decide +kernel
theorem dX2_solve_19 : decode cX2_solve 19 = .ok (.ireturn, 1) := by decide +kernel
theorem dX2_fails_0 : decode cX2_fails 0 = .ok (.iconst 1, 1) := by decide +kernel
theorem dX2_fails_1 : decode cX2_fails 1 = .ok (.istore_n 1, 1) := by decide +kernel
theorem dX2_fails_2 : decode cX2_fails 2 = .ok (.iload_n 1, 1) := by decide +kernel
theorem dX2_fails_3 : decode cX2_fails 3 = .ok (.aload_n 0, 1) := by decide +kernel
theorem dX2_fails_4 : decode cX2_fails 4 = .ok (.getfield 33, 3) := by decide +kernel
theorem dX2_fails_7 : decode cX2_fails 7 = .ok (.if_icmp .gt 21, 3) := by decide +kernel
theorem dX2_fails_10 : decode cX2_fails 10 = .ok (.aload_n 0, 1) := by decide +kernel
theorem dX2_fails_11 : decode cX2_fails 11 = .ok (.iload_n 1, 1) := by decide +kernel
theorem dX2_fails_12 : decode cX2_fails 12 = .ok (.invokevirtual 83, 3) := by decide +kernel
theorem dX2_fails_15 : decode cX2_fails 15 = .ok (.ifCond .ne 7, 3) := by decide +kernel
theorem dX2_fails_18 : decode cX2_fails 18 = .ok (.iload_n 1, 1) := by decide +kernel
theorem dX2_fails_19 : decode cX2_fails 19 = .ok (.iconst 1, 1) := by decide +kernel
theorem dX2_fails_20 : decode cX2_fails 20 = .ok (.isub, 1) := by decide +kernel
theorem dX2_fails_21 : decode cX2_fails 21 = .ok (.ireturn, 1) := by decide +kernel
theorem dX2_fails_22 : decode cX2_fails 22 = .ok (.iinc 1 1, 3) := by decide +kernel
theorem dX2_fails_25 : decode cX2_fails 25 = .ok (.goto (-23), 3) := by decide +kernel
theorem dX2_fails_28 : decode cX2_fails 28 = .ok (.iconst (-1), 1) := by decide +kernel
theorem dX2_fails_29 : decode cX2_fails 29 = .ok (.ireturn, 1) := by decide +kernel
theorem dX2_solution_0 : decode cX2_solution 0 = .ok (.iload_n 1, 1) := by decide +kernel
theorem dX2_solution_1 : decode cX2_solution 1 = .ok (.ifCond .lt 22, 3) := by decide +kernel
theorem dX2_solution_4 : decode cX2_solution 4 = .ok (.iload_n 1, 1) := by decide +kernel
theorem dX2_solution_5 : decode cX2_solution 5 = .ok (.aload_n 0, 1) := by decide +kernel
theorem dX2_solution_6 : decode cX2_solution 6 = .ok (.getfield 7, 3) := by decide +kernel
theorem dX2_solution_9 : decode cX2_solution 9 = .ok (.if_icmp .ge 14, 3) := by decide +kernel
theorem dX2_solution_12 : decode cX2_solution 12 = .ok (.aload_n 0, 1) := by decide +kernel
theorem dX2_solution_13 : decode cX2_solution 13 = .ok (.aload_n 0, 1) := by decide +kernel
theorem dX2_solution_14 : decode cX2_solution 14 = .ok (.getfield 33, 3) := by decide +kernel
theorem dX2_solution_17 : decode cX2_solution 17 = .ok (.invokevirtual 83, 3) := by decide +kernel
theorem dX2_solution_20 : decode cX2_solution 20 = .ok (.ifCond .ne 7, 3) := by decide +kernel
theorem dX2_solution_23 : decode cX2_solution 23 = .ok (.ldc2_w 90, 3) := by decide +kernel
theorem dX2_solution_26 : decode cX2_solution 26 = .ok (.lreturn, 1) := by decide +kernel
theorem dX2_solution_27 : decode cX2_solution 27 = .ok (.aload_n 0, 1) := by decide +kernel
theorem dX2_solution_28 : decode cX2_solution 28 = .ok (.aload_n 0, 1) := by decide +kernel
theorem dX2_solution_29 : decode cX2_solution 29 = .ok (.getfield 33, 3) := by decide +kernel
theorem dX2_solution_32 : decode cX2_solution 32 = .ok (.invokevirtual 72, 3) := by decide +kernel
theorem dX2_solution_35 : decode cX2_solution 35 = .ok (.istore_n 2, 1) := by decide +kernel
theorem dX2_solution_36 : decode cX2_solution 36 = .ok (.iload_n 2, 1) := by decide +kernel
theorem dX2_solution_37 : decode cX2_solution 37 = .ok (.aload_n 0, 1) := by decide +kernel
theorem dX2_solution_38 : decode cX2_solution 38 = .ok (.getfield 66, 3) := by decide +kernel
theorem dX2_solution_41 : decode cX2_solution 41 = .ok (.if_icmp .ge 96, 3) := by decide +kernel
theorem dX2_solution_44 : decode cX2_solution 44 = .ok (.aload_n 0, 1) := by decide +kernel
theorem dX2_solution_45 : decode cX2_solution 45 = .ok (.getfield 24, 3) := by decide +kernel
theorem dX2_solution_48 : decode cX2_solution 48 = .ok (.iload_n 2, 1) := by decide +kernel
theorem dX2_solution_49 : decode cX2_solution 49 = .ok (.iaload, 1) := by decide +kernel
theorem dX2_solution_50 : decode cX2_solution 50 = .ok (.aload_n 0, 1) := by decide +kernel
theorem dX2_solution_51 : decode cX2_solution 51 = .ok (.getfield 33, 3) := by decide +kernel
theorem dX2_solution_54 : decode cX2_solution 54 = .ok (.isub, 1) := by decide +kernel
theorem dX2_solution_55 : decode cX2_solution 55 = .ok (.istore_n 3, 1) := by decide +kernel
theorem dX2_solution_56 : decode cX2_solution 56 = .ok (.aload_n 0, 1) := by decide +kernel
theorem dX2_solution_57 : decode cX2_solution 57 = .ok (.getfield 30, 3) := by decide +kernel
theorem dX2_solution_60 : decode cX2_solution 60 = .ok (.iload_n 3, 1) := by decide +kernel
theorem dX2_solution_61 : decode cX2_solution 61 = .ok (.laload, 1) := by decide +kernel
theorem dX2_solution_62 : decode cX2_solution 62 = .ok (.aload_n 0, 1) := by decide +kernel
theorem dX2_solution_63 : decode cX2_solution 63 = .ok (.getfield 20, 3) := by decide +kernel
theorem dX2_solution_66 : decode cX2_solution 66 = .ok (.bipush 8, 2) := by decide +kernel
theorem dX2_solution_68 : decode cX2_solution 68 = .ok (.iload_n 2, 1) := by decide +kernel
theorem dX2_solution_69 : decode cX2_solution 69 = .ok (.imul, 1) := by decide +kernel
theorem dX2_solution_70 : decode cX2_solution 70 = .ok (.aload_n 0, 1) := by decide +kernel
theorem dX2_solution_71 : decode cX2_solution 71 = .ok (.getfield 24, 3) := by decide +kernel
theorem dX2_solution_74 : decode cX2_solution 74 = .ok (.iload_n 2, 1) := by decide +kernel
theorem dX2_solution_75 : decode cX2_solution 75 = .ok (.iaload, 1) := by decide +kernel
theorem dX2_solution_76 : decode cX2_solution 76 = .ok (.iadd, 1) := by decide +kernel
theorem dX2_solution_77 : decode cX2_solution 77 = .ok (.laload, 1) := by decide +kernel
theorem dX2_solution_78 : decode cX2_solution 78 = .ok (.invokestatic 62, 3) := by decide +kernel
theorem dX2_solution_81 : decode cX2_solution 81 = .ok (.lstore 4, 2) := by decide +kernel
theorem dX2_solution_83 : decode cX2_solution 83 = .ok (.iconst 0, 1) := by decide +kernel
theorem dX2_solution_84 : decode cX2_solution 84 = .ok (.istore 6, 2) := by decide +kernel
theorem dX2_solution_86 : decode cX2_solution 86 = .ok (.iload 6, 2) := by decide +kernel
theorem dX2_solution_88 : decode cX2_solution 88 = .ok (.aload_n 0, 1) := by decide +kernel
theorem dX2_solution_89 : decode cX2_solution 89 = .ok (.getfield 7, 3) := by decide +kernel
theorem dX2_solution_92 : decode cX2_solution 92 = .ok (.if_icmp .ge 39, 3) := by decide +kernel
theorem dX2_solution_95 : decode cX2_solution 95 = .ok (.aload_n 0, 1) := by decide +kernel
theorem dX2_solution_96 : decode cX2_solution 96 = .ok (.getfield 30, 3) := by decide +kernel
theorem dX2_solution_99 : decode cX2_solution 99 = .ok (.iload 6, 2) := by decide +kernel
theorem dX2_solution_101 : decode cX2_solution 101 = .ok (.dup2, 1) := by decide +kernel
theorem dX2_solution_102 : decode cX2_solution 102 = .ok (.laload, 1) := by decide +kernel
theorem dX2_solution_103 : decode cX2_solution 103 = .ok (.lload 4, 2) := by decide +kernel
theorem dX2_solution_105 : decode cX2_solution 105 = .ok (.aload_n 0, 1) := by decide +kernel
theorem dX2_solution_106 : decode cX2_solution 106 = .ok (.getfield 20, 3) := by decide +kernel
theorem dX2_solution_109 : decode cX2_solution 109 = .ok (.bipush 8, 2) := by decide +kernel
theorem dX2_solution_111 : decode cX2_solution 111 = .ok (.iload_n 2, 1) := by decide +kernel
theorem dX2_solution_112 : decode cX2_solution 112 = .ok (.imul, 1) := by decide +kernel
theorem dX2_solution_113 : decode cX2_solution 113 = .ok (.aload_n 0, 1) := by decide +kernel
theorem dX2_solution_114 : decode cX2_solution 114 = .ok (.getfield 33, 3) := by decide +kernel
theorem dX2_solution_117 : decode cX2_solution 117 = .ok (.iadd, 1) := by decide +kernel
theorem dX2_solution_118 : decode cX2_solution 118 = .ok (.iload 6, 2) := by decide +kernel
theorem dX2_solution_120 : decode cX2_solution 120 = .ok (.iadd, 1) := by decide +kernel
theorem dX2_solution_121 : decode cX2_solution 121 = .ok (.laload, 1) := by decide +kernel
theorem dX2_solution_122 : decode cX2_solution 122 = .ok (.lmul, 1) := by decide +kernel
theorem dX2_solution_123 : decode cX2_solution 123 = .ok (.lsub, 1) := by decide +kernel
theorem dX2_solution_124 : decode cX2_solution 124 = .ok (.lastore, 1) := by decide +kernel
theorem dX2_solution_125 : decode cX2_solution 125 = .ok (.iinc 6 1, 3) := by decide +kernel
theorem dX2_solution_128 : decode cX2_solution 128 = .ok (.goto (-42), 3) := by decide +kernel
theorem dX2_solution_131 : decode cX2_solution 131 = .ok (.iinc 2 1, 3) := by decide +kernel
theorem dX2_solution_134 : decode cX2_solution 134 = .ok (.goto (-98), 3) := by decide +kernel
theorem dX2_solution_137 : decode cX2_solution 137 = .ok (.aload_n 0, 1) := by decide +kernel
theorem dX2_solution_138 : decode cX2_solution 138 = .ok (.getfield 30, 3) := by decide +kernel
theorem dX2_solution_141 : decode cX2_solution 141 = .ok (.iload_n 1, 1) := by decide +kernel
theorem dX2_solution_142 : decode cX2_solution 142 = .ok (.laload, 1) := by decide +kernel
