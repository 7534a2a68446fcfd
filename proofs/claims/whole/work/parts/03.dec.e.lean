theorem dX2_solution_143 : decode cX2_solution 143 = .ok (.lreturn, 1) := by decide +kernel
theorem dX2_basis_0 : decode cX2_basis 0 = .ok (.aload_n 0, 1) := by decide +kernel
theorem dX2_basis_1 : decode cX2_basis 1 = .ok (.aload_n 0, 1) := by decide +kernel
theorem dX2_basis_2 : decode cX2_basis 2 = .ok (.getfield 33, 3) := by decide +kernel
theorem dX2_basis_5 : decode cX2_basis 5 = .ok (.invokevirtual 76, 3) := by decide +kernel
theorem dX2_basis_8 : decode cX2_basis 8 = .ok (.iload_n 1, 1) := by decide +kernel
theorem dX2_basis_9 : decode cX2_basis 9 = .ok (.ifCond .lt 23, 3) := by decide +kernel
theorem dX2_basis_12 : decode cX2_basis 12 = .ok (.iload_n 1, 1) := by decide +kernel
theorem dX2_basis_13 : decode cX2_basis 13 = .ok (.aload_n 0, 1) := by decide +kernel
theorem dX2_basis_14 : decode cX2_basis 14 = .ok (.invokevirtual 86, 3) := by decide +kernel
theorem dX2_basis_17 : decode cX2_basis 17 = .ok (.if_icmp .ge 15, 3) := by decide +kernel
theorem dX2_basis_20 : decode cX2_basis 20 = .ok (.iload_n 2, 1) := by decide +kernel
theorem dX2_basis_21 : decode cX2_basis 21 = .ok (.ifCond .lt 11, 3) := by decide +kernel
theorem dX2_basis_24 : decode cX2_basis 24 = .ok (.iload_n 2, 1) := by decide +kernel
theorem dX2_basis_25 : decode cX2_basis 25 = .ok (.aload_n 0, 1) := by decide +kernel
theorem dX2_basis_26 : decode cX2_basis 26 = .ok (.getfield 7, 3) := by decide +kernel
theorem dX2_basis_29 : decode cX2_basis 29 = .ok (.if_icmp .lt 7, 3) := by decide +kernel
theorem dX2_basis_32 : decode cX2_basis 32 = .ok (.ldc2_w 90, 3) := by decide +kernel
theorem dX2_basis_35 : decode cX2_basis 35 = .ok (.lreturn, 1) := by decide +kernel
theorem dX2_basis_36 : decode cX2_basis 36 = .ok (.aload_n 0, 1) := by decide +kernel
theorem dX2_basis_37 : decode cX2_basis 37 = .ok (.getfield 20, 3) := by decide +kernel
theorem dX2_basis_40 : decode cX2_basis 40 = .ok (.bipush 8, 2) := by decide +kernel
theorem dX2_basis_42 : decode cX2_basis 42 = .ok (.aload_n 0, 1) := by decide +kernel
theorem dX2_basis_43 : decode cX2_basis 43 = .ok (.aload_n 0, 1) := by decide +kernel
theorem dX2_basis_44 : decode cX2_basis 44 = .ok (.getfield 33, 3) := by decide +kernel
theorem dX2_basis_47 : decode cX2_basis 47 = .ok (.invokevirtual 72, 3) := by decide +kernel
theorem dX2_basis_50 : decode cX2_basis 50 = .ok (.iload_n 1, 1) := by decide +kernel
theorem dX2_basis_51 : decode cX2_basis 51 = .ok (.iadd, 1) := by decide +kernel
theorem dX2_basis_52 : decode cX2_basis 52 = .ok (.imul, 1) := by decide +kernel
theorem dX2_basis_53 : decode cX2_basis 53 = .ok (.aload_n 0, 1) := by decide +kernel
theorem dX2_basis_54 : decode cX2_basis 54 = .ok (.getfield 33, 3) := by decide +kernel
theorem dX2_basis_57 : decode cX2_basis 57 = .ok (.iadd, 1) := by decide +kernel
theorem dX2_basis_58 : decode cX2_basis 58 = .ok (.iload_n 2, 1) := by decide +kernel
theorem dX2_basis_59 : decode cX2_basis 59 = .ok (.iadd, 1) := by decide +kernel
theorem dX2_basis_60 : decode cX2_basis 60 = .ok (.laload, 1) := by decide +kernel
theorem dX2_basis_61 : decode cX2_basis 61 = .ok (.lreturn, 1) := by decide +kernel
theorem dX2_count_0 : decode cX2_count 0 = .ok (.aload_n 0, 1) := by decide +kernel
theorem dX2_count_1 : decode cX2_count 1 = .ok (.aload_n 0, 1) := by decide +kernel
theorem dX2_count_2 : decode cX2_count 2 = .ok (.getfield 33, 3) := by decide +kernel
theorem dX2_count_5 : decode cX2_count 5 = .ok (.invokevirtual 76, 3) := by decide +kernel
theorem dX2_count_8 : decode cX2_count 8 = .ok (.iload_n 1, 1) := by decide +kernel
theorem dX2_count_9 : decode cX2_count 9 = .ok (.ifCond .ne 14, 3) := by decide +kernel
theorem dX2_count_12 : decode cX2_count 12 = .ok (.aload_n 0, 1) := by decide +kernel
theorem dX2_count_13 : decode cX2_count 13 = .ok (.aload_n 0, 1) := by decide +kernel
theorem dX2_count_14 : decode cX2_count 14 = .ok (.getfield 33, 3) := by decide +kernel
theorem dX2_count_17 : decode cX2_count 17 = .ok (.invokevirtual 72, 3) := by decide +kernel
theorem dX2_count_20 : decode cX2_count 20 = .ok (.goto 40, 3) := by decide +kernel
theorem dX2_count_23 : decode cX2_count 23 = .ok (.iload_n 1, 1) := by decide +kernel
theorem dX2_count_24 : decode cX2_count 24 = .ok (.iconst 1, 1) := by decide +kernel
theorem dX2_count_25 : decode cX2_count 25 = .ok (.if_icmp .ne 10, 3) := by decide +kernel
theorem dX2_count_28 : decode cX2_count 28 = .ok (.aload_n 0, 1) := by decide +kernel
theorem dX2_count_29 : decode cX2_count 29 = .ok (.invokevirtual 86, 3) := by decide +kernel
theorem dX2_count_32 : decode cX2_count 32 = .ok (.goto 28, 3) := by decide +kernel
theorem dX2_count_35 : decode cX2_count 35 = .ok (.iload_n 1, 1) := by decide +kernel
theorem dX2_count_36 : decode cX2_count 36 = .ok (.iconst 2, 1) := by decide +kernel
theorem dX2_count_37 : decode cX2_count 37 = .ok (.if_icmp .ne 10, 3) := by decide +kernel
theorem dX2_count_40 : decode cX2_count 40 = .ok (.aload_n 0, 1) := by decide +kernel
theorem dX2_count_41 : decode cX2_count 41 = .ok (.getfield 33, 3) := by decide +kernel
theorem dX2_count_44 : decode cX2_count 44 = .ok (.goto 16, 3) := by decide +kernel
theorem dX2_count_47 : decode cX2_count 47 = .ok (.iload_n 1, 1) := by decide +kernel
theorem dX2_count_48 : decode cX2_count 48 = .ok (.iconst 3, 1) := by decide +kernel
theorem dX2_count_49 : decode cX2_count 49 = .ok (.if_icmp .ne 10, 3) := by decide +kernel
theorem dX2_count_52 : decode cX2_count 52 = .ok (.aload_n 0, 1) := by decide +kernel
theorem dX2_count_53 : decode cX2_count 53 = .ok (.getfield 7, 3) := by decide +kernel
theorem dX2_count_56 : decode cX2_count 56 = .ok (.goto 4, 3) := by decide +kernel
theorem dX2_count_59 : decode cX2_count 59 = .ok (.iconst (-1), 1) := by decide +kernel
theorem dX2_count_60 : decode cX2_count 60 = .ok (.ireturn, 1) := by decide +kernel
theorem dX2_reach_0 : decode cX2_reach 0 = .ok (.aload_n 0, 1) := by decide +kernel
theorem dX2_reach_1 : decode cX2_reach 1 = .ok (.aload_n 0, 1) := by decide +kernel
theorem dX2_reach_2 : decode cX2_reach 2 = .ok (.getfield 33, 3) := by decide +kernel
theorem dX2_reach_5 : decode cX2_reach 5 = .ok (.invokevirtual 76, 3) := by decide +kernel
theorem dX2_reach_8 : decode cX2_reach 8 = .ok (.iload_n 1, 1) := by decide +kernel
theorem dX2_reach_9 : decode cX2_reach 9 = .ok (.ifCond .lt 27, 3) := by decide +kernel
theorem dX2_reach_12 : decode cX2_reach 12 = .ok (.iload_n 1, 1) := by decide +kernel
theorem dX2_reach_13 : decode cX2_reach 13 = .ok (.aload_n 0, 1) := by decide +kernel
theorem dX2_reach_14 : decode cX2_reach 14 = .ok (.aload_n 0, 1) := by decide +kernel
theorem dX2_reach_15 : decode cX2_reach 15 = .ok (.getfield 33, 3) := by decide +kernel
theorem dX2_reach_18 : decode cX2_reach 18 = .ok (.invokevirtual 72, 3) := by decide +kernel
theorem dX2_reach_21 : decode cX2_reach 21 = .ok (.if_icmp .ge 15, 3) := by decide +kernel
theorem dX2_reach_24 : decode cX2_reach 24 = .ok (.iload_n 2, 1) := by decide +kernel
theorem dX2_reach_25 : decode cX2_reach 25 = .ok (.ifCond .lt 11, 3) := by decide +kernel
theorem dX2_reach_28 : decode cX2_reach 28 = .ok (.iload_n 2, 1) := by decide +kernel
theorem dX2_reach_29 : decode cX2_reach 29 = .ok (.aload_n 0, 1) := by decide +kernel
theorem dX2_reach_30 : decode cX2_reach 30 = .ok (.getfield 33, 3) := by decide +kernel
theorem dX2_reach_33 : decode cX2_reach 33 = .ok (.if_icmp .lt 7, 3) := by decide +kernel
theorem dX2_reach_36 : decode cX2_reach 36 = .ok (.ldc2_w 90, 3) := by decide +kernel
theorem dX2_reach_39 : decode cX2_reach 39 = .ok (.lreturn, 1) := by decide +kernel
theorem dX2_reach_40 : decode cX2_reach 40 = .ok (.aload_n 0, 1) := by decide +kernel
theorem dX2_reach_41 : decode cX2_reach 41 = .ok (.getfield 20, 3) := by decide +kernel
theorem dX2_reach_44 : decode cX2_reach 44 = .ok (.bipush 8, 2) := by decide +kernel
theorem dX2_reach_46 : decode cX2_reach 46 = .ok (.iload_n 1, 1) := by decide +kernel
theorem dX2_reach_47 : decode cX2_reach 47 = .ok (.imul, 1) := by decide +kernel
theorem dX2_reach_48 : decode cX2_reach 48 = .ok (.iload_n 2, 1) := by decide +kernel
theorem dX2_reach_49 : decode cX2_reach 49 = .ok (.iadd, 1) := by decide +kernel
theorem dX2_reach_50 : decode cX2_reach 50 = .ok (.laload, 1) := by decide +kernel
theorem dX2_reach_51 : decode cX2_reach 51 = .ok (.lreturn, 1) := by decide +kernel
theorem dX2_reached_0 : decode cX2_reached 0 = .ok (.aload_n 0, 1) := by decide +kernel
theorem dX2_reached_1 : decode cX2_reached 1 = .ok (.aload_n 0, 1) := by decide +kernel
theorem dX2_reached_2 : decode cX2_reached 2 = .ok (.getfield 33, 3) := by decide +kernel
theorem dX2_reached_5 : decode cX2_reached 5 = .ok (.invokevirtual 76, 3) := by decide +kernel
theorem dX2_reached_8 : decode cX2_reached 8 = .ok (.aload_n 0, 1) := by decide +kernel
theorem dX2_reached_9 : decode cX2_reached 9 = .ok (.getfield 27, 3) := by decide +kernel
theorem dX2_reached_12 : decode cX2_reached 12 = .ok (.iconst 0, 1) := by decide +kernel
theorem dX2_reached_13 : decode cX2_reached 13 = .ok (.iload_n 1, 1) := by decide +kernel
theorem dX2_reached_14 : decode cX2_reached 14 = .ok (.i2l, 1) := by decide +kernel
theorem dX2_reached_15 : decode cX2_reached 15 = .ok (.lastore, 1) := by decide +kernel
theorem dX2_reached_16 : decode cX2_reached 16 = .ok (.aload_n 0, 1) := by decide +kernel
theorem dX2_reached_17 : decode cX2_reached 17 = .ok (.getfield 27, 3) := by decide +kernel
theorem dX2_reached_20 : decode cX2_reached 20 = .ok (.iconst 1, 1) := by decide +kernel
theorem dX2_reached_21 : decode cX2_reached 21 = .ok (.iload_n 2, 1) := by decide +kernel
theorem dX2_reached_22 : decode cX2_reached 22 = .ok (.i2l, 1) := by decide +kernel
theorem dX2_reached_23 : decode cX2_reached 23 = .ok (.lastore, 1) := by decide +kernel
theorem dX2_reached_24 : decode cX2_reached 24 = .ok (.aload_n 0, 1) := by decide +kernel
theorem dX2_reached_25 : decode cX2_reached 25 = .ok (.getfield 27, 3) := by decide +kernel
theorem dX2_reached_28 : decode cX2_reached 28 = .ok (.iconst 2, 1) := by decide +kernel
theorem dX2_reached_29 : decode cX2_reached 29 = .ok (.iload_n 3, 1) := by decide +kernel
theorem dX2_reached_30 : decode cX2_reached 30 = .ok (.i2l, 1) := by decide +kernel
theorem dX2_reached_31 : decode cX2_reached 31 = .ok (.lastore, 1) := by decide +kernel
theorem dX2_reached_32 : decode cX2_reached 32 = .ok (.aload_n 0, 1) := by decide +kernel
theorem dX2_reached_33 : decode cX2_reached 33 = .ok (.aload_n 0, 1) := by decide +kernel
theorem dX2_reached_34 : decode cX2_reached 34 = .ok (.getfield 33, 3) := by decide +kernel
theorem dX2_reached_37 : decode cX2_reached 37 = .ok (.invokevirtual 80, 3) := by decide +kernel
theorem dX2_reached_40 : decode cX2_reached 40 = .ok (.ifCond .eq 7, 3) := by decide +kernel
theorem dX2_reached_43 : decode cX2_reached 43 = .ok (.iconst 1, 1) := by decide +kernel
theorem dX2_reached_44 : decode cX2_reached 44 = .ok (.goto 4, 3) := by decide +kernel
theorem dX2_reached_47 : decode cX2_reached 47 = .ok (.iconst 0, 1) := by decide +kernel
theorem dX2_reached_48 : decode cX2_reached 48 = .ok (.ireturn, 1) := by decide +kernel
theorem dX2_common_0 : decode cX2_common 0 = .ok (.lload_n 0, 1) := by decide +kernel
theorem dX2_common_1 : decode cX2_common 1 = .ok (.invokestatic 44, 3) := by decide +kernel
theorem dX2_common_4 : decode cX2_common 4 = .ok (.lstore 4, 2) := by decide +kernel
theorem dX2_common_6 : decode cX2_common 6 = .ok (.lload_n 2, 1) := by decide +kernel
theorem dX2_common_7 : decode cX2_common 7 = .ok (.invokestatic 44, 3) := by decide +kernel
theorem dX2_common_10 : decode cX2_common 10 = .ok (.lstore 6, 2) := by decide +kernel
theorem dX2_common_12 : decode cX2_common 12 = .ok (.lload 6, 2) := by decide +kernel
theorem dX2_common_14 : decode cX2_common 14 = .ok (.lconst 0, 1) := by decide +kernel
theorem dX2_common_15 : decode cX2_common 15 = .ok (.lcmp, 1) := by decide +kernel
theorem dX2_common_16 : decode cX2_common 16 = .ok (.ifCond .le 21, 3) := by decide +kernel
theorem dX2_common_19 : decode cX2_common 19 = .ok (.lload 4, 2) := by decide +kernel
theorem dX2_common_21 : decode cX2_common 21 = .ok (.lload 6, 2) := by decide +kernel
theorem dX2_common_23 : decode cX2_common 23 = .ok (.lrem, 1) := by decide +kernel
theorem dX2_common_24 : decode cX2_common 24 = .ok (.lstore 8, 2) := by decide +kernel
theorem dX2_common_26 : decode cX2_common 26 = .ok (.lload 6, 2) := by decide +kernel
theorem dX2_common_28 : decode cX2_common 28 = .ok (.lstore 4, 2) := by decide +kernel
theorem dX2_common_30 : decode cX2_common 30 = .ok (.lload 8, 2) := by decide +kernel
theorem dX2_common_32 : decode cX2_common 32 = .ok (.lstore 6, 2) := by decide +kernel
theorem dX2_common_34 : decode cX2_common 34 = .ok (.goto (-22), 3) := by decide +kernel
theorem dX2_common_37 : decode cX2_common 37 = .ok (.lload 4, 2) := by decide +kernel
theorem dX2_common_39 : decode cX2_common 39 = .ok (.lreturn, 1) := by decide +kernel
theorem dX2_place_0 : decode cX2_place 0 = .ok (.iconst 0, 1) := by decide +kernel
theorem dX2_place_1 : decode cX2_place 1 = .ok (.istore_n 2, 1) := by decide +kernel
theorem dX2_place_2 : decode cX2_place 2 = .ok (.iload_n 1, 1) := by decide +kernel
theorem dX2_place_3 : decode cX2_place 3 = .ok (.istore_n 3, 1) := by decide +kernel
theorem dX2_place_4 : decode cX2_place 4 = .ok (.iload_n 0, 1) := by decide +kernel
theorem dX2_place_5 : decode cX2_place 5 = .ok (.iload_n 2, 1) := by decide +kernel
theorem dX2_place_6 : decode cX2_place 6 = .ok (.ishr, 1) := by decide +kernel
theorem dX2_place_7 : decode cX2_place 7 = .ok (.iconst 1, 1) := by decide +kernel
theorem dX2_place_8 : decode cX2_place 8 = .ok (.iand, 1) := by decide +kernel
theorem dX2_place_9 : decode cX2_place 9 = .ok (.ifCond .eq 7, 3) := by decide +kernel
theorem dX2_place_12 : decode cX2_place 12 = .ok (.iload_n 3, 1) := by decide +kernel
theorem dX2_place_13 : decode cX2_place 13 = .ok (.ifCond .le 17, 3) := by decide +kernel
theorem dX2_place_16 : decode cX2_place 16 = .ok (.iload_n 3, 1) := by decide +kernel
theorem dX2_place_17 : decode cX2_place 17 = .ok (.iload_n 0, 1) := by decide +kernel
theorem dX2_place_18 : decode cX2_place 18 = .ok (.iload_n 2, 1) := by decide +kernel
theorem dX2_place_19 : decode cX2_place 19 = .ok (.ishr, 1) := by decide +kernel
theorem dX2_place_20 : decode cX2_place 20 = .ok (.iconst 1, 1) := by decide +kernel
theorem dX2_place_21 : decode cX2_place 21 = .ok (.iand, 1) := by decide +kernel
theorem dX2_place_22 : decode cX2_place 22 = .ok (.isub, 1) := by decide +kernel
theorem dX2_place_23 : decode cX2_place 23 = .ok (.istore_n 3, 1) := by decide +kernel
theorem dX2_place_24 : decode cX2_place 24 = .ok (.iinc 2 1, 3) := by decide +kernel
theorem dX2_place_27 : decode cX2_place 27 = .ok (.goto (-23), 3) := by decide +kernel
theorem dX2_place_30 : decode cX2_place 30 = .ok (.iload_n 2, 1) := by decide +kernel
theorem dX2_place_31 : decode cX2_place 31 = .ok (.ireturn, 1) := by decide +kernel
theorem dX2_ones_0 : decode cX2_ones 0 = .ok (.iload_n 0, 1) := by decide +kernel
theorem dX2_ones_1 : decode cX2_ones 1 = .ok (.iconst 1, 1) := by decide +kernel
theorem dX2_ones_2 : decode cX2_ones 2 = .ok (.iand, 1) := by decide +kernel
theorem dX2_ones_3 : decode cX2_ones 3 = .ok (.iload_n 0, 1) := by decide +kernel
theorem dX2_ones_4 : decode cX2_ones 4 = .ok (.iconst 1, 1) := by decide +kernel
theorem dX2_ones_5 : decode cX2_ones 5 = .ok (.ishr, 1) := by decide +kernel
theorem dX2_ones_6 : decode cX2_ones 6 = .ok (.iconst 1, 1) := by decide +kernel
theorem dX2_ones_7 : decode cX2_ones 7 = .ok (.iand, 1) := by decide +kernel
theorem dX2_ones_8 : decode cX2_ones 8 = .ok (.iadd, 1) := by decide +kernel
theorem dX2_ones_9 : decode cX2_ones 9 = .ok (.iload_n 0, 1) := by decide +kernel
theorem dX2_ones_10 : decode cX2_ones 10 = .ok (.iconst 2, 1) := by decide +kernel
theorem dX2_ones_11 : decode cX2_ones 11 = .ok (.ishr, 1) := by decide +kernel
theorem dX2_ones_12 : decode cX2_ones 12 = .ok (.iconst 1, 1) := by decide +kernel
theorem dX2_ones_13 : decode cX2_ones 13 = .ok (.iand, 1) := by decide +kernel
theorem dX2_ones_14 : decode cX2_ones 14 = .ok (.iadd, 1) := by decide +kernel
theorem dX2_ones_15 : decode cX2_ones 15 = .ok (.iload_n 0, 1) := by decide +kernel
theorem dX2_ones_16 : decode cX2_ones 16 = .ok (.iconst 3, 1) := by decide +kernel
theorem dX2_ones_17 : decode cX2_ones 17 = .ok (.ishr, 1) := by decide +kernel
theorem dX2_ones_18 : decode cX2_ones 18 = .ok (.iconst 1, 1) := by decide +kernel
theorem dX2_ones_19 : decode cX2_ones 19 = .ok (.iand, 1) := by decide +kernel
theorem dX2_ones_20 : decode cX2_ones 20 = .ok (.iadd, 1) := by decide +kernel
theorem dX2_ones_21 : decode cX2_ones 21 = .ok (.ireturn, 1) := by decide +kernel
theorem dX2_two_0 : decode cX2_two 0 = .ok (.aload_n 0, 1) := by decide +kernel
theorem dX2_two_1 : decode cX2_two 1 = .ok (.getfield 13, 3) := by decide +kernel
theorem dX2_two_4 : decode cX2_two 4 = .ok (.iconst 4, 1) := by decide +kernel
theorem dX2_two_5 : decode cX2_two 5 = .ok (.iload_n 1, 1) := by decide +kernel
theorem dX2_two_6 : decode cX2_two 6 = .ok (.imul, 1) := by decide +kernel
theorem dX2_two_7 : decode cX2_two 7 = .ok (.iload_n 3, 1) := by decide +kernel
theorem dX2_two_8 : decode cX2_two 8 = .ok (.iadd, 1) := by decide +kernel
theorem dX2_two_9 : decode cX2_two 9 = .ok (.iaload, 1) := by decide +kernel
theorem dX2_two_10 : decode cX2_two 10 = .ok (.i2l, 1) := by decide +kernel
theorem dX2_two_11 : decode cX2_two 11 = .ok (.aload_n 0, 1) := by decide +kernel
theorem dX2_two_12 : decode cX2_two 12 = .ok (.getfield 13, 3) := by decide +kernel
theorem dX2_two_15 : decode cX2_two 15 = .ok (.iconst 4, 1) := by decide +kernel
theorem dX2_two_16 : decode cX2_two 16 = .ok (.iload_n 2, 1) := by decide +kernel
theorem dX2_two_17 : decode cX2_two 17 = .ok (.imul, 1) := by decide +kernel
theorem dX2_two_18 : decode cX2_two 18 = .ok (.iload 4, 2) := by decide +kernel
theorem dX2_two_20 : decode cX2_two 20 = .ok (.iadd, 1) := by decide +kernel
theorem dX2_two_21 : decode cX2_two 21 = .ok (.iaload, 1) := by decide +kernel
theorem dX2_two_22 : decode cX2_two 22 = .ok (.i2l, 1) := by decide +kernel
theorem dX2_two_23 : decode cX2_two 23 = .ok (.lmul, 1) := by decide +kernel
theorem dX2_two_24 : decode cX2_two 24 = .ok (.aload_n 0, 1) := by decide +kernel
theorem dX2_two_25 : decode cX2_two 25 = .ok (.getfield 13, 3) := by decide +kernel
theorem dX2_two_28 : decode cX2_two 28 = .ok (.iconst 4, 1) := by decide +kernel
theorem dX2_two_29 : decode cX2_two 29 = .ok (.iload_n 1, 1) := by decide +kernel
theorem dX2_two_30 : decode cX2_two 30 = .ok (.imul, 1) := by decide +kernel
theorem dX2_two_31 : decode cX2_two 31 = .ok (.iload 4, 2) := by decide +kernel
theorem dX2_two_33 : decode cX2_two 33 = .ok (.iadd, 1) := by decide +kernel
theorem dX2_two_34 : decode cX2_two 34 = .ok (.iaload, 1) := by decide +kernel
theorem dX2_two_35 : decode cX2_two 35 = .ok (.i2l, 1) := by decide +kernel
theorem dX2_two_36 : decode cX2_two 36 = .ok (.aload_n 0, 1) := by decide +kernel
theorem dX2_two_37 : decode cX2_two 37 = .ok (.getfield 13, 3) := by decide +kernel
theorem dX2_two_40 : decode cX2_two 40 = .ok (.iconst 4, 1) := by decide +kernel
theorem dX2_two_41 : decode cX2_two 41 = .ok (.iload_n 2, 1) := by decide +kernel
theorem dX2_two_42 : decode cX2_two 42 = .ok (.imul, 1) := by decide +kernel
theorem dX2_two_43 : decode cX2_two 43 = .ok (.iload_n 3, 1) := by decide +kernel
theorem dX2_two_44 : decode cX2_two 44 = .ok (.iadd, 1) := by decide +kernel
theorem dX2_two_45 : decode cX2_two 45 = .ok (.iaload, 1) := by decide +kernel
theorem dX2_two_46 : decode cX2_two 46 = .ok (.i2l, 1) := by decide +kernel
theorem dX2_two_47 : decode cX2_two 47 = .ok (.lmul, 1) := by decide +kernel
theorem dX2_two_48 : decode cX2_two 48 = .ok (.lsub, 1) := by decide +kernel
theorem dX2_two_49 : decode cX2_two 49 = .ok (.lreturn, 1) := by decide +kernel
theorem dX2_determinant_0 : decode cX2_determinant 0 = .ok (.iload_n 1, 1) := by decide +kernel
theorem dX2_determinant_1 : decode cX2_determinant 1 = .ok (.iconst 0, 1) := by decide +kernel
theorem dX2_determinant_2 : decode cX2_determinant 2 = .ok (.invokestatic 92, 3) := by decide +kernel
theorem dX2_determinant_5 : decode cX2_determinant 5 = .ok (.istore 4, 2) := by decide +kernel
theorem dX2_determinant_7 : decode cX2_determinant 7 = .ok (.iload_n 2, 1) := by decide +kernel
theorem dX2_determinant_8 : decode cX2_determinant 8 = .ok (.iconst 0, 1) := by decide +kernel
theorem dX2_determinant_9 : decode cX2_determinant 9 = .ok (.invokestatic 92, 3) := by decide +kernel
theorem dX2_determinant_12 : decode cX2_determinant 12 = .ok (.istore 5, 2) := by decide +kernel
theorem dX2_determinant_14 : decode cX2_determinant 14 = .ok (.iload_n 3, 1) := by decide +kernel
theorem dX2_determinant_15 : decode cX2_determinant 15 = .ok (.iconst 1, 1) := by decide +kernel
theorem dX2_determinant_16 : decode cX2_determinant 16 = .ok (.if_icmp .ne 17, 3) := by decide +kernel
theorem dX2_determinant_19 : decode cX2_determinant 19 = .ok (.aload_n 0, 1) := by decide +kernel
theorem dX2_determinant_20 : decode cX2_determinant 20 = .ok (.getfield 13, 3) := by decide +kernel
theorem dX2_determinant_23 : decode cX2_determinant 23 = .ok (.iconst 4, 1) := by decide +kernel
theorem dX2_determinant_24 : decode cX2_determinant 24 = .ok (.iload 4, 2) := by decide +kernel
theorem dX2_determinant_26 : decode cX2_determinant 26 = .ok (.imul, 1) := by decide +kernel
theorem dX2_determinant_27 : decode cX2_determinant 27 = .ok (.iload 5, 2) := by decide +kernel
theorem dX2_determinant_29 : decode cX2_determinant 29 = .ok (.iadd, 1) := by decide +kernel
theorem dX2_determinant_30 : decode cX2_determinant 30 = .ok (.iaload, 1) := by decide +kernel
theorem dX2_determinant_31 : decode cX2_determinant 31 = .ok (.i2l, 1) := by decide +kernel
theorem dX2_determinant_32 : decode cX2_determinant 32 = .ok (.lreturn, 1) := by decide +kernel
theorem dX2_determinant_33 : decode cX2_determinant 33 = .ok (.iload_n 1, 1) := by decide +kernel
theorem dX2_determinant_34 : decode cX2_determinant 34 = .ok (.iconst 1, 1) := by decide +kernel
theorem dX2_determinant_35 : decode cX2_determinant 35 = .ok (.invokestatic 92, 3) := by decide +kernel
theorem dX2_determinant_38 : decode cX2_determinant 38 = .ok (.istore 6, 2) := by decide +kernel
theorem dX2_determinant_40 : decode cX2_determinant 40 = .ok (.iload_n 2, 1) := by decide +kernel
theorem dX2_determinant_41 : decode cX2_determinant 41 = .ok (.iconst 1, 1) := by decide +kernel
theorem dX2_determinant_42 : decode cX2_determinant 42 = .ok (.invokestatic 92, 3) := by decide +kernel
theorem dX2_determinant_45 : decode cX2_determinant 45 = .ok (.istore 7, 2) := by decide +kernel
theorem dX2_determinant_47 : decode cX2_determinant 47 = .ok (.iload_n 3, 1) := by decide +kernel
theorem dX2_determinant_48 : decode cX2_determinant 48 = .ok (.iconst 2, 1) := by decide +kernel
theorem dX2_determinant_49 : decode cX2_determinant 49 = .ok (.if_icmp .ne 16, 3) := by decide +kernel
theorem dX2_determinant_52 : decode cX2_determinant 52 = .ok (.aload_n 0, 1) := by decide +kernel
theorem dX2_determinant_53 : decode cX2_determinant 53 = .ok (.iload 4, 2) := by decide +kernel
theorem dX2_determinant_55 : decode cX2_determinant 55 = .ok (.iload 6, 2) := by decide +kernel
theorem dX2_determinant_57 : decode cX2_determinant 57 = .ok (.iload 5, 2) := by decide +kernel
theorem dX2_determinant_59 : decode cX2_determinant 59 = .ok (.iload 7, 2) := by decide +kernel
theorem dX2_determinant_61 : decode cX2_determinant 61 = .ok (.invokevirtual 96, 3) := by decide +kernel
theorem dX2_determinant_64 : decode cX2_determinant 64 = .ok (.lreturn, 1) := by decide +kernel
theorem dX2_determinant_65 : decode cX2_determinant 65 = .ok (.iload_n 1, 1) := by decide +kernel
theorem dX2_determinant_66 : decode cX2_determinant 66 = .ok (.iconst 2, 1) := by decide +kernel
theorem dX2_determinant_67 : decode cX2_determinant 67 = .ok (.invokestatic 92, 3) := by decide +kernel
theorem dX2_determinant_70 : decode cX2_determinant 70 = .ok (.istore 8, 2) := by decide +kernel
theorem dX2_determinant_72 : decode cX2_determinant 72 = .ok (.iload_n 2, 1) := by decide +kernel
theorem dX2_determinant_73 : decode cX2_determinant 73 = .ok (.iconst 2, 1) := by decide +kernel
theorem dX2_determinant_74 : decode cX2_determinant 74 = .ok (.invokestatic 92, 3) := by decide +kernel
theorem dX2_determinant_77 : decode cX2_determinant 77 = .ok (.istore 9, 2) := by decide +kernel
theorem dX2_determinant_79 : decode cX2_determinant 79 = .ok (.aload_n 0, 1) := by decide +kernel
theorem dX2_determinant_80 : decode cX2_determinant 80 = .ok (.getfield 13, 3) := by decide +kernel
theorem dX2_determinant_83 : decode cX2_determinant 83 = .ok (.iconst 4, 1) := by decide +kernel
theorem dX2_determinant_84 : decode cX2_determinant 84 = .ok (.iload 4, 2) := by decide +kernel
theorem dX2_determinant_86 : decode cX2_determinant 86 = .ok (.imul, 1) := by decide +kernel
theorem dX2_determinant_87 : decode cX2_determinant 87 = .ok (.iload 5, 2) := by decide +kernel
theorem dX2_determinant_89 : decode cX2_determinant 89 = .ok (.iadd, 1) := by decide +kernel
theorem dX2_determinant_90 : decode cX2_determinant 90 = .ok (.iaload, 1) := by decide +kernel
theorem dX2_determinant_91 : decode cX2_determinant 91 = .ok (.i2l, 1) := by decide +kernel
theorem dX2_determinant_92 : decode cX2_determinant 92 = .ok (.aload_n 0, 1) := by decide +kernel
theorem dX2_determinant_93 : decode cX2_determinant 93 = .ok (.iload 6, 2) := by decide +kernel
theorem dX2_determinant_95 : decode cX2_determinant 95 = .ok (.iload 8, 2) := by decide +kernel
theorem dX2_determinant_97 : decode cX2_determinant 97 = .ok (.iload 7, 2) := by decide +kernel
theorem dX2_determinant_99 : decode cX2_determinant 99 = .ok (.iload 9, 2) := by decide +kernel
theorem dX2_determinant_101 : decode cX2_determinant 101 = .ok (.invokevirtual 96, 3) := by decide +kernel
theorem dX2_determinant_104 : decode cX2_determinant 104 = .ok (.lmul, 1) := by decide +kernel
theorem dX2_determinant_105 : decode cX2_determinant 105 = .ok (.aload_n 0, 1) := by decide +kernel
theorem dX2_determinant_106 : decode cX2_determinant 106 = .ok (.getfield 13, 3) := by decide +kernel
theorem dX2_determinant_109 : decode cX2_determinant 109 = .ok (.iconst 4, 1) := by decide +kernel
theorem dX2_determinant_110 : decode cX2_determinant 110 = .ok (.iload 4, 2) := by decide +kernel
theorem dX2_determinant_112 : decode cX2_determinant 112 = .ok (.imul, 1) := by decide +kernel
theorem dX2_determinant_113 : decode cX2_determinant 113 = .ok (.iload 7, 2) := by decide +kernel
theorem dX2_determinant_115 : decode cX2_determinant 115 = .ok (.iadd, 1) := by decide +kernel
theorem dX2_determinant_116 : decode cX2_determinant 116 = .ok (.iaload, 1) := by decide +kernel
theorem dX2_determinant_117 : decode cX2_determinant 117 = .ok (.i2l, 1) := by decide +kernel
theorem dX2_determinant_118 : decode cX2_determinant 118 = .ok (.aload_n 0, 1) := by decide +kernel
theorem dX2_determinant_119 : decode cX2_determinant 119 = .ok (.iload 6, 2) := by decide +kernel
theorem dX2_determinant_121 : decode cX2_determinant 121 = .ok (.iload 8, 2) := by decide +kernel
theorem dX2_determinant_123 : decode cX2_determinant 123 = .ok (.iload 5, 2) := by decide +kernel
theorem dX2_determinant_125 : decode cX2_determinant 125 = .ok (.iload 9, 2) := by decide +kernel
theorem dX2_determinant_127 : decode cX2_determinant 127 = .ok (.invokevirtual 96, 3) := by decide +kernel
theorem dX2_determinant_130 : decode cX2_determinant 130 = .ok (.lmul, 1) := by decide +kernel
theorem dX2_determinant_131 : decode cX2_determinant 131 = .ok (.lsub, 1) := by decide +kernel
theorem dX2_determinant_132 : decode cX2_determinant 132 = .ok (.aload_n 0, 1) := by decide +kernel
theorem dX2_determinant_133 : decode cX2_determinant 133 = .ok (.getfield 13, 3) := by decide +kernel
theorem dX2_determinant_136 : decode cX2_determinant 136 = .ok (.iconst 4, 1) := by decide +kernel
theorem dX2_determinant_137 : decode cX2_determinant 137 = .ok (.iload 4, 2) := by decide +kernel
theorem dX2_determinant_139 : decode cX2_determinant 139 = .ok (.imul, 1) := by decide +kernel
theorem dX2_determinant_140 : decode cX2_determinant 140 = .ok (.iload 9, 2) := by decide +kernel
theorem dX2_determinant_142 : decode cX2_determinant 142 = .ok (.iadd, 1) := by decide +kernel
theorem dX2_determinant_143 : decode cX2_determinant 143 = .ok (.iaload, 1) := by decide +kernel
theorem dX2_determinant_144 : decode cX2_determinant 144 = .ok (.i2l, 1) := by decide +kernel
theorem dX2_determinant_145 : decode cX2_determinant 145 = .ok (.aload_n 0, 1) := by decide +kernel
theorem dX2_determinant_146 : decode cX2_determinant 146 = .ok (.iload 6, 2) := by decide +kernel
theorem dX2_determinant_148 : decode cX2_determinant 148 = .ok (.iload 8, 2) := by decide +kernel
theorem dX2_determinant_150 : decode cX2_determinant 150 = .ok (.iload 5, 2) := by decide +kernel
theorem dX2_determinant_152 : decode cX2_determinant 152 = .ok (.iload 7, 2) := by decide +kernel
theorem dX2_determinant_154 : decode cX2_determinant 154 = .ok (.invokevirtual 96, 3) := by decide +kernel
theorem dX2_determinant_157 : decode cX2_determinant 157 = .ok (.lmul, 1) := by decide +kernel
theorem dX2_determinant_158 : decode cX2_determinant 158 = .ok (.ladd, 1) := by decide +kernel
theorem dX2_determinant_159 : decode cX2_determinant 159 = .ok (.lreturn, 1) := by decide +kernel
theorem dX2_divisor_0 : decode cX2_divisor 0 = .ok (.iload_n 1, 1) := by decide +kernel
theorem dX2_divisor_1 : decode cX2_divisor 1 = .ok (.ifCond .ne 7, 3) := by decide +kernel
theorem dX2_divisor_4 : decode cX2_divisor 4 = .ok (.lconst 1, 1) := by decide +kernel
theorem dX2_divisor_5 : decode cX2_divisor 5 = .ok (.goto 4, 3) := by decide +kernel
theorem dX2_divisor_8 : decode cX2_divisor 8 = .ok (.lconst 0, 1) := by decide +kernel
theorem dX2_divisor_9 : decode cX2_divisor 9 = .ok (.lstore_n 2, 1) := by decide +kernel
theorem dX2_divisor_10 : decode cX2_divisor 10 = .ok (.iconst 1, 1) := by decide +kernel
theorem dX2_divisor_11 : decode cX2_divisor 11 = .ok (.istore 4, 2) := by decide +kernel
theorem dX2_divisor_13 : decode cX2_divisor 13 = .ok (.iload 4, 2) := by decide +kernel
theorem dX2_divisor_15 : decode cX2_divisor 15 = .ok (.iconst 1, 1) := by decide +kernel
theorem dX2_divisor_16 : decode cX2_divisor 16 = .ok (.aload_n 0, 1) := by decide +kernel
theorem dX2_divisor_17 : decode cX2_divisor 17 = .ok (.getfield 33, 3) := by decide +kernel
theorem dX2_divisor_20 : decode cX2_divisor 20 = .ok (.ishl, 1) := by decide +kernel
theorem dX2_divisor_21 : decode cX2_divisor 21 = .ok (.if_icmp .ge 65, 3) := by decide +kernel
theorem dX2_divisor_24 : decode cX2_divisor 24 = .ok (.iload_n 1, 1) := by decide +kernel
theorem dX2_divisor_25 : decode cX2_divisor 25 = .ok (.ifCond .le 61, 3) := by decide +kernel
theorem dX2_divisor_28 : decode cX2_divisor 28 = .ok (.iconst 1, 1) := by decide +kernel
theorem dX2_divisor_29 : decode cX2_divisor 29 = .ok (.istore 5, 2) := by decide +kernel
theorem dX2_divisor_31 : decode cX2_divisor 31 = .ok (.iload 5, 2) := by decide +kernel
theorem dX2_divisor_33 : decode cX2_divisor 33 = .ok (.iconst 1, 1) := by decide +kernel
theorem dX2_divisor_34 : decode cX2_divisor 34 = .ok (.aload_n 0, 1) := by decide +kernel
theorem dX2_divisor_35 : decode cX2_divisor 35 = .ok (.getfield 7, 3) := by decide +kernel
theorem dX2_divisor_38 : decode cX2_divisor 38 = .ok (.ishl, 1) := by decide +kernel
theorem dX2_divisor_39 : decode cX2_divisor 39 = .ok (.if_icmp .ge 41, 3) := by decide +kernel
theorem dX2_divisor_42 : decode cX2_divisor 42 = .ok (.iload 4, 2) := by decide +kernel
theorem dX2_divisor_44 : decode cX2_divisor 44 = .ok (.invokestatic 100, 3) := by decide +kernel
theorem dX2_divisor_47 : decode cX2_divisor 47 = .ok (.iload_n 1, 1) := by decide +kernel
theorem dX2_divisor_48 : decode cX2_divisor 48 = .ok (.if_icmp .ne 26, 3) := by decide +kernel
theorem dX2_divisor_51 : decode cX2_divisor 51 = .ok (.iload 5, 2) := by decide +kernel
theorem dX2_divisor_53 : decode cX2_divisor 53 = .ok (.invokestatic 100, 3) := by decide +kernel
theorem dX2_divisor_56 : decode cX2_divisor 56 = .ok (.iload_n 1, 1) := by decide +kernel
theorem dX2_divisor_57 : decode cX2_divisor 57 = .ok (.if_icmp .ne 17, 3) := by decide +kernel
theorem dX2_divisor_60 : decode cX2_divisor 60 = .ok (.lload_n 2, 1) := by decide +kernel
theorem dX2_divisor_61 : decode cX2_divisor 61 = .ok (.aload_n 0, 1) := by decide +kernel
theorem dX2_divisor_62 : decode cX2_divisor 62 = .ok (.iload 4, 2) := by decide +kernel
theorem dX2_divisor_64 : decode cX2_divisor 64 = .ok (.iload 5, 2) := by decide +kernel
theorem dX2_divisor_66 : decode cX2_divisor 66 = .ok (.iload_n 1, 1) := by decide +kernel
theorem dX2_divisor_67 : decode cX2_divisor 67 = .ok (.invokevirtual 103, 3) := by decide +kernel
theorem dX2_divisor_70 : decode cX2_divisor 70 = .ok (.invokestatic 107, 3) := by decide +kernel
theorem dX2_divisor_73 : decode cX2_divisor 73 = .ok (.lstore_n 2, 1) := by decide +kernel
theorem dX2_divisor_74 : decode cX2_divisor 74 = .ok (.iinc 5 1, 3) := by decide +kernel
theorem dX2_divisor_77 : decode cX2_divisor 77 = .ok (.goto (-46), 3) := by decide +kernel
theorem dX2_divisor_80 : decode cX2_divisor 80 = .ok (.iinc 4 1, 3) := by decide +kernel
theorem dX2_divisor_83 : decode cX2_divisor 83 = .ok (.goto (-70), 3) := by decide +kernel
theorem dX2_divisor_86 : decode cX2_divisor 86 = .ok (.lload_n 2, 1) := by decide +kernel
theorem dX2_divisor_87 : decode cX2_divisor 87 = .ok (.lreturn, 1) := by decide +kernel
theorem dX2_invariant_0 : decode cX2_invariant 0 = .ok (.iload_n 1, 1) := by decide +kernel
theorem dX2_invariant_1 : decode cX2_invariant 1 = .ok (.iconst 1, 1) := by decide +kernel
theorem dX2_invariant_2 : decode cX2_invariant 2 = .ok (.if_icmp .lt 19, 3) := by decide +kernel
theorem dX2_invariant_5 : decode cX2_invariant 5 = .ok (.iload_n 1, 1) := by decide +kernel
theorem dX2_invariant_6 : decode cX2_invariant 6 = .ok (.aload_n 0, 1) := by decide +kernel
theorem dX2_invariant_7 : decode cX2_invariant 7 = .ok (.getfield 33, 3) := by decide +kernel
theorem dX2_invariant_10 : decode cX2_invariant 10 = .ok (.if_icmp .gt 11, 3) := by decide +kernel
theorem dX2_invariant_13 : decode cX2_invariant 13 = .ok (.iload_n 1, 1) := by decide +kernel
theorem dX2_invariant_14 : decode cX2_invariant 14 = .ok (.aload_n 0, 1) := by decide +kernel
theorem dX2_invariant_15 : decode cX2_invariant 15 = .ok (.getfield 7, 3) := by decide +kernel
theorem dX2_invariant_18 : decode cX2_invariant 18 = .ok (.if_icmp .le 7, 3) := by decide +kernel
theorem dX2_invariant_21 : decode cX2_invariant 21 = .ok (.ldc2_w 90, 3) := by decide +kernel
theorem dX2_invariant_24 : decode cX2_invariant 24 = .ok (.lreturn, 1) := by decide +kernel
theorem dX2_invariant_25 : decode cX2_invariant 25 = .ok (.aload_n 0, 1) := by decide +kernel
theorem dX2_invariant_26 : decode cX2_invariant 26 = .ok (.iload_n 1, 1) := by decide +kernel
theorem dX2_invariant_27 : decode cX2_invariant 27 = .ok (.invokevirtual 110, 3) := by decide +kernel
theorem dX2_invariant_30 : decode cX2_invariant 30 = .ok (.lstore_n 2, 1) := by decide +kernel
theorem dX2_invariant_31 : decode cX2_invariant 31 = .ok (.lload_n 2, 1) := by decide +kernel
theorem dX2_invariant_32 : decode cX2_invariant 32 = .ok (.lconst 0, 1) := by decide +kernel
theorem dX2_invariant_33 : decode cX2_invariant 33 = .ok (.lcmp, 1) := by decide +kernel
theorem dX2_invariant_34 : decode cX2_invariant 34 = .ok (.ifCond .ne 7, 3) := by decide +kernel
theorem dX2_invariant_37 : decode cX2_invariant 37 = .ok (.lconst 0, 1) := by decide +kernel
theorem dX2_invariant_38 : decode cX2_invariant 38 = .ok (.goto 12, 3) := by decide +kernel
theorem dX2_invariant_41 : decode cX2_invariant 41 = .ok (.lload_n 2, 1) := by decide +kernel
theorem dX2_invariant_42 : decode cX2_invariant 42 = .ok (.aload_n 0, 1) := by decide +kernel
theorem dX2_invariant_43 : decode cX2_invariant 43 = .ok (.iload_n 1, 1) := by decide +kernel
theorem dX2_invariant_44 : decode cX2_invariant 44 = .ok (.iconst 1, 1) := by decide +kernel
theorem dX2_invariant_45 : decode cX2_invariant 45 = .ok (.isub, 1) := by decide +kernel
theorem dX2_invariant_46 : decode cX2_invariant 46 = .ok (.invokevirtual 110, 3) := by decide +kernel
theorem dX2_invariant_49 : decode cX2_invariant 49 = .ok (.ldiv, 1) := by decide +kernel
theorem dX2_invariant_50 : decode cX2_invariant 50 = .ok (.lreturn, 1) := by decide +kernel
theorem dX2_leftOf_0 : decode cX2_leftOf 0 = .ok (.aload_n 0, 1) := by decide +kernel
theorem dX2_leftOf_1 : decode cX2_leftOf 1 = .ok (.getfield 17, 3) := by decide +kernel
theorem dX2_leftOf_4 : decode cX2_leftOf 4 = .ok (.iload_n 1, 1) := by decide +kernel
theorem dX2_leftOf_5 : decode cX2_leftOf 5 = .ok (.iaload, 1) := by decide +kernel
theorem dX2_leftOf_6 : decode cX2_leftOf 6 = .ok (.aload_n 0, 1) := by decide +kernel
theorem dX2_leftOf_7 : decode cX2_leftOf 7 = .ok (.getfield 7, 3) := by decide +kernel
theorem dX2_leftOf_10 : decode cX2_leftOf 10 = .ok (.iconst 1, 1) := by decide +kernel
theorem dX2_leftOf_11 : decode cX2_leftOf 11 = .ok (.if_icmp .le 16, 3) := by decide +kernel
theorem dX2_leftOf_14 : decode cX2_leftOf 14 = .ok (.aload_n 0, 1) := by decide +kernel
theorem dX2_leftOf_15 : decode cX2_leftOf 15 = .ok (.getfield 13, 3) := by decide +kernel
theorem dX2_leftOf_18 : decode cX2_leftOf 18 = .ok (.iconst 4, 1) := by decide +kernel
theorem dX2_leftOf_19 : decode cX2_leftOf 19 = .ok (.iload_n 1, 1) := by decide +kernel
theorem dX2_leftOf_20 : decode cX2_leftOf 20 = .ok (.imul, 1) := by decide +kernel
theorem dX2_leftOf_21 : decode cX2_leftOf 21 = .ok (.iaload, 1) := by decide +kernel
theorem dX2_leftOf_22 : decode cX2_leftOf 22 = .ok (.iload_n 2, 1) := by decide +kernel
theorem dX2_leftOf_23 : decode cX2_leftOf 23 = .ok (.imul, 1) := by decide +kernel
theorem dX2_leftOf_24 : decode cX2_leftOf 24 = .ok (.goto 4, 3) := by decide +kernel
theorem dX2_leftOf_27 : decode cX2_leftOf 27 = .ok (.iconst 0, 1) := by decide +kernel
theorem dX2_leftOf_28 : decode cX2_leftOf 28 = .ok (.isub, 1) := by decide +kernel
theorem dX2_leftOf_29 : decode cX2_leftOf 29 = .ok (.aload_n 0, 1) := by decide +kernel
theorem dX2_leftOf_30 : decode cX2_leftOf 30 = .ok (.getfield 7, 3) := by decide +kernel
theorem dX2_leftOf_33 : decode cX2_leftOf 33 = .ok (.iconst 2, 1) := by decide +kernel
theorem dX2_leftOf_34 : decode cX2_leftOf 34 = .ok (.if_icmp .le 18, 3) := by decide +kernel
theorem dX2_leftOf_37 : decode cX2_leftOf 37 = .ok (.aload_n 0, 1) := by decide +kernel
theorem dX2_leftOf_38 : decode cX2_leftOf 38 = .ok (.getfield 13, 3) := by decide +kernel
theorem dX2_leftOf_41 : decode cX2_leftOf 41 = .ok (.iconst 4, 1) := by decide +kernel
theorem dX2_leftOf_42 : decode cX2_leftOf 42 = .ok (.iload_n 1, 1) := by decide +kernel
theorem dX2_leftOf_43 : decode cX2_leftOf 43 = .ok (.imul, 1) := by decide +kernel
theorem dX2_leftOf_44 : decode cX2_leftOf 44 = .ok (.iconst 1, 1) := by decide +kernel
theorem dX2_leftOf_45 : decode cX2_leftOf 45 = .ok (.iadd, 1) := by decide +kernel
theorem dX2_leftOf_46 : decode cX2_leftOf 46 = .ok (.iaload, 1) := by decide +kernel
theorem dX2_leftOf_47 : decode cX2_leftOf 47 = .ok (.iload_n 3, 1) := by decide +kernel
theorem dX2_leftOf_48 : decode cX2_leftOf 48 = .ok (.imul, 1) := by decide +kernel
theorem dX2_leftOf_49 : decode cX2_leftOf 49 = .ok (.goto 4, 3) := by decide +kernel
theorem dX2_leftOf_52 : decode cX2_leftOf 52 = .ok (.iconst 0, 1) := by decide +kernel
theorem dX2_leftOf_53 : decode cX2_leftOf 53 = .ok (.isub, 1) := by decide +kernel
theorem dX2_leftOf_54 : decode cX2_leftOf 54 = .ok (.aload_n 0, 1) := by decide +kernel
theorem dX2_leftOf_55 : decode cX2_leftOf 55 = .ok (.getfield 7, 3) := by decide +kernel
theorem dX2_leftOf_58 : decode cX2_leftOf 58 = .ok (.iconst 3, 1) := by decide +kernel
theorem dX2_leftOf_59 : decode cX2_leftOf 59 = .ok (.if_icmp .le 19, 3) := by decide +kernel
theorem dX2_leftOf_62 : decode cX2_leftOf 62 = .ok (.aload_n 0, 1) := by decide +kernel
theorem dX2_leftOf_63 : decode cX2_leftOf 63 = .ok (.getfield 13, 3) := by decide +kernel
theorem dX2_leftOf_66 : decode cX2_leftOf 66 = .ok (.iconst 4, 1) := by decide +kernel
theorem dX2_leftOf_67 : decode cX2_leftOf 67 = .ok (.iload_n 1, 1) := by decide +kernel
theorem dX2_leftOf_68 : decode cX2_leftOf 68 = .ok (.imul, 1) := by decide +kernel
theorem dX2_leftOf_69 : decode cX2_leftOf 69 = .ok (.iconst 2, 1) := by decide +kernel
theorem dX2_leftOf_70 : decode cX2_leftOf 70 = .ok (.iadd, 1) := by decide +kernel
theorem dX2_leftOf_71 : decode cX2_leftOf 71 = .ok (.iaload, 1) := by decide +kernel
theorem dX2_leftOf_72 : decode cX2_leftOf 72 = .ok (.iload 4, 2) := by decide +kernel
theorem dX2_leftOf_74 : decode cX2_leftOf 74 = .ok (.imul, 1) := by decide +kernel
theorem dX2_leftOf_75 : decode cX2_leftOf 75 = .ok (.goto 4, 3) := by decide +kernel
theorem dX2_leftOf_78 : decode cX2_leftOf 78 = .ok (.iconst 0, 1) := by decide +kernel
theorem dX2_leftOf_79 : decode cX2_leftOf 79 = .ok (.isub, 1) := by decide +kernel
theorem dX2_leftOf_80 : decode cX2_leftOf 80 = .ok (.ireturn, 1) := by decide +kernel
theorem dX2_lasts_0 : decode cX2_lasts 0 = .ok (.iload_n 1, 1) := by decide +kernel
theorem dX2_lasts_1 : decode cX2_lasts 1 = .ok (.istore 6, 2) := by decide +kernel
theorem dX2_lasts_3 : decode cX2_lasts 3 = .ok (.iload_n 2, 1) := by decide +kernel
theorem dX2_lasts_4 : decode cX2_lasts 4 = .ok (.istore 7, 2) := by decide +kernel
theorem dX2_lasts_6 : decode cX2_lasts 6 = .ok (.iconst 0, 1) := by decide +kernel
theorem dX2_lasts_7 : decode cX2_lasts 7 = .ok (.istore 8, 2) := by decide +kernel
theorem dX2_lasts_9 : decode cX2_lasts 9 = .ok (.iload 8, 2) := by decide +kernel
theorem dX2_lasts_11 : decode cX2_lasts 11 = .ok (.aload_n 0, 1) := by decide +kernel
theorem dX2_lasts_12 : decode cX2_lasts 12 = .ok (.getfield 33, 3) := by decide +kernel
theorem dX2_lasts_15 : decode cX2_lasts 15 = .ok (.if_icmp .ge 114, 3) := by decide +kernel
theorem dX2_lasts_18 : decode cX2_lasts 18 = .ok (.aload_n 0, 1) := by decide +kernel
theorem dX2_lasts_19 : decode cX2_lasts 19 = .ok (.getfield 13, 3) := by decide +kernel
theorem dX2_lasts_22 : decode cX2_lasts 22 = .ok (.iconst 4, 1) := by decide +kernel
theorem dX2_lasts_23 : decode cX2_lasts 23 = .ok (.iload 8, 2) := by decide +kernel
theorem dX2_lasts_25 : decode cX2_lasts 25 = .ok (.imul, 1) := by decide +kernel
theorem dX2_lasts_26 : decode cX2_lasts 26 = .ok (.aload_n 0, 1) := by decide +kernel
theorem dX2_lasts_27 : decode cX2_lasts 27 = .ok (.getfield 7, 3) := by decide +kernel
theorem dX2_lasts_30 : decode cX2_lasts 30 = .ok (.iadd, 1) := by decide +kernel
theorem dX2_lasts_31 : decode cX2_lasts 31 = .ok (.iconst 1, 1) := by decide +kernel
theorem dX2_lasts_32 : decode cX2_lasts 32 = .ok (.isub, 1) := by decide +kernel
theorem dX2_lasts_33 : decode cX2_lasts 33 = .ok (.iaload, 1) := by decide +kernel
theorem dX2_lasts_34 : decode cX2_lasts 34 = .ok (.istore 9, 2) := by decide +kernel
theorem dX2_lasts_36 : decode cX2_lasts 36 = .ok (.aload_n 0, 1) := by decide +kernel
theorem dX2_lasts_37 : decode cX2_lasts 37 = .ok (.iload 8, 2) := by decide +kernel
theorem dX2_lasts_39 : decode cX2_lasts 39 = .ok (.iload_n 3, 1) := by decide +kernel
theorem dX2_lasts_40 : decode cX2_lasts 40 = .ok (.iload 4, 2) := by decide +kernel
theorem dX2_lasts_42 : decode cX2_lasts 42 = .ok (.iload 5, 2) := by decide +kernel
theorem dX2_lasts_44 : decode cX2_lasts 44 = .ok (.invokevirtual 114, 3) := by decide +kernel
theorem dX2_lasts_47 : decode cX2_lasts 47 = .ok (.istore 10, 2) := by decide +kernel
theorem dX2_lasts_49 : decode cX2_lasts 49 = .ok (.iload 9, 2) := by decide +kernel
theorem dX2_lasts_51 : decode cX2_lasts 51 = .ok (.ifCond .ne 8, 3) := by decide +kernel
theorem dX2_lasts_54 : decode cX2_lasts 54 = .ok (.iload 10, 2) := by decide +kernel
theorem dX2_lasts_56 : decode cX2_lasts 56 = .ok (.ifCond .ne 16, 3) := by decide +kernel
theorem dX2_lasts_59 : decode cX2_lasts 59 = .ok (.iload 9, 2) := by decide +kernel
theorem dX2_lasts_61 : decode cX2_lasts 61 = .ok (.ifCond .eq 13, 3) := by decide +kernel
theorem dX2_lasts_64 : decode cX2_lasts 64 = .ok (.iload 10, 2) := by decide +kernel
theorem dX2_lasts_66 : decode cX2_lasts 66 = .ok (.iload 9, 2) := by decide +kernel
theorem dX2_lasts_68 : decode cX2_lasts 68 = .ok (.irem, 1) := by decide +kernel
theorem dX2_lasts_69 : decode cX2_lasts 69 = .ok (.ifCond .eq 5, 3) := by decide +kernel
theorem dX2_lasts_72 : decode cX2_lasts 72 = .ok (.iconst 0, 1) := by decide +kernel
theorem dX2_lasts_73 : decode cX2_lasts 73 = .ok (.ireturn, 1) := by decide +kernel
theorem dX2_lasts_74 : decode cX2_lasts 74 = .ok (.iload 9, 2) := by decide +kernel
theorem dX2_lasts_76 : decode cX2_lasts 76 = .ok (.ifCond .eq 47, 3) := by decide +kernel
theorem dX2_lasts_79 : decode cX2_lasts 79 = .ok (.iload 10, 2) := by decide +kernel
theorem dX2_lasts_81 : decode cX2_lasts 81 = .ok (.iload 9, 2) := by decide +kernel
theorem dX2_lasts_83 : decode cX2_lasts 83 = .ok (.idiv, 1) := by decide +kernel
theorem dX2_lasts_84 : decode cX2_lasts 84 = .ok (.iload 6, 2) := by decide +kernel
theorem dX2_lasts_86 : decode cX2_lasts 86 = .ok (.if_icmp .le 11, 3) := by decide +kernel
theorem dX2_lasts_89 : decode cX2_lasts 89 = .ok (.iload 10, 2) := by decide +kernel
theorem dX2_lasts_91 : decode cX2_lasts 91 = .ok (.iload 9, 2) := by decide +kernel
theorem dX2_lasts_93 : decode cX2_lasts 93 = .ok (.idiv, 1) := by decide +kernel
theorem dX2_lasts_94 : decode cX2_lasts 94 = .ok (.goto 5, 3) := by decide +kernel
theorem dX2_lasts_97 : decode cX2_lasts 97 = .ok (.iload 6, 2) := by decide +kernel
theorem dX2_lasts_99 : decode cX2_lasts 99 = .ok (.istore 6, 2) := by decide +kernel
theorem dX2_lasts_101 : decode cX2_lasts 101 = .ok (.iload 10, 2) := by decide +kernel
theorem dX2_lasts_103 : decode cX2_lasts 103 = .ok (.iload 9, 2) := by decide +kernel
theorem dX2_lasts_105 : decode cX2_lasts 105 = .ok (.idiv, 1) := by decide +kernel
theorem dX2_lasts_106 : decode cX2_lasts 106 = .ok (.iload 7, 2) := by decide +kernel
theorem dX2_lasts_108 : decode cX2_lasts 108 = .ok (.if_icmp .ge 11, 3) := by decide +kernel
theorem dX2_lasts_111 : decode cX2_lasts 111 = .ok (.iload 10, 2) := by decide +kernel
theorem dX2_lasts_113 : decode cX2_lasts 113 = .ok (.iload 9, 2) := by decide +kernel
theorem dX2_lasts_115 : decode cX2_lasts 115 = .ok (.idiv, 1) := by decide +kernel
theorem dX2_lasts_116 : decode cX2_lasts 116 = .ok (.goto 5, 3) := by decide +kernel
theorem dX2_lasts_119 : decode cX2_lasts 119 = .ok (.iload 7, 2) := by decide +kernel
theorem dX2_lasts_121 : decode cX2_lasts 121 = .ok (.istore 7, 2) := by decide +kernel
theorem dX2_lasts_123 : decode cX2_lasts 123 = .ok (.iinc 8 1, 3) := by decide +kernel
theorem dX2_lasts_126 : decode cX2_lasts 126 = .ok (.goto (-117), 3) := by decide +kernel
theorem dX2_lasts_129 : decode cX2_lasts 129 = .ok (.iload 7, 2) := by decide +kernel
theorem dX2_lasts_131 : decode cX2_lasts 131 = .ok (.iload 6, 2) := by decide +kernel
theorem dX2_lasts_133 : decode cX2_lasts 133 = .ok (.if_icmp .ge 7, 3) := by decide +kernel
theorem dX2_lasts_136 : decode cX2_lasts 136 = .ok (.iconst 0, 1) := by decide +kernel
theorem dX2_lasts_137 : decode cX2_lasts 137 = .ok (.goto 10, 3) := by decide +kernel
theorem dX2_lasts_140 : decode cX2_lasts 140 = .ok (.iload 7, 2) := by decide +kernel
theorem dX2_lasts_142 : decode cX2_lasts 142 = .ok (.iload 6, 2) := by decide +kernel
theorem dX2_lasts_144 : decode cX2_lasts 144 = .ok (.isub, 1) := by decide +kernel
theorem dX2_lasts_145 : decode cX2_lasts 145 = .ok (.iconst 1, 1) := by decide +kernel
theorem dX2_lasts_146 : decode cX2_lasts 146 = .ok (.iadd, 1) := by decide +kernel
theorem dX2_lasts_147 : decode cX2_lasts 147 = .ok (.ireturn, 1) := by decide +kernel
theorem dX2_box_0 : decode cX2_box 0 = .ok (.iload_n 1, 1) := by decide +kernel
theorem dX2_box_1 : decode cX2_box 1 = .ok (.bipush (-12), 2) := by decide +kernel
theorem dX2_box_3 : decode cX2_box 3 = .ok (.if_icmp .lt 14, 3) := by decide +kernel
theorem dX2_box_6 : decode cX2_box 6 = .ok (.iload_n 2, 1) := by decide +kernel
theorem dX2_box_7 : decode cX2_box 7 = .ok (.bipush 12, 2) := by decide +kernel
theorem dX2_box_9 : decode cX2_box 9 = .ok (.if_icmp .gt 8, 3) := by decide +kernel
theorem dX2_box_12 : decode cX2_box 12 = .ok (.iload_n 2, 1) := by decide +kernel
theorem dX2_box_13 : decode cX2_box 13 = .ok (.iload_n 1, 1) := by decide +kernel
theorem dX2_box_14 : decode cX2_box 14 = .ok (.if_icmp .ge 5, 3) := by decide +kernel
theorem dX2_box_17 : decode cX2_box 17 = .ok (.iconst (-1), 1) := by decide +kernel
theorem dX2_box_18 : decode cX2_box 18 = .ok (.ireturn, 1) := by decide +kernel
theorem dX2_box_19 : decode cX2_box 19 = .ok (.iconst 0, 1) := by decide +kernel
theorem dX2_box_20 : decode cX2_box 20 = .ok (.istore_n 3, 1) := by decide +kernel
theorem dX2_box_21 : decode cX2_box 21 = .ok (.iload_n 1, 1) := by decide +kernel
theorem dX2_box_22 : decode cX2_box 22 = .ok (.istore 4, 2) := by decide +kernel
theorem dX2_box_24 : decode cX2_box 24 = .ok (.iload 4, 2) := by decide +kernel
theorem dX2_box_26 : decode cX2_box 26 = .ok (.aload_n 0, 1) := by decide +kernel
theorem dX2_box_27 : decode cX2_box 27 = .ok (.getfield 7, 3) := by decide +kernel
theorem dX2_box_30 : decode cX2_box 30 = .ok (.iconst 1, 1) := by decide +kernel
theorem dX2_box_31 : decode cX2_box 31 = .ok (.if_icmp .le 7, 3) := by decide +kernel
theorem dX2_box_34 : decode cX2_box 34 = .ok (.iload_n 2, 1) := by decide +kernel
theorem dX2_box_35 : decode cX2_box 35 = .ok (.goto 4, 3) := by decide +kernel
theorem dX2_box_38 : decode cX2_box 38 = .ok (.iload_n 1, 1) := by decide +kernel
theorem dX2_box_39 : decode cX2_box 39 = .ok (.if_icmp .gt 78, 3) := by decide +kernel
theorem dX2_box_42 : decode cX2_box 42 = .ok (.iload_n 1, 1) := by decide +kernel
theorem dX2_box_43 : decode cX2_box 43 = .ok (.istore 5, 2) := by decide +kernel
theorem dX2_box_45 : decode cX2_box 45 = .ok (.iload 5, 2) := by decide +kernel
theorem dX2_box_47 : decode cX2_box 47 = .ok (.aload_n 0, 1) := by decide +kernel
theorem dX2_box_48 : decode cX2_box 48 = .ok (.getfield 7, 3) := by decide +kernel
theorem dX2_box_51 : decode cX2_box 51 = .ok (.iconst 2, 1) := by decide +kernel
theorem dX2_box_52 : decode cX2_box 52 = .ok (.if_icmp .le 7, 3) := by decide +kernel
theorem dX2_box_55 : decode cX2_box 55 = .ok (.iload_n 2, 1) := by decide +kernel
theorem dX2_box_56 : decode cX2_box 56 = .ok (.goto 4, 3) := by decide +kernel
theorem dX2_box_59 : decode cX2_box 59 = .ok (.iload_n 1, 1) := by decide +kernel
theorem dX2_box_60 : decode cX2_box 60 = .ok (.if_icmp .gt 51, 3) := by decide +kernel
theorem dX2_box_63 : decode cX2_box 63 = .ok (.iload_n 1, 1) := by decide +kernel
theorem dX2_box_64 : decode cX2_box 64 = .ok (.istore 6, 2) := by decide +kernel
theorem dX2_box_66 : decode cX2_box 66 = .ok (.iload 6, 2) := by decide +kernel
theorem dX2_box_68 : decode cX2_box 68 = .ok (.aload_n 0, 1) := by decide +kernel
theorem dX2_box_69 : decode cX2_box 69 = .ok (.getfield 7, 3) := by decide +kernel
theorem dX2_box_72 : decode cX2_box 72 = .ok (.iconst 3, 1) := by decide +kernel
theorem dX2_box_73 : decode cX2_box 73 = .ok (.if_icmp .le 7, 3) := by decide +kernel
theorem dX2_box_76 : decode cX2_box 76 = .ok (.iload_n 2, 1) := by decide +kernel
theorem dX2_box_77 : decode cX2_box 77 = .ok (.goto 4, 3) := by decide +kernel
theorem dX2_box_80 : decode cX2_box 80 = .ok (.iload_n 1, 1) := by decide +kernel
theorem dX2_box_81 : decode cX2_box 81 = .ok (.if_icmp .gt 24, 3) := by decide +kernel
theorem dX2_box_84 : decode cX2_box 84 = .ok (.iload_n 3, 1) := by decide +kernel
theorem dX2_box_85 : decode cX2_box 85 = .ok (.aload_n 0, 1) := by decide +kernel
theorem dX2_box_86 : decode cX2_box 86 = .ok (.iload_n 1, 1) := by decide +kernel
theorem dX2_box_87 : decode cX2_box 87 = .ok (.iload_n 2, 1) := by decide +kernel
theorem dX2_box_88 : decode cX2_box 88 = .ok (.iload 4, 2) := by decide +kernel
theorem dX2_box_90 : decode cX2_box 90 = .ok (.iload 5, 2) := by decide +kernel
theorem dX2_box_92 : decode cX2_box 92 = .ok (.iload 6, 2) := by decide +kernel
theorem dX2_box_94 : decode cX2_box 94 = .ok (.invokevirtual 118, 3) := by decide +kernel
theorem dX2_box_97 : decode cX2_box 97 = .ok (.iadd, 1) := by decide +kernel
theorem dX2_box_98 : decode cX2_box 98 = .ok (.istore_n 3, 1) := by decide +kernel
theorem dX2_box_99 : decode cX2_box 99 = .ok (.iinc 6 1, 3) := by decide +kernel
theorem dX2_box_102 : decode cX2_box 102 = .ok (.goto (-36), 3) := by decide +kernel
theorem dX2_box_105 : decode cX2_box 105 = .ok (.iinc 5 1, 3) := by decide +kernel
theorem dX2_box_108 : decode cX2_box 108 = .ok (.goto (-63), 3) := by decide +kernel
theorem dX2_box_111 : decode cX2_box 111 = .ok (.iinc 4 1, 3) := by decide +kernel
theorem dX2_box_114 : decode cX2_box 114 = .ok (.goto (-90), 3) := by decide +kernel
theorem dX2_box_117 : decode cX2_box 117 = .ok (.iload_n 3, 1) := by decide +kernel
theorem dX2_box_118 : decode cX2_box 118 = .ok (.ireturn, 1) := by decide +kernel
theorem dX2_modulo_0 : decode cX2_modulo 0 = .ok (.iload_n 1, 1) := by decide +kernel
theorem dX2_modulo_1 : decode cX2_modulo 1 = .ok (.iconst 1, 1) := by decide +kernel
theorem dX2_modulo_2 : decode cX2_modulo 2 = .ok (.if_icmp .lt 9, 3) := by decide +kernel
theorem dX2_modulo_5 : decode cX2_modulo 5 = .ok (.iload_n 1, 1) := by decide +kernel
theorem dX2_modulo_6 : decode cX2_modulo 6 = .ok (.bipush 40, 2) := by decide +kernel
theorem dX2_modulo_8 : decode cX2_modulo 8 = .ok (.if_icmp .le 5, 3) := by decide +kernel
theorem dX2_modulo_11 : decode cX2_modulo 11 = .ok (.iconst (-1), 1) := by decide +kernel
theorem dX2_modulo_12 : decode cX2_modulo 12 = .ok (.ireturn, 1) := by decide +kernel
theorem dX2_modulo_13 : decode cX2_modulo 13 = .ok (.iconst 0, 1) := by decide +kernel
theorem dX2_modulo_14 : decode cX2_modulo 14 = .ok (.istore_n 2, 1) := by decide +kernel
theorem dX2_modulo_15 : decode cX2_modulo 15 = .ok (.iload_n 2, 1) := by decide +kernel
theorem dX2_modulo_16 : decode cX2_modulo 16 = .ok (.aload_n 0, 1) := by decide +kernel
theorem dX2_modulo_17 : decode cX2_modulo 17 = .ok (.getfield 7, 3) := by decide +kernel
theorem dX2_modulo_20 : decode cX2_modulo 20 = .ok (.aload_n 0, 1) := by decide +kernel
theorem dX2_modulo_21 : decode cX2_modulo 21 = .ok (.getfield 33, 3) := by decide +kernel
theorem dX2_modulo_24 : decode cX2_modulo 24 = .ok (.iadd, 1) := by decide +kernel
theorem dX2_modulo_25 : decode cX2_modulo 25 = .ok (.if_icmp .ge 84, 3) := by decide +kernel
theorem dX2_modulo_28 : decode cX2_modulo 28 = .ok (.iconst 0, 1) := by decide +kernel
theorem dX2_modulo_29 : decode cX2_modulo 29 = .ok (.istore_n 3, 1) := by decide +kernel
theorem dX2_modulo_30 : decode cX2_modulo 30 = .ok (.iload_n 3, 1) := by decide +kernel
theorem dX2_modulo_31 : decode cX2_modulo 31 = .ok (.bipush 8, 2) := by decide +kernel
theorem dX2_modulo_33 : decode cX2_modulo 33 = .ok (.if_icmp .ge 70, 3) := by decide +kernel
theorem dX2_modulo_36 : decode cX2_modulo 36 = .ok (.aload_n 0, 1) := by decide +kernel
theorem dX2_modulo_37 : decode cX2_modulo 37 = .ok (.getfield 20, 3) := by decide +kernel
theorem dX2_modulo_40 : decode cX2_modulo 40 = .ok (.bipush 8, 2) := by decide +kernel
theorem dX2_modulo_42 : decode cX2_modulo 42 = .ok (.iload_n 2, 1) := by decide +kernel
theorem dX2_modulo_43 : decode cX2_modulo 43 = .ok (.imul, 1) := by decide +kernel
theorem dX2_modulo_44 : decode cX2_modulo 44 = .ok (.iload_n 3, 1) := by decide +kernel
theorem dX2_modulo_45 : decode cX2_modulo 45 = .ok (.iadd, 1) := by decide +kernel
theorem dX2_modulo_46 : decode cX2_modulo 46 = .ok (.iload_n 3, 1) := by decide +kernel
theorem dX2_modulo_47 : decode cX2_modulo 47 = .ok (.aload_n 0, 1) := by decide +kernel
theorem dX2_modulo_48 : decode cX2_modulo 48 = .ok (.getfield 33, 3) := by decide +kernel
theorem dX2_modulo_51 : decode cX2_modulo 51 = .ok (.if_icmp .lt 7, 3) := by decide +kernel
theorem dX2_modulo_54 : decode cX2_modulo 54 = .ok (.lconst 0, 1) := by decide +kernel
theorem dX2_modulo_55 : decode cX2_modulo 55 = .ok (.goto 41, 3) := by decide +kernel
theorem dX2_modulo_58 : decode cX2_modulo 58 = .ok (.iload_n 2, 1) := by decide +kernel
theorem dX2_modulo_59 : decode cX2_modulo 59 = .ok (.aload_n 0, 1) := by decide +kernel
theorem dX2_modulo_60 : decode cX2_modulo 60 = .ok (.getfield 7, 3) := by decide +kernel
theorem dX2_modulo_63 : decode cX2_modulo 63 = .ok (.if_icmp .ge 17, 3) := by decide +kernel
theorem dX2_modulo_66 : decode cX2_modulo 66 = .ok (.aload_n 0, 1) := by decide +kernel
theorem dX2_modulo_67 : decode cX2_modulo 67 = .ok (.getfield 13, 3) := by decide +kernel
theorem dX2_modulo_70 : decode cX2_modulo 70 = .ok (.iconst 4, 1) := by decide +kernel
theorem dX2_modulo_71 : decode cX2_modulo 71 = .ok (.iload_n 3, 1) := by decide +kernel
theorem dX2_modulo_72 : decode cX2_modulo 72 = .ok (.imul, 1) := by decide +kernel
theorem dX2_modulo_73 : decode cX2_modulo 73 = .ok (.iload_n 2, 1) := by decide +kernel
theorem dX2_modulo_74 : decode cX2_modulo 74 = .ok (.iadd, 1) := by decide +kernel
theorem dX2_modulo_75 : decode cX2_modulo 75 = .ok (.iaload, 1) := by decide +kernel
theorem dX2_modulo_76 : decode cX2_modulo 76 = .ok (.i2l, 1) := by decide +kernel
theorem dX2_modulo_77 : decode cX2_modulo 77 = .ok (.goto 19, 3) := by decide +kernel
theorem dX2_modulo_80 : decode cX2_modulo 80 = .ok (.iload_n 3, 1) := by decide +kernel
theorem dX2_modulo_81 : decode cX2_modulo 81 = .ok (.iload_n 2, 1) := by decide +kernel
theorem dX2_modulo_82 : decode cX2_modulo 82 = .ok (.aload_n 0, 1) := by decide +kernel
theorem dX2_modulo_83 : decode cX2_modulo 83 = .ok (.getfield 7, 3) := by decide +kernel
theorem dX2_modulo_86 : decode cX2_modulo 86 = .ok (.isub, 1) := by decide +kernel
theorem dX2_modulo_87 : decode cX2_modulo 87 = .ok (.if_icmp .ne 8, 3) := by decide +kernel
theorem dX2_modulo_90 : decode cX2_modulo 90 = .ok (.iload_n 1, 1) := by decide +kernel
theorem dX2_modulo_91 : decode cX2_modulo 91 = .ok (.i2l, 1) := by decide +kernel
theorem dX2_modulo_92 : decode cX2_modulo 92 = .ok (.goto 4, 3) := by decide +kernel
theorem dX2_modulo_95 : decode cX2_modulo 95 = .ok (.lconst 0, 1) := by decide +kernel
theorem dX2_modulo_96 : decode cX2_modulo 96 = .ok (.lastore, 1) := by decide +kernel
theorem dX2_modulo_97 : decode cX2_modulo 97 = .ok (.iinc 3 1, 3) := by decide +kernel
theorem dX2_modulo_100 : decode cX2_modulo 100 = .ok (.goto (-70), 3) := by decide +kernel
theorem dX2_modulo_103 : decode cX2_modulo 103 = .ok (.iinc 2 1, 3) := by decide +kernel
theorem dX2_modulo_106 : decode cX2_modulo 106 = .ok (.goto (-91), 3) := by decide +kernel
theorem dX2_modulo_109 : decode cX2_modulo 109 = .ok (.aload_n 0, 1) := by decide +kernel
theorem dX2_modulo_110 : decode cX2_modulo 110 = .ok (.aload_n 0, 1) := by decide +kernel
theorem dX2_modulo_111 : decode cX2_modulo 111 = .ok (.getfield 7, 3) := by decide +kernel
theorem dX2_modulo_114 : decode cX2_modulo 114 = .ok (.aload_n 0, 1) := by decide +kernel
theorem dX2_modulo_115 : decode cX2_modulo 115 = .ok (.getfield 33, 3) := by decide +kernel
theorem dX2_modulo_118 : decode cX2_modulo 118 = .ok (.iadd, 1) := by decide +kernel
theorem dX2_modulo_119 : decode cX2_modulo 119 = .ok (.aload_n 0, 1) := by decide +kernel
theorem dX2_modulo_120 : decode cX2_modulo 120 = .ok (.getfield 33, 3) := by decide +kernel
theorem dX2_modulo_123 : decode cX2_modulo 123 = .ok (.invokevirtual 69, 3) := by decide +kernel
theorem dX2_modulo_126 : decode cX2_modulo 126 = .ok (.iconst 0, 1) := by decide +kernel
theorem dX2_modulo_127 : decode cX2_modulo 127 = .ok (.istore_n 2, 1) := by decide +kernel
theorem dX2_modulo_128 : decode cX2_modulo 128 = .ok (.iload_n 2, 1) := by decide +kernel
theorem dX2_modulo_129 : decode cX2_modulo 129 = .ok (.aload_n 0, 1) := by decide +kernel
theorem dX2_modulo_130 : decode cX2_modulo 130 = .ok (.getfield 33, 3) := by decide +kernel
theorem dX2_modulo_133 : decode cX2_modulo 133 = .ok (.if_icmp .ge 22, 3) := by decide +kernel
theorem dX2_modulo_136 : decode cX2_modulo 136 = .ok (.aload_n 0, 1) := by decide +kernel
theorem dX2_modulo_137 : decode cX2_modulo 137 = .ok (.getfield 27, 3) := by decide +kernel
theorem dX2_modulo_140 : decode cX2_modulo 140 = .ok (.iload_n 2, 1) := by decide +kernel
theorem dX2_modulo_141 : decode cX2_modulo 141 = .ok (.aload_n 0, 1) := by decide +kernel
theorem dX2_modulo_142 : decode cX2_modulo 142 = .ok (.getfield 17, 3) := by decide +kernel
theorem dX2_modulo_145 : decode cX2_modulo 145 = .ok (.iload_n 2, 1) := by decide +kernel
theorem dX2_modulo_146 : decode cX2_modulo 146 = .ok (.iaload, 1) := by decide +kernel
theorem dX2_modulo_147 : decode cX2_modulo 147 = .ok (.i2l, 1) := by decide +kernel
theorem dX2_modulo_148 : decode cX2_modulo 148 = .ok (.lastore, 1) := by decide +kernel
theorem dX2_modulo_149 : decode cX2_modulo 149 = .ok (.iinc 2 1, 3) := by decide +kernel
theorem dX2_modulo_152 : decode cX2_modulo 152 = .ok (.goto (-24), 3) := by decide +kernel
theorem dX2_modulo_155 : decode cX2_modulo 155 = .ok (.aload_n 0, 1) := by decide +kernel
theorem dX2_modulo_156 : decode cX2_modulo 156 = .ok (.aload_n 0, 1) := by decide +kernel
theorem dX2_modulo_157 : decode cX2_modulo 157 = .ok (.getfield 33, 3) := by decide +kernel
theorem dX2_modulo_160 : decode cX2_modulo 160 = .ok (.invokevirtual 80, 3) := by decide +kernel
theorem dX2_modulo_163 : decode cX2_modulo 163 = .ok (.ifCond .ne 5, 3) := by decide +kernel
theorem dX2_modulo_166 : decode cX2_modulo 166 = .ok (.iconst 0, 1) := by decide +kernel
theorem dX2_modulo_167 : decode cX2_modulo 167 = .ok (.ireturn, 1) := by decide +kernel
theorem dX2_modulo_168 : decode cX2_modulo 168 = .ok (.lconst 1, 1) := by decide +kernel
theorem dX2_modulo_169 : decode cX2_modulo 169 = .ok (.lstore_n 2, 1) := by decide +kernel
theorem dX2_modulo_170 : decode cX2_modulo 170 = .ok (.iconst 0, 1) := by decide +kernel
theorem dX2_modulo_171 : decode cX2_modulo 171 = .ok (.istore 4, 2) := by decide +kernel
theorem dX2_modulo_173 : decode cX2_modulo 173 = .ok (.iload 4, 2) := by decide +kernel
theorem dX2_modulo_175 : decode cX2_modulo 175 = .ok (.aload_n 0, 1) := by decide +kernel
theorem dX2_modulo_176 : decode cX2_modulo 176 = .ok (.getfield 7, 3) := by decide +kernel
theorem dX2_modulo_179 : decode cX2_modulo 179 = .ok (.if_icmp .ge 14, 3) := by decide +kernel
theorem dX2_modulo_182 : decode cX2_modulo 182 = .ok (.lload_n 2, 1) := by decide +kernel
theorem dX2_modulo_183 : decode cX2_modulo 183 = .ok (.iload_n 1, 1) := by decide +kernel
theorem dX2_modulo_184 : decode cX2_modulo 184 = .ok (.i2l, 1) := by decide +kernel
theorem dX2_modulo_185 : decode cX2_modulo 185 = .ok (.lmul, 1) := by decide +kernel
theorem dX2_modulo_186 : decode cX2_modulo 186 = .ok (.lstore_n 2, 1) := by decide +kernel
theorem dX2_modulo_187 : decode cX2_modulo 187 = .ok (.iinc 4 1, 3) := by decide +kernel
theorem dX2_modulo_190 : decode cX2_modulo 190 = .ok (.goto (-17), 3) := by decide +kernel
theorem dX2_modulo_193 : decode cX2_modulo 193 = .ok (.iconst 0, 1) := by decide +kernel
theorem dX2_modulo_194 : decode cX2_modulo 194 = .ok (.istore 4, 2) := by decide +kernel
theorem dX2_modulo_196 : decode cX2_modulo 196 = .ok (.iload 4, 2) := by decide +kernel
theorem dX2_modulo_198 : decode cX2_modulo 198 = .ok (.aload_n 0, 1) := by decide +kernel
theorem dX2_modulo_199 : decode cX2_modulo 199 = .ok (.getfield 33, 3) := by decide +kernel
theorem dX2_modulo_202 : decode cX2_modulo 202 = .ok (.if_icmp .ge 25, 3) := by decide +kernel
theorem dX2_modulo_205 : decode cX2_modulo 205 = .ok (.lload_n 2, 1) := by decide +kernel
theorem dX2_modulo_206 : decode cX2_modulo 206 = .ok (.aload_n 0, 1) := by decide +kernel
theorem dX2_modulo_207 : decode cX2_modulo 207 = .ok (.getfield 20, 3) := by decide +kernel
theorem dX2_modulo_210 : decode cX2_modulo 210 = .ok (.bipush 8, 2) := by decide +kernel
theorem dX2_modulo_212 : decode cX2_modulo 212 = .ok (.iload 4, 2) := by decide +kernel
theorem dX2_modulo_214 : decode cX2_modulo 214 = .ok (.imul, 1) := by decide +kernel
theorem dX2_modulo_215 : decode cX2_modulo 215 = .ok (.iload 4, 2) := by decide +kernel
theorem dX2_modulo_217 : decode cX2_modulo 217 = .ok (.iadd, 1) := by decide +kernel
theorem dX2_modulo_218 : decode cX2_modulo 218 = .ok (.laload, 1) := by decide +kernel
theorem dX2_modulo_219 : decode cX2_modulo 219 = .ok (.lmul, 1) := by decide +kernel
theorem dX2_modulo_220 : decode cX2_modulo 220 = .ok (.lstore_n 2, 1) := by decide +kernel
theorem dX2_modulo_221 : decode cX2_modulo 221 = .ok (.iinc 4 1, 3) := by decide +kernel
theorem dX2_modulo_224 : decode cX2_modulo 224 = .ok (.goto (-28), 3) := by decide +kernel
theorem dX2_modulo_227 : decode cX2_modulo 227 = .ok (.iconst 0, 1) := by decide +kernel
theorem dX2_modulo_228 : decode cX2_modulo 228 = .ok (.istore 4, 2) := by decide +kernel
theorem dX2_modulo_230 : decode cX2_modulo 230 = .ok (.iload 4, 2) := by decide +kernel
theorem dX2_modulo_232 : decode cX2_modulo 232 = .ok (.aload_n 0, 1) := by decide +kernel
theorem dX2_modulo_233 : decode cX2_modulo 233 = .ok (.getfield 33, 3) := by decide +kernel
theorem dX2_modulo_236 : decode cX2_modulo 236 = .ok (.if_icmp .ge 14, 3) := by decide +kernel
theorem dX2_modulo_239 : decode cX2_modulo 239 = .ok (.lload_n 2, 1) := by decide +kernel
theorem dX2_modulo_240 : decode cX2_modulo 240 = .ok (.iload_n 1, 1) := by decide +kernel
theorem dX2_modulo_241 : decode cX2_modulo 241 = .ok (.i2l, 1) := by decide +kernel
theorem dX2_modulo_242 : decode cX2_modulo 242 = .ok (.ldiv, 1) := by decide +kernel
theorem dX2_modulo_243 : decode cX2_modulo 243 = .ok (.lstore_n 2, 1) := by decide +kernel
theorem dX2_modulo_244 : decode cX2_modulo 244 = .ok (.iinc 4 1, 3) := by decide +kernel
theorem dX2_modulo_247 : decode cX2_modulo 247 = .ok (.goto (-17), 3) := by decide +kernel
theorem dX2_modulo_250 : decode cX2_modulo 250 = .ok (.lload_n 2, 1) := by decide +kernel
theorem dX2_modulo_251 : decode cX2_modulo 251 = .ok (.l2i, 1) := by decide +kernel
theorem dX2_modulo_252 : decode cX2_modulo 252 = .ok (.ireturn, 1) := by decide +kernel
theorem dX2_spread_0 : decode cX2_spread 0 = .ok (.aload_n 0, 1) := by decide +kernel
theorem dX2_spread_1 : decode cX2_spread 1 = .ok (.aload_n 0, 1) := by decide +kernel
theorem dX2_spread_2 : decode cX2_spread 2 = .ok (.getfield 33, 3) := by decide +kernel
theorem dX2_spread_5 : decode cX2_spread 5 = .ok (.invokevirtual 83, 3) := by decide +kernel
theorem dX2_spread_8 : decode cX2_spread 8 = .ok (.ifCond .ne 7, 3) := by decide +kernel
theorem dX2_spread_11 : decode cX2_spread 11 = .ok (.ldc2_w 122, 3) := by decide +kernel
theorem dX2_spread_14 : decode cX2_spread 14 = .ok (.lreturn, 1) := by decide +kernel
theorem dX2_spread_15 : decode cX2_spread 15 = .ok (.lconst 0, 1) := by decide +kernel
theorem dX2_spread_16 : decode cX2_spread 16 = .ok (.lstore_n 1, 1) := by decide +kernel
theorem dX2_spread_17 : decode cX2_spread 17 = .ok (.aload_n 0, 1) := by decide +kernel
theorem dX2_spread_18 : decode cX2_spread 18 = .ok (.aload_n 0, 1) := by decide +kernel
theorem dX2_spread_19 : decode cX2_spread 19 = .ok (.getfield 33, 3) := by decide +kernel
theorem dX2_spread_22 : decode cX2_spread 22 = .ok (.invokevirtual 72, 3) := by decide +kernel
theorem dX2_spread_25 : decode cX2_spread 25 = .ok (.istore_n 3, 1) := by decide +kernel
theorem dX2_spread_26 : decode cX2_spread 26 = .ok (.iload_n 3, 1) := by decide +kernel
theorem dX2_spread_27 : decode cX2_spread 27 = .ok (.aload_n 0, 1) := by decide +kernel
theorem dX2_spread_28 : decode cX2_spread 28 = .ok (.getfield 66, 3) := by decide +kernel
theorem dX2_spread_31 : decode cX2_spread 31 = .ok (.if_icmp .ge 49, 3) := by decide +kernel
theorem dX2_spread_34 : decode cX2_spread 34 = .ok (.iconst 0, 1) := by decide +kernel
theorem dX2_spread_35 : decode cX2_spread 35 = .ok (.istore 4, 2) := by decide +kernel
theorem dX2_spread_37 : decode cX2_spread 37 = .ok (.iload 4, 2) := by decide +kernel
theorem dX2_spread_39 : decode cX2_spread 39 = .ok (.aload_n 0, 1) := by decide +kernel
theorem dX2_spread_40 : decode cX2_spread 40 = .ok (.getfield 7, 3) := by decide +kernel
theorem dX2_spread_43 : decode cX2_spread 43 = .ok (.if_icmp .ge 31, 3) := by decide +kernel
theorem dX2_spread_46 : decode cX2_spread 46 = .ok (.lload_n 1, 1) := by decide +kernel
theorem dX2_spread_47 : decode cX2_spread 47 = .ok (.aload_n 0, 1) := by decide +kernel
theorem dX2_spread_48 : decode cX2_spread 48 = .ok (.getfield 20, 3) := by decide +kernel
theorem dX2_spread_51 : decode cX2_spread 51 = .ok (.bipush 8, 2) := by decide +kernel
theorem dX2_spread_53 : decode cX2_spread 53 = .ok (.iload_n 3, 1) := by decide +kernel
theorem dX2_spread_54 : decode cX2_spread 54 = .ok (.imul, 1) := by decide +kernel
theorem dX2_spread_55 : decode cX2_spread 55 = .ok (.aload_n 0, 1) := by decide +kernel
theorem dX2_spread_56 : decode cX2_spread 56 = .ok (.getfield 33, 3) := by decide +kernel
theorem dX2_spread_59 : decode cX2_spread 59 = .ok (.iadd, 1) := by decide +kernel
theorem dX2_spread_60 : decode cX2_spread 60 = .ok (.iload 4, 2) := by decide +kernel
theorem dX2_spread_62 : decode cX2_spread 62 = .ok (.iadd, 1) := by decide +kernel
theorem dX2_spread_63 : decode cX2_spread 63 = .ok (.laload, 1) := by decide +kernel
theorem dX2_spread_64 : decode cX2_spread 64 = .ok (.invokestatic 107, 3) := by decide +kernel
theorem dX2_spread_67 : decode cX2_spread 67 = .ok (.lstore_n 1, 1) := by decide +kernel
theorem dX2_spread_68 : decode cX2_spread 68 = .ok (.iinc 4 1, 3) := by decide +kernel
theorem dX2_spread_71 : decode cX2_spread 71 = .ok (.goto (-34), 3) := by decide +kernel
theorem dX2_spread_74 : decode cX2_spread 74 = .ok (.iinc 3 1, 3) := by decide +kernel
theorem dX2_spread_77 : decode cX2_spread 77 = .ok (.goto (-51), 3) := by decide +kernel
theorem dX2_spread_80 : decode cX2_spread 80 = .ok (.lload_n 1, 1) := by decide +kernel
theorem dX2_spread_81 : decode cX2_spread 81 = .ok (.lreturn, 1) := by decide +kernel
theorem dX2_check_0 : decode cX2_check 0 = .ok (.iconst 1, 1) := by decide +kernel
theorem dX2_check_1 : decode cX2_check 1 = .ok (.ireturn, 1) := by decide +kernel
