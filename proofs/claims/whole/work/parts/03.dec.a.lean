theorem dX0_init_0 : decode cX0_init 0 = .ok (.aload_n 0, 1) := by decide +kernel
theorem dX0_init_1 : decode cX0_init 1 = .ok (.invokespecial 3, 3) := by decide +kernel
theorem dX0_init_4 : decode cX0_init 4 = .ok (.aload_n 0, 1) := by decide +kernel
theorem dX0_init_5 : decode cX0_init 5 = .ok (.iload_n 1, 1) := by decide +kernel
theorem dX0_init_6 : decode cX0_init 6 = .ok (.iload_n 2, 1) := by decide +kernel
theorem dX0_init_7 : decode cX0_init 7 = .ok (.multianewarray 9 2, 4) := by decide +kernel
theorem dX0_init_11 : decode cX0_init 11 = .ok (.putfield 11, 3) := by decide +kernel
theorem dX0_init_14 : decode cX0_init 14 = .ok (.aload_n 0, 1) := by decide +kernel
theorem dX0_init_15 : decode cX0_init 15 = .ok (.iload_n 1, 1) := by decide +kernel
theorem dX0_init_16 : decode cX0_init 16 = .ok (.newarray .int, 2) := by decide +kernel
theorem dX0_init_18 : decode cX0_init 18 = .ok (.putfield 16, 3) := by decide +kernel
theorem dX0_init_21 : decode cX0_init 21 = .ok (.return_, 1) := by decide +kernel
theorem dX0_clear_0 : decode cX0_clear 0 = .ok (.aload_n 0, 1) := by decide +kernel
theorem dX0_clear_1 : decode cX0_clear 1 = .ok (.iload_n 1, 1) := by decide +kernel
theorem dX0_clear_2 : decode cX0_clear 2 = .ok (.putfield 20, 3) := by decide +kernel
theorem dX0_clear_5 : decode cX0_clear 5 = .ok (.aload_n 0, 1) := by decide +kernel
theorem dX0_clear_6 : decode cX0_clear 6 = .ok (.iload_n 2, 1) := by decide +kernel
theorem dX0_clear_7 : decode cX0_clear 7 = .ok (.putfield 24, 3) := by decide +kernel
theorem dX0_clear_10 : decode cX0_clear 10 = .ok (.aload_n 0, 1) := by decide +kernel
theorem dX0_clear_11 : decode cX0_clear 11 = .ok (.iconst 0, 1) := by decide +kernel
theorem dX0_clear_12 : decode cX0_clear 12 = .ok (.putfield 27, 3) := by decide +kernel
theorem dX0_clear_15 : decode cX0_clear 15 = .ok (.iconst 0, 1) := by decide +kernel
theorem dX0_clear_16 : decode cX0_clear 16 = .ok (.istore_n 3, 1) := by decide +kernel
theorem dX0_clear_17 : decode cX0_clear 17 = .ok (.iload_n 3, 1) := by decide +kernel
theorem dX0_clear_18 : decode cX0_clear 18 = .ok (.aload_n 0, 1) := by decide +kernel
theorem dX0_clear_19 : decode cX0_clear 19 = .ok (.getfield 20, 3) := by decide +kernel
theorem dX0_clear_22 : decode cX0_clear 22 = .ok (.if_icmp .ge 18, 3) := by decide +kernel
theorem dX0_clear_25 : decode cX0_clear 25 = .ok (.aload_n 0, 1) := by decide +kernel
theorem dX0_clear_26 : decode cX0_clear 26 = .ok (.getfield 11, 3) := by decide +kernel
theorem dX0_clear_29 : decode cX0_clear 29 = .ok (.iload_n 3, 1) := by decide +kernel
theorem dX0_clear_30 : decode cX0_clear 30 = .ok (.aaload, 1) := by decide +kernel
theorem dX0_clear_31 : decode cX0_clear 31 = .ok (.invokestatic 30, 3) := by decide +kernel
theorem dX0_clear_34 : decode cX0_clear 34 = .ok (.iinc 3 1, 3) := by decide +kernel
theorem dX0_clear_37 : decode cX0_clear 37 = .ok (.goto (-20), 3) := by decide +kernel
theorem dX0_clear_40 : decode cX0_clear 40 = .ok (.return_, 1) := by decide +kernel
theorem dX0_put_0 : decode cX0_put 0 = .ok (.aload_n 0, 1) := by decide +kernel
theorem dX0_put_1 : decode cX0_put 1 = .ok (.getfield 11, 3) := by decide +kernel
theorem dX0_put_4 : decode cX0_put 4 = .ok (.iload_n 1, 1) := by decide +kernel
theorem dX0_put_5 : decode cX0_put 5 = .ok (.aaload, 1) := by decide +kernel
theorem dX0_put_6 : decode cX0_put 6 = .ok (.iload_n 2, 1) := by decide +kernel
theorem dX0_put_7 : decode cX0_put 7 = .ok (.lload_n 3, 1) := by decide +kernel
theorem dX0_put_8 : decode cX0_put 8 = .ok (.lastore, 1) := by decide +kernel
theorem dX0_put_9 : decode cX0_put 9 = .ok (.return_, 1) := by decide +kernel
theorem dX0_at_0 : decode cX0_at 0 = .ok (.aload_n 0, 1) := by decide +kernel
theorem dX0_at_1 : decode cX0_at 1 = .ok (.getfield 11, 3) := by decide +kernel
theorem dX0_at_4 : decode cX0_at 4 = .ok (.iload_n 1, 1) := by decide +kernel
theorem dX0_at_5 : decode cX0_at 5 = .ok (.aaload, 1) := by decide +kernel
theorem dX0_at_6 : decode cX0_at 6 = .ok (.iload_n 2, 1) := by decide +kernel
theorem dX0_at_7 : decode cX0_at 7 = .ok (.laload, 1) := by decide +kernel
theorem dX0_at_8 : decode cX0_at 8 = .ok (.lreturn, 1) := by decide +kernel
theorem dX0_row_0 : decode cX0_row 0 = .ok (.aload_n 0, 1) := by decide +kernel
theorem dX0_row_1 : decode cX0_row 1 = .ok (.getfield 11, 3) := by decide +kernel
theorem dX0_row_4 : decode cX0_row 4 = .ok (.iload_n 1, 1) := by decide +kernel
theorem dX0_row_5 : decode cX0_row 5 = .ok (.aaload, 1) := by decide +kernel
theorem dX0_row_6 : decode cX0_row 6 = .ok (.areturn, 1) := by decide +kernel
theorem dX0_leadColumn_0 : decode cX0_leadColumn 0 = .ok (.aload_n 0, 1) := by decide +kernel
theorem dX0_leadColumn_1 : decode cX0_leadColumn 1 = .ok (.getfield 16, 3) := by decide +kernel
theorem dX0_leadColumn_4 : decode cX0_leadColumn 4 = .ok (.iload_n 1, 1) := by decide +kernel
theorem dX0_leadColumn_5 : decode cX0_leadColumn 5 = .ok (.iaload, 1) := by decide +kernel
theorem dX0_leadColumn_6 : decode cX0_leadColumn 6 = .ok (.ireturn, 1) := by decide +kernel
theorem dX0_leadsBefore_0 : decode cX0_leadsBefore 0 = .ok (.iconst 0, 1) := by decide +kernel
theorem dX0_leadsBefore_1 : decode cX0_leadsBefore 1 = .ok (.istore_n 2, 1) := by decide +kernel
theorem dX0_leadsBefore_2 : decode cX0_leadsBefore 2 = .ok (.iconst 0, 1) := by decide +kernel
theorem dX0_leadsBefore_3 : decode cX0_leadsBefore 3 = .ok (.istore_n 3, 1) := by decide +kernel
theorem dX0_leadsBefore_4 : decode cX0_leadsBefore 4 = .ok (.iload_n 3, 1) := by decide +kernel
theorem dX0_leadsBefore_5 : decode cX0_leadsBefore 5 = .ok (.aload_n 0, 1) := by decide +kernel
theorem dX0_leadsBefore_6 : decode cX0_leadsBefore 6 = .ok (.getfield 27, 3) := by decide +kernel
theorem dX0_leadsBefore_9 : decode cX0_leadsBefore 9 = .ok (.if_icmp .ge 22, 3) := by decide +kernel
theorem dX0_leadsBefore_12 : decode cX0_leadsBefore 12 = .ok (.aload_n 0, 1) := by decide +kernel
theorem dX0_leadsBefore_13 : decode cX0_leadsBefore 13 = .ok (.getfield 16, 3) := by decide +kernel
theorem dX0_leadsBefore_16 : decode cX0_leadsBefore 16 = .ok (.iload_n 3, 1) := by decide +kernel
theorem dX0_leadsBefore_17 : decode cX0_leadsBefore 17 = .ok (.iaload, 1) := by decide +kernel
theorem dX0_leadsBefore_18 : decode cX0_leadsBefore 18 = .ok (.iload_n 1, 1) := by decide +kernel
theorem dX0_leadsBefore_19 : decode cX0_leadsBefore 19 = .ok (.if_icmp .ge 6, 3) := by decide +kernel
theorem dX0_leadsBefore_22 : decode cX0_leadsBefore 22 = .ok (.iinc 2 1, 3) := by decide +kernel
theorem dX0_leadsBefore_25 : decode cX0_leadsBefore 25 = .ok (.iinc 3 1, 3) := by decide +kernel
theorem dX0_leadsBefore_28 : decode cX0_leadsBefore 28 = .ok (.goto (-24), 3) := by decide +kernel
theorem dX0_leadsBefore_31 : decode cX0_leadsBefore 31 = .ok (.iload_n 2, 1) := by decide +kernel
theorem dX0_leadsBefore_32 : decode cX0_leadsBefore 32 = .ok (.ireturn, 1) := by decide +kernel
theorem dX0_bringToForm_0 : decode cX0_bringToForm 0 = .ok (.iconst 0, 1) := by decide +kernel
theorem dX0_bringToForm_1 : decode cX0_bringToForm 1 = .ok (.istore_n 1, 1) := by decide +kernel
theorem dX0_bringToForm_2 : decode cX0_bringToForm 2 = .ok (.iload_n 1, 1) := by decide +kernel
theorem dX0_bringToForm_3 : decode cX0_bringToForm 3 = .ok (.aload_n 0, 1) := by decide +kernel
theorem dX0_bringToForm_4 : decode cX0_bringToForm 4 = .ok (.getfield 24, 3) := by decide +kernel
theorem dX0_bringToForm_7 : decode cX0_bringToForm 7 = .ok (.if_icmp .ge 72, 3) := by decide +kernel
theorem dX0_bringToForm_10 : decode cX0_bringToForm 10 = .ok (.aload_n 0, 1) := by decide +kernel
theorem dX0_bringToForm_11 : decode cX0_bringToForm 11 = .ok (.getfield 27, 3) := by decide +kernel
theorem dX0_bringToForm_14 : decode cX0_bringToForm 14 = .ok (.aload_n 0, 1) := by decide +kernel
theorem dX0_bringToForm_15 : decode cX0_bringToForm 15 = .ok (.getfield 20, 3) := by decide +kernel
theorem dX0_bringToForm_18 : decode cX0_bringToForm 18 = .ok (.if_icmp .ge 61, 3) := by decide +kernel
theorem dX0_bringToForm_21 : decode cX0_bringToForm 21 = .ok (.aload_n 0, 1) := by decide +kernel
theorem dX0_bringToForm_22 : decode cX0_bringToForm 22 = .ok (.getfield 27, 3) := by decide +kernel
theorem dX0_bringToForm_25 : decode cX0_bringToForm 25 = .ok (.iconst 1, 1) := by decide +kernel
theorem dX0_bringToForm_26 : decode cX0_bringToForm 26 = .ok (.iadd, 1) := by decide +kernel
theorem dX0_bringToForm_27 : decode cX0_bringToForm 27 = .ok (.istore_n 2, 1) := by decide +kernel
theorem dX0_bringToForm_28 : decode cX0_bringToForm 28 = .ok (.iload_n 2, 1) := by decide +kernel
theorem dX0_bringToForm_29 : decode cX0_bringToForm 29 = .ok (.aload_n 0, 1) := by decide +kernel
theorem dX0_bringToForm_30 : decode cX0_bringToForm 30 = .ok (.getfield 20, 3) := by decide +kernel
theorem dX0_bringToForm_33 : decode cX0_bringToForm 33 = .ok (.if_icmp .ge 19, 3) := by decide +kernel
theorem dX0_bringToForm_36 : decode cX0_bringToForm 36 = .ok (.aload_n 0, 1) := by decide +kernel
theorem dX0_bringToForm_37 : decode cX0_bringToForm 37 = .ok (.aload_n 0, 1) := by decide +kernel
theorem dX0_bringToForm_38 : decode cX0_bringToForm 38 = .ok (.getfield 27, 3) := by decide +kernel
theorem dX0_bringToForm_41 : decode cX0_bringToForm 41 = .ok (.iload_n 2, 1) := by decide +kernel
theorem dX0_bringToForm_42 : decode cX0_bringToForm 42 = .ok (.iload_n 1, 1) := by decide +kernel
theorem dX0_bringToForm_43 : decode cX0_bringToForm 43 = .ok (.invokevirtual 34, 3) := by decide +kernel
theorem dX0_bringToForm_46 : decode cX0_bringToForm 46 = .ok (.iinc 2 1, 3) := by decide +kernel
theorem dX0_bringToForm_49 : decode cX0_bringToForm 49 = .ok (.goto (-21), 3) := by decide +kernel
theorem dX0_bringToForm_52 : decode cX0_bringToForm 52 = .ok (.aload_n 0, 1) := by decide +kernel
theorem dX0_bringToForm_53 : decode cX0_bringToForm 53 = .ok (.getfield 11, 3) := by decide +kernel
theorem dX0_bringToForm_56 : decode cX0_bringToForm 56 = .ok (.aload_n 0, 1) := by decide +kernel
theorem dX0_bringToForm_57 : decode cX0_bringToForm 57 = .ok (.getfield 27, 3) := by decide +kernel
theorem dX0_bringToForm_60 : decode cX0_bringToForm 60 = .ok (.aaload, 1) := by decide +kernel
theorem dX0_bringToForm_61 : decode cX0_bringToForm 61 = .ok (.iload_n 1, 1) := by decide +kernel
theorem dX0_bringToForm_62 : decode cX0_bringToForm 62 = .ok (.laload, 1) := by decide +kernel
theorem dX0_bringToForm_63 : decode cX0_bringToForm 63 = .ok (.lconst 0, 1) := by decide +kernel
theorem dX0_bringToForm_64 : decode cX0_bringToForm 64 = .ok (.lcmp, 1) := by decide +kernel
theorem dX0_bringToForm_65 : decode cX0_bringToForm 65 = .ok (.ifCond .eq 8, 3) := by decide +kernel
theorem dX0_bringToForm_68 : decode cX0_bringToForm 68 = .ok (.aload_n 0, 1) := by decide +kernel
theorem dX0_bringToForm_69 : decode cX0_bringToForm 69 = .ok (.iload_n 1, 1) := by decide +kernel
theorem dX0_bringToForm_70 : decode cX0_bringToForm 70 = .ok (.invokevirtual 38, 3) := by decide +kernel
theorem dX0_bringToForm_73 : decode cX0_bringToForm 73 = .ok (.iinc 1 1, 3) := by decide +kernel
theorem dX0_bringToForm_76 : decode cX0_bringToForm 76 = .ok (.goto (-74), 3) := by decide +kernel
theorem dX0_bringToForm_79 : decode cX0_bringToForm 79 = .ok (.return_, 1) := by decide +kernel
theorem dX0_divideOut_0 : decode cX0_divideOut 0 = .ok (.iconst 0, 1) := by decide +kernel
theorem dX0_divideOut_1 : decode cX0_divideOut 1 = .ok (.istore 4, 2) := by decide +kernel
theorem dX0_divideOut_3 : decode cX0_divideOut 3 = .ok (.iload 4, 2) := by decide +kernel
theorem dX0_divideOut_5 : decode cX0_divideOut 5 = .ok (.sipush 200, 3) := by decide +kernel
theorem dX0_divideOut_8 : decode cX0_divideOut 8 = .ok (.if_icmp .ge 114, 3) := by decide +kernel
theorem dX0_divideOut_11 : decode cX0_divideOut 11 = .ok (.aload_n 0, 1) := by decide +kernel
theorem dX0_divideOut_12 : decode cX0_divideOut 12 = .ok (.getfield 11, 3) := by decide +kernel
theorem dX0_divideOut_15 : decode cX0_divideOut 15 = .ok (.iload_n 2, 1) := by decide +kernel
theorem dX0_divideOut_16 : decode cX0_divideOut 16 = .ok (.aaload, 1) := by decide +kernel
theorem dX0_divideOut_17 : decode cX0_divideOut 17 = .ok (.iload_n 3, 1) := by decide +kernel
theorem dX0_divideOut_18 : decode cX0_divideOut 18 = .ok (.laload, 1) := by decide +kernel
theorem dX0_divideOut_19 : decode cX0_divideOut 19 = .ok (.lconst 0, 1) := by decide +kernel
theorem dX0_divideOut_20 : decode cX0_divideOut 20 = .ok (.lcmp, 1) := by decide +kernel
theorem dX0_divideOut_21 : decode cX0_divideOut 21 = .ok (.ifCond .eq 101, 3) := by decide +kernel
theorem dX0_divideOut_24 : decode cX0_divideOut 24 = .ok (.aload_n 0, 1) := by decide +kernel
theorem dX0_divideOut_25 : decode cX0_divideOut 25 = .ok (.getfield 11, 3) := by decide +kernel
theorem dX0_divideOut_28 : decode cX0_divideOut 28 = .ok (.iload_n 1, 1) := by decide +kernel
theorem dX0_divideOut_29 : decode cX0_divideOut 29 = .ok (.aaload, 1) := by decide +kernel
theorem dX0_divideOut_30 : decode cX0_divideOut 30 = .ok (.iload_n 3, 1) := by decide +kernel
theorem dX0_divideOut_31 : decode cX0_divideOut 31 = .ok (.laload, 1) := by decide +kernel
theorem dX0_divideOut_32 : decode cX0_divideOut 32 = .ok (.aload_n 0, 1) := by decide +kernel
theorem dX0_divideOut_33 : decode cX0_divideOut 33 = .ok (.getfield 11, 3) := by decide +kernel
theorem dX0_divideOut_36 : decode cX0_divideOut 36 = .ok (.iload_n 2, 1) := by decide +kernel
theorem dX0_divideOut_37 : decode cX0_divideOut 37 = .ok (.aaload, 1) := by decide +kernel
theorem dX0_divideOut_38 : decode cX0_divideOut 38 = .ok (.iload_n 3, 1) := by decide +kernel
theorem dX0_divideOut_39 : decode cX0_divideOut 39 = .ok (.laload, 1) := by decide +kernel
theorem dX0_divideOut_40 : decode cX0_divideOut 40 = .ok (.invokestatic 42, 3) := by decide +kernel
theorem dX0_divideOut_43 : decode cX0_divideOut 43 = .ok (.lstore 5, 2) := by decide +kernel
theorem dX0_divideOut_45 : decode cX0_divideOut 45 = .ok (.iconst 0, 1) := by decide +kernel
theorem dX0_divideOut_46 : decode cX0_divideOut 46 = .ok (.istore 7, 2) := by decide +kernel
theorem dX0_divideOut_48 : decode cX0_divideOut 48 = .ok (.iload 7, 2) := by decide +kernel
theorem dX0_divideOut_50 : decode cX0_divideOut 50 = .ok (.aload_n 0, 1) := by decide +kernel
theorem dX0_divideOut_51 : decode cX0_divideOut 51 = .ok (.getfield 24, 3) := by decide +kernel
theorem dX0_divideOut_54 : decode cX0_divideOut 54 = .ok (.if_icmp .ge 62, 3) := by decide +kernel
theorem dX0_divideOut_57 : decode cX0_divideOut 57 = .ok (.aload_n 0, 1) := by decide +kernel
theorem dX0_divideOut_58 : decode cX0_divideOut 58 = .ok (.getfield 11, 3) := by decide +kernel
theorem dX0_divideOut_61 : decode cX0_divideOut 61 = .ok (.iload_n 1, 1) := by decide +kernel
theorem dX0_divideOut_62 : decode cX0_divideOut 62 = .ok (.aaload, 1) := by decide +kernel
theorem dX0_divideOut_63 : decode cX0_divideOut 63 = .ok (.iload 7, 2) := by decide +kernel
theorem dX0_divideOut_65 : decode cX0_divideOut 65 = .ok (.laload, 1) := by decide +kernel
theorem dX0_divideOut_66 : decode cX0_divideOut 66 = .ok (.lload 5, 2) := by decide +kernel
theorem dX0_divideOut_68 : decode cX0_divideOut 68 = .ok (.aload_n 0, 1) := by decide +kernel
theorem dX0_divideOut_69 : decode cX0_divideOut 69 = .ok (.getfield 11, 3) := by decide +kernel
theorem dX0_divideOut_72 : decode cX0_divideOut 72 = .ok (.iload_n 2, 1) := by decide +kernel
theorem dX0_divideOut_73 : decode cX0_divideOut 73 = .ok (.aaload, 1) := by decide +kernel
theorem dX0_divideOut_74 : decode cX0_divideOut 74 = .ok (.iload 7, 2) := by decide +kernel
theorem dX0_divideOut_76 : decode cX0_divideOut 76 = .ok (.laload, 1) := by decide +kernel
theorem dX0_divideOut_77 : decode cX0_divideOut 77 = .ok (.lmul, 1) := by decide +kernel
theorem dX0_divideOut_78 : decode cX0_divideOut 78 = .ok (.lsub, 1) := by decide +kernel
theorem dX0_divideOut_79 : decode cX0_divideOut 79 = .ok (.lstore 8, 2) := by decide +kernel
theorem dX0_divideOut_81 : decode cX0_divideOut 81 = .ok (.aload_n 0, 1) := by decide +kernel
theorem dX0_divideOut_82 : decode cX0_divideOut 82 = .ok (.getfield 11, 3) := by decide +kernel
theorem dX0_divideOut_85 : decode cX0_divideOut 85 = .ok (.iload_n 1, 1) := by decide +kernel
theorem dX0_divideOut_86 : decode cX0_divideOut 86 = .ok (.aaload, 1) := by decide +kernel
theorem dX0_divideOut_87 : decode cX0_divideOut 87 = .ok (.iload 7, 2) := by decide +kernel
theorem dX0_divideOut_89 : decode cX0_divideOut 89 = .ok (.aload_n 0, 1) := by decide +kernel
theorem dX0_divideOut_90 : decode cX0_divideOut 90 = .ok (.getfield 11, 3) := by decide +kernel
theorem dX0_divideOut_93 : decode cX0_divideOut 93 = .ok (.iload_n 2, 1) := by decide +kernel
theorem dX0_divideOut_94 : decode cX0_divideOut 94 = .ok (.aaload, 1) := by decide +kernel
theorem dX0_divideOut_95 : decode cX0_divideOut 95 = .ok (.iload 7, 2) := by decide +kernel
theorem dX0_divideOut_97 : decode cX0_divideOut 97 = .ok (.laload, 1) := by decide +kernel
theorem dX0_divideOut_98 : decode cX0_divideOut 98 = .ok (.lastore, 1) := by decide +kernel
theorem dX0_divideOut_99 : decode cX0_divideOut 99 = .ok (.aload_n 0, 1) := by decide +kernel
theorem dX0_divideOut_100 : decode cX0_divideOut 100 = .ok (.getfield 11, 3) := by decide +kernel
theorem dX0_divideOut_103 : decode cX0_divideOut 103 = .ok (.iload_n 2, 1) := by decide +kernel
theorem dX0_divideOut_104 : decode cX0_divideOut 104 = .ok (.aaload, 1) := by decide +kernel
theorem dX0_divideOut_105 : decode cX0_divideOut 105 = .ok (.iload 7, 2) := by decide +kernel
theorem dX0_divideOut_107 : decode cX0_divideOut 107 = .ok (.lload 8, 2) := by decide +kernel
theorem dX0_divideOut_109 : decode cX0_divideOut 109 = .ok (.lastore, 1) := by decide +kernel
theorem dX0_divideOut_110 : decode cX0_divideOut 110 = .ok (.iinc 7 1, 3) := by decide +kernel
theorem dX0_divideOut_113 : decode cX0_divideOut 113 = .ok (.goto (-65), 3) := by decide +kernel
theorem dX0_divideOut_116 : decode cX0_divideOut 116 = .ok (.iinc 4 1, 3) := by decide +kernel
theorem dX0_divideOut_119 : decode cX0_divideOut 119 = .ok (.goto (-116), 3) := by decide +kernel
theorem dX0_divideOut_122 : decode cX0_divideOut 122 = .ok (.return_, 1) := by decide +kernel
theorem dX0_addLead_0 : decode cX0_addLead 0 = .ok (.aload_n 0, 1) := by decide +kernel
theorem dX0_addLead_1 : decode cX0_addLead 1 = .ok (.getfield 11, 3) := by decide +kernel
theorem dX0_addLead_4 : decode cX0_addLead 4 = .ok (.aload_n 0, 1) := by decide +kernel
theorem dX0_addLead_5 : decode cX0_addLead 5 = .ok (.getfield 27, 3) := by decide +kernel
theorem dX0_addLead_8 : decode cX0_addLead 8 = .ok (.aaload, 1) := by decide +kernel
theorem dX0_addLead_9 : decode cX0_addLead 9 = .ok (.iload_n 1, 1) := by decide +kernel
theorem dX0_addLead_10 : decode cX0_addLead 10 = .ok (.laload, 1) := by decide +kernel
theorem dX0_addLead_11 : decode cX0_addLead 11 = .ok (.lconst 0, 1) := by decide +kernel
theorem dX0_addLead_12 : decode cX0_addLead 12 = .ok (.lcmp, 1) := by decide +kernel
theorem dX0_addLead_13 : decode cX0_addLead 13 = .ok (.ifCond .ge 42, 3) := by decide +kernel
theorem dX0_addLead_16 : decode cX0_addLead 16 = .ok (.iconst 0, 1) := by decide +kernel
theorem dX0_addLead_17 : decode cX0_addLead 17 = .ok (.istore_n 2, 1) := by decide +kernel
theorem dX0_addLead_18 : decode cX0_addLead 18 = .ok (.iload_n 2, 1) := by decide +kernel
theorem dX0_addLead_19 : decode cX0_addLead 19 = .ok (.aload_n 0, 1) := by decide +kernel
theorem dX0_addLead_20 : decode cX0_addLead 20 = .ok (.getfield 24, 3) := by decide +kernel
theorem dX0_addLead_23 : decode cX0_addLead 23 = .ok (.if_icmp .ge 32, 3) := by decide +kernel
theorem dX0_addLead_26 : decode cX0_addLead 26 = .ok (.aload_n 0, 1) := by decide +kernel
theorem dX0_addLead_27 : decode cX0_addLead 27 = .ok (.getfield 11, 3) := by decide +kernel
theorem dX0_addLead_30 : decode cX0_addLead 30 = .ok (.aload_n 0, 1) := by decide +kernel
theorem dX0_addLead_31 : decode cX0_addLead 31 = .ok (.getfield 27, 3) := by decide +kernel
theorem dX0_addLead_34 : decode cX0_addLead 34 = .ok (.aaload, 1) := by decide +kernel
theorem dX0_addLead_35 : decode cX0_addLead 35 = .ok (.iload_n 2, 1) := by decide +kernel
theorem dX0_addLead_36 : decode cX0_addLead 36 = .ok (.aload_n 0, 1) := by decide +kernel
theorem dX0_addLead_37 : decode cX0_addLead 37 = .ok (.getfield 11, 3) := by decide +kernel
theorem dX0_addLead_40 : decode cX0_addLead 40 = .ok (.aload_n 0, 1) := by decide +kernel
theorem dX0_addLead_41 : decode cX0_addLead 41 = .ok (.getfield 27, 3) := by decide +kernel
theorem dX0_addLead_44 : decode cX0_addLead 44 = .ok (.aaload, 1) := by decide +kernel
theorem dX0_addLead_45 : decode cX0_addLead 45 = .ok (.iload_n 2, 1) := by decide +kernel
theorem dX0_addLead_46 : decode cX0_addLead 46 = .ok (.laload, 1) := by decide +kernel
theorem dX0_addLead_47 : decode cX0_addLead 47 = .ok (.lneg, 1) := by decide +kernel
theorem dX0_addLead_48 : decode cX0_addLead 48 = .ok (.lastore, 1) := by decide +kernel
theorem dX0_addLead_49 : decode cX0_addLead 49 = .ok (.iinc 2 1, 3) := by decide +kernel
theorem dX0_addLead_52 : decode cX0_addLead 52 = .ok (.goto (-34), 3) := by decide +kernel
theorem dX0_addLead_55 : decode cX0_addLead 55 = .ok (.aload_n 0, 1) := by decide +kernel
theorem dX0_addLead_56 : decode cX0_addLead 56 = .ok (.getfield 16, 3) := by decide +kernel
theorem dX0_addLead_59 : decode cX0_addLead 59 = .ok (.aload_n 0, 1) := by decide +kernel
theorem dX0_addLead_60 : decode cX0_addLead 60 = .ok (.getfield 27, 3) := by decide +kernel
theorem dX0_addLead_63 : decode cX0_addLead 63 = .ok (.iload_n 1, 1) := by decide +kernel
theorem dX0_addLead_64 : decode cX0_addLead 64 = .ok (.iastore, 1) := by decide +kernel
theorem dX0_addLead_65 : decode cX0_addLead 65 = .ok (.iconst 0, 1) := by decide +kernel
theorem dX0_addLead_66 : decode cX0_addLead 66 = .ok (.istore_n 2, 1) := by decide +kernel
theorem dX0_addLead_67 : decode cX0_addLead 67 = .ok (.iload_n 2, 1) := by decide +kernel
theorem dX0_addLead_68 : decode cX0_addLead 68 = .ok (.aload_n 0, 1) := by decide +kernel
theorem dX0_addLead_69 : decode cX0_addLead 69 = .ok (.getfield 27, 3) := by decide +kernel
theorem dX0_addLead_72 : decode cX0_addLead 72 = .ok (.if_icmp .ge 23, 3) := by decide +kernel
theorem dX0_addLead_75 : decode cX0_addLead 75 = .ok (.aload_n 0, 1) := by decide +kernel
theorem dX0_addLead_76 : decode cX0_addLead 76 = .ok (.aload_n 0, 1) := by decide +kernel
theorem dX0_addLead_77 : decode cX0_addLead 77 = .ok (.getfield 27, 3) := by decide +kernel
theorem dX0_addLead_80 : decode cX0_addLead 80 = .ok (.aload_n 0, 1) := by decide +kernel
theorem dX0_addLead_81 : decode cX0_addLead 81 = .ok (.getfield 11, 3) := by decide +kernel
theorem dX0_addLead_84 : decode cX0_addLead 84 = .ok (.iload_n 2, 1) := by decide +kernel
theorem dX0_addLead_85 : decode cX0_addLead 85 = .ok (.aaload, 1) := by decide +kernel
theorem dX0_addLead_86 : decode cX0_addLead 86 = .ok (.invokevirtual 48, 3) := by decide +kernel
theorem dX0_addLead_89 : decode cX0_addLead 89 = .ok (.iinc 2 1, 3) := by decide +kernel
theorem dX0_addLead_92 : decode cX0_addLead 92 = .ok (.goto (-25), 3) := by decide +kernel
theorem dX0_addLead_95 : decode cX0_addLead 95 = .ok (.aload_n 0, 1) := by decide +kernel
theorem dX0_addLead_96 : decode cX0_addLead 96 = .ok (.dup, 1) := by decide +kernel
theorem dX0_addLead_97 : decode cX0_addLead 97 = .ok (.getfield 27, 3) := by decide +kernel
theorem dX0_addLead_100 : decode cX0_addLead 100 = .ok (.iconst 1, 1) := by decide +kernel
theorem dX0_addLead_101 : decode cX0_addLead 101 = .ok (.iadd, 1) := by decide +kernel
theorem dX0_addLead_102 : decode cX0_addLead 102 = .ok (.putfield 27, 3) := by decide +kernel
theorem dX0_addLead_105 : decode cX0_addLead 105 = .ok (.return_, 1) := by decide +kernel
theorem dX0_reduce_0 : decode cX0_reduce 0 = .ok (.iconst 0, 1) := by decide +kernel
theorem dX0_reduce_1 : decode cX0_reduce 1 = .ok (.istore_n 2, 1) := by decide +kernel
theorem dX0_reduce_2 : decode cX0_reduce 2 = .ok (.iload_n 2, 1) := by decide +kernel
theorem dX0_reduce_3 : decode cX0_reduce 3 = .ok (.aload_n 0, 1) := by decide +kernel
theorem dX0_reduce_4 : decode cX0_reduce 4 = .ok (.getfield 27, 3) := by decide +kernel
theorem dX0_reduce_7 : decode cX0_reduce 7 = .ok (.if_icmp .ge 15, 3) := by decide +kernel
theorem dX0_reduce_10 : decode cX0_reduce 10 = .ok (.aload_n 0, 1) := by decide +kernel
theorem dX0_reduce_11 : decode cX0_reduce 11 = .ok (.iload_n 2, 1) := by decide +kernel
theorem dX0_reduce_12 : decode cX0_reduce 12 = .ok (.aload_n 1, 1) := by decide +kernel
theorem dX0_reduce_13 : decode cX0_reduce 13 = .ok (.invokevirtual 48, 3) := by decide +kernel
theorem dX0_reduce_16 : decode cX0_reduce 16 = .ok (.iinc 2 1, 3) := by decide +kernel
theorem dX0_reduce_19 : decode cX0_reduce 19 = .ok (.goto (-17), 3) := by decide +kernel
theorem dX0_reduce_22 : decode cX0_reduce 22 = .ok (.return_, 1) := by decide +kernel
theorem dX0_reduceBy_0 : decode cX0_reduceBy 0 = .ok (.aload_n 0, 1) := by decide +kernel
theorem dX0_reduceBy_1 : decode cX0_reduceBy 1 = .ok (.getfield 16, 3) := by decide +kernel
theorem dX0_reduceBy_4 : decode cX0_reduceBy 4 = .ok (.iload_n 1, 1) := by decide +kernel
theorem dX0_reduceBy_5 : decode cX0_reduceBy 5 = .ok (.iaload, 1) := by decide +kernel
theorem dX0_reduceBy_6 : decode cX0_reduceBy 6 = .ok (.istore_n 3, 1) := by decide +kernel
theorem dX0_reduceBy_7 : decode cX0_reduceBy 7 = .ok (.aload_n 0, 1) := by decide +kernel
theorem dX0_reduceBy_8 : decode cX0_reduceBy 8 = .ok (.getfield 11, 3) := by decide +kernel
theorem dX0_reduceBy_11 : decode cX0_reduceBy 11 = .ok (.iload_n 1, 1) := by decide +kernel
theorem dX0_reduceBy_12 : decode cX0_reduceBy 12 = .ok (.aaload, 1) := by decide +kernel
theorem dX0_reduceBy_13 : decode cX0_reduceBy 13 = .ok (.iload_n 3, 1) := by decide +kernel
theorem dX0_reduceBy_14 : decode cX0_reduceBy 14 = .ok (.laload, 1) := by decide +kernel
theorem dX0_reduceBy_15 : decode cX0_reduceBy 15 = .ok (.lconst 0, 1) := by decide +kernel
theorem dX0_reduceBy_16 : decode cX0_reduceBy 16 = .ok (.lcmp, 1) := by decide +kernel
theorem dX0_reduceBy_17 : decode cX0_reduceBy 17 = .ok (.ifCond .ne 4, 3) := by decide +kernel
theorem dX0_reduceBy_20 : decode cX0_reduceBy 20 = .ok (.return_, 1) := by decide +kernel
theorem dX0_reduceBy_21 : decode cX0_reduceBy 21 = .ok (.aload_n 2, 1) := by decide +kernel
theorem dX0_reduceBy_22 : decode cX0_reduceBy 22 = .ok (.iload_n 3, 1) := by decide +kernel
theorem dX0_reduceBy_23 : decode cX0_reduceBy 23 = .ok (.laload, 1) := by decide +kernel
theorem dX0_reduceBy_24 : decode cX0_reduceBy 24 = .ok (.aload_n 0, 1) := by decide +kernel
theorem dX0_reduceBy_25 : decode cX0_reduceBy 25 = .ok (.getfield 11, 3) := by decide +kernel
theorem dX0_reduceBy_28 : decode cX0_reduceBy 28 = .ok (.iload_n 1, 1) := by decide +kernel
theorem dX0_reduceBy_29 : decode cX0_reduceBy 29 = .ok (.aaload, 1) := by decide +kernel
theorem dX0_reduceBy_30 : decode cX0_reduceBy 30 = .ok (.iload_n 3, 1) := by decide +kernel
theorem dX0_reduceBy_31 : decode cX0_reduceBy 31 = .ok (.laload, 1) := by decide +kernel
theorem dX0_reduceBy_32 : decode cX0_reduceBy 32 = .ok (.invokestatic 42, 3) := by decide +kernel
theorem dX0_reduceBy_35 : decode cX0_reduceBy 35 = .ok (.lstore 4, 2) := by decide +kernel
theorem dX0_reduceBy_37 : decode cX0_reduceBy 37 = .ok (.iconst 0, 1) := by decide +kernel
theorem dX0_reduceBy_38 : decode cX0_reduceBy 38 = .ok (.istore 6, 2) := by decide +kernel
theorem dX0_reduceBy_40 : decode cX0_reduceBy 40 = .ok (.iload 6, 2) := by decide +kernel
theorem dX0_reduceBy_42 : decode cX0_reduceBy 42 = .ok (.aload_n 0, 1) := by decide +kernel
theorem dX0_reduceBy_43 : decode cX0_reduceBy 43 = .ok (.getfield 24, 3) := by decide +kernel
theorem dX0_reduceBy_46 : decode cX0_reduceBy 46 = .ok (.if_icmp .ge 28, 3) := by decide +kernel
theorem dX0_reduceBy_49 : decode cX0_reduceBy 49 = .ok (.aload_n 2, 1) := by decide +kernel
theorem dX0_reduceBy_50 : decode cX0_reduceBy 50 = .ok (.iload 6, 2) := by decide +kernel
theorem dX0_reduceBy_52 : decode cX0_reduceBy 52 = .ok (.dup2, 1) := by decide +kernel
theorem dX0_reduceBy_53 : decode cX0_reduceBy 53 = .ok (.laload, 1) := by decide +kernel
theorem dX0_reduceBy_54 : decode cX0_reduceBy 54 = .ok (.lload 4, 2) := by decide +kernel
theorem dX0_reduceBy_56 : decode cX0_reduceBy 56 = .ok (.aload_n 0, 1) := by decide +kernel
theorem dX0_reduceBy_57 : decode cX0_reduceBy 57 = .ok (.getfield 11, 3) := by decide +kernel
theorem dX0_reduceBy_60 : decode cX0_reduceBy 60 = .ok (.iload_n 1, 1) := by decide +kernel
theorem dX0_reduceBy_61 : decode cX0_reduceBy 61 = .ok (.aaload, 1) := by decide +kernel
theorem dX0_reduceBy_62 : decode cX0_reduceBy 62 = .ok (.iload 6, 2) := by decide +kernel
theorem dX0_reduceBy_64 : decode cX0_reduceBy 64 = .ok (.laload, 1) := by decide +kernel
theorem dX0_reduceBy_65 : decode cX0_reduceBy 65 = .ok (.lmul, 1) := by decide +kernel
theorem dX0_reduceBy_66 : decode cX0_reduceBy 66 = .ok (.lsub, 1) := by decide +kernel
theorem dX0_reduceBy_67 : decode cX0_reduceBy 67 = .ok (.lastore, 1) := by decide +kernel
theorem dX0_reduceBy_68 : decode cX0_reduceBy 68 = .ok (.iinc 6 1, 3) := by decide +kernel
theorem dX0_reduceBy_71 : decode cX0_reduceBy 71 = .ok (.goto (-31), 3) := by decide +kernel
theorem dX0_reduceBy_74 : decode cX0_reduceBy 74 = .ok (.return_, 1) := by decide +kernel
theorem dJ6_bitCount_0f7a4_0 : decode cJ6_bitCount_0f7a4 0 = .ok (.iload_n 0, 1) := by decide +kernel
theorem dJ6_bitCount_0f7a4_1 : decode cJ6_bitCount_0f7a4 1 = .ok (.iload_n 0, 1) := by decide +kernel
theorem dJ6_bitCount_0f7a4_2 : decode cJ6_bitCount_0f7a4 2 = .ok (.iconst 1, 1) := by decide +kernel
theorem dJ6_bitCount_0f7a4_3 : decode cJ6_bitCount_0f7a4 3 = .ok (.iushr, 1) := by decide +kernel
theorem dJ6_bitCount_0f7a4_4 : decode cJ6_bitCount_0f7a4 4 = .ok (.ldc_w 265, 3) := by decide +kernel
theorem dJ6_bitCount_0f7a4_7 : decode cJ6_bitCount_0f7a4 7 = .ok (.iand, 1) := by decide +kernel
theorem dJ6_bitCount_0f7a4_8 : decode cJ6_bitCount_0f7a4 8 = .ok (.isub, 1) := by decide +kernel
theorem dJ6_bitCount_0f7a4_9 : decode cJ6_bitCount_0f7a4 9 = .ok (.istore_n 0, 1) := by decide +kernel
theorem dJ6_bitCount_0f7a4_10 : decode cJ6_bitCount_0f7a4 10 = .ok (.iload_n 0, 1) := by decide +kernel
theorem dJ6_bitCount_0f7a4_11 : decode cJ6_bitCount_0f7a4 11 = .ok (.ldc_w 266, 3) := by decide +kernel
theorem dJ6_bitCount_0f7a4_14 : decode cJ6_bitCount_0f7a4 14 = .ok (.iand, 1) := by decide +kernel
theorem dJ6_bitCount_0f7a4_15 : decode cJ6_bitCount_0f7a4 15 = .ok (.iload_n 0, 1) := by decide +kernel
theorem dJ6_bitCount_0f7a4_16 : decode cJ6_bitCount_0f7a4 16 = .ok (.iconst 2, 1) := by decide +kernel
theorem dJ6_bitCount_0f7a4_17 : decode cJ6_bitCount_0f7a4 17 = .ok (.iushr, 1) := by decide +kernel
theorem dJ6_bitCount_0f7a4_18 : decode cJ6_bitCount_0f7a4 18 = .ok (.ldc_w 266, 3) := by decide +kernel
theorem dJ6_bitCount_0f7a4_21 : decode cJ6_bitCount_0f7a4 21 = .ok (.iand, 1) := by decide +kernel
theorem dJ6_bitCount_0f7a4_22 : decode cJ6_bitCount_0f7a4 22 = .ok (.iadd, 1) := by decide +kernel
theorem dJ6_bitCount_0f7a4_23 : decode cJ6_bitCount_0f7a4 23 = .ok (.istore_n 0, 1) := by decide +kernel
theorem dJ6_bitCount_0f7a4_24 : decode cJ6_bitCount_0f7a4 24 = .ok (.iload_n 0, 1) := by decide +kernel
theorem dJ6_bitCount_0f7a4_25 : decode cJ6_bitCount_0f7a4 25 = .ok (.iload_n 0, 1) := by decide +kernel
theorem dJ6_bitCount_0f7a4_26 : decode cJ6_bitCount_0f7a4 26 = .ok (.iconst 4, 1) := by decide +kernel
theorem dJ6_bitCount_0f7a4_27 : decode cJ6_bitCount_0f7a4 27 = .ok (.iushr, 1) := by decide +kernel
theorem dJ6_bitCount_0f7a4_28 : decode cJ6_bitCount_0f7a4 28 = .ok (.iadd, 1) := by decide +kernel
theorem dJ6_bitCount_0f7a4_29 : decode cJ6_bitCount_0f7a4 29 = .ok (.ldc_w 267, 3) := by decide +kernel
theorem dJ6_bitCount_0f7a4_32 : decode cJ6_bitCount_0f7a4 32 = .ok (.iand, 1) := by decide +kernel
theorem dJ6_bitCount_0f7a4_33 : decode cJ6_bitCount_0f7a4 33 = .ok (.istore_n 0, 1) := by decide +kernel
theorem dJ6_bitCount_0f7a4_34 : decode cJ6_bitCount_0f7a4 34 = .ok (.iload_n 0, 1) := by decide +kernel
theorem dJ6_bitCount_0f7a4_35 : decode cJ6_bitCount_0f7a4 35 = .ok (.iload_n 0, 1) := by decide +kernel
theorem dJ6_bitCount_0f7a4_36 : decode cJ6_bitCount_0f7a4 36 = .ok (.bipush 8, 2) := by decide +kernel
theorem dJ6_bitCount_0f7a4_38 : decode cJ6_bitCount_0f7a4 38 = .ok (.iushr, 1) := by decide +kernel
theorem dJ6_bitCount_0f7a4_39 : decode cJ6_bitCount_0f7a4 39 = .ok (.iadd, 1) := by decide +kernel
theorem dJ6_bitCount_0f7a4_40 : decode cJ6_bitCount_0f7a4 40 = .ok (.istore_n 0, 1) := by decide +kernel
theorem dJ6_bitCount_0f7a4_41 : decode cJ6_bitCount_0f7a4 41 = .ok (.iload_n 0, 1) := by decide +kernel
theorem dJ6_bitCount_0f7a4_42 : decode cJ6_bitCount_0f7a4 42 = .ok (.iload_n 0, 1) := by decide +kernel
theorem dJ6_bitCount_0f7a4_43 : decode cJ6_bitCount_0f7a4 43 = .ok (.bipush 16, 2) := by decide +kernel
theorem dJ6_bitCount_0f7a4_45 : decode cJ6_bitCount_0f7a4 45 = .ok (.iushr, 1) := by decide +kernel
theorem dJ6_bitCount_0f7a4_46 : decode cJ6_bitCount_0f7a4 46 = .ok (.iadd, 1) := by decide +kernel
theorem dJ6_bitCount_0f7a4_47 : decode cJ6_bitCount_0f7a4 47 = .ok (.istore_n 0, 1) := by decide +kernel
theorem dJ6_bitCount_0f7a4_48 : decode cJ6_bitCount_0f7a4 48 = .ok (.iload_n 0, 1) := by decide +kernel
theorem dJ6_bitCount_0f7a4_49 : decode cJ6_bitCount_0f7a4 49 = .ok (.bipush 63, 2) := by decide +kernel
theorem dJ6_bitCount_0f7a4_51 : decode cJ6_bitCount_0f7a4 51 = .ok (.iand, 1) := by decide +kernel
theorem dJ6_bitCount_0f7a4_52 : decode cJ6_bitCount_0f7a4 52 = .ok (.ireturn, 1) := by decide +kernel
theorem dJ9_floorDiv_f86c9_0 : decode cJ9_floorDiv_f86c9 0 = .ok (.lload_n 0, 1) := by decide +kernel
theorem dJ9_floorDiv_f86c9_1 : decode cJ9_floorDiv_f86c9 1 = .ok (.lload_n 2, 1) := by decide +kernel
theorem dJ9_floorDiv_f86c9_2 : decode cJ9_floorDiv_f86c9 2 = .ok (.ldiv, 1) := by decide +kernel
theorem dJ9_floorDiv_f86c9_3 : decode cJ9_floorDiv_f86c9 3 = .ok (.lstore 4, 2) := by decide +kernel
theorem dJ9_floorDiv_f86c9_5 : decode cJ9_floorDiv_f86c9 5 = .ok (.lload_n 0, 1) := by decide +kernel
theorem dJ9_floorDiv_f86c9_6 : decode cJ9_floorDiv_f86c9 6 = .ok (.lload_n 2, 1) := by decide +kernel
theorem dJ9_floorDiv_f86c9_7 : decode cJ9_floorDiv_f86c9 7 = .ok (.lxor, 1) := by decide +kernel
theorem dJ9_floorDiv_f86c9_8 : decode cJ9_floorDiv_f86c9 8 = .ok (.lconst 0, 1) := by decide +kernel
theorem dJ9_floorDiv_f86c9_9 : decode cJ9_floorDiv_f86c9 9 = .ok (.lcmp, 1) := by decide +kernel
theorem dJ9_floorDiv_f86c9_10 : decode cJ9_floorDiv_f86c9 10 = .ok (.ifCond .ge 17, 3) := by decide +kernel
theorem dJ9_floorDiv_f86c9_13 : decode cJ9_floorDiv_f86c9 13 = .ok (.lload 4, 2) := by decide +kernel
theorem dJ9_floorDiv_f86c9_15 : decode cJ9_floorDiv_f86c9 15 = .ok (.lload_n 2, 1) := by decide +kernel
theorem dJ9_floorDiv_f86c9_16 : decode cJ9_floorDiv_f86c9 16 = .ok (.lmul, 1) := by decide +kernel
theorem dJ9_floorDiv_f86c9_17 : decode cJ9_floorDiv_f86c9 17 = .ok (.lload_n 0, 1) := by decide +kernel
theorem dJ9_floorDiv_f86c9_18 : decode cJ9_floorDiv_f86c9 18 = .ok (.lcmp, 1) := by decide +kernel
theorem dJ9_floorDiv_f86c9_19 : decode cJ9_floorDiv_f86c9 19 = .ok (.ifCond .eq 8, 3) := by decide +kernel
theorem dJ9_floorDiv_f86c9_22 : decode cJ9_floorDiv_f86c9 22 = .ok (.lload 4, 2) := by decide +kernel
theorem dJ9_floorDiv_f86c9_24 : decode cJ9_floorDiv_f86c9 24 = .ok (.lconst 1, 1) := by decide +kernel
theorem dJ9_floorDiv_f86c9_25 : decode cJ9_floorDiv_f86c9 25 = .ok (.lsub, 1) := by decide +kernel
theorem dJ9_floorDiv_f86c9_26 : decode cJ9_floorDiv_f86c9 26 = .ok (.lreturn, 1) := by decide +kernel
theorem dJ9_floorDiv_f86c9_27 : decode cJ9_floorDiv_f86c9 27 = .ok (.lload 4, 2) := by decide +kernel
theorem dJ9_floorDiv_f86c9_29 : decode cJ9_floorDiv_f86c9 29 = .ok (.lreturn, 1) := by decide +kernel
theorem dJ9_abs_067f4_0 : decode cJ9_abs_067f4 0 = .ok (.lload_n 0, 1) := by decide +kernel
theorem dJ9_abs_067f4_1 : decode cJ9_abs_067f4 1 = .ok (.lconst 0, 1) := by decide +kernel
theorem dJ9_abs_067f4_2 : decode cJ9_abs_067f4 2 = .ok (.lcmp, 1) := by decide +kernel
theorem dJ9_abs_067f4_3 : decode cJ9_abs_067f4 3 = .ok (.ifCond .ge 8, 3) := by decide +kernel
theorem dJ9_abs_067f4_6 : decode cJ9_abs_067f4 6 = .ok (.lload_n 0, 1) := by decide +kernel
theorem dJ9_abs_067f4_7 : decode cJ9_abs_067f4 7 = .ok (.lneg, 1) := by decide +kernel
theorem dJ9_abs_067f4_8 : decode cJ9_abs_067f4 8 = .ok (.goto 4, 3) := by decide +kernel
theorem dJ9_abs_067f4_11 : decode cJ9_abs_067f4 11 = .ok (.lload_n 0, 1) := by decide +kernel
theorem dJ9_abs_067f4_12 : decode cJ9_abs_067f4 12 = .ok (.lreturn, 1) := by decide +kernel
theorem dJ9_max_f86c9_0 : decode cJ9_max_f86c9 0 = .ok (.lload_n 0, 1) := by decide +kernel
theorem dJ9_max_f86c9_1 : decode cJ9_max_f86c9 1 = .ok (.lload_n 2, 1) := by decide +kernel
theorem dJ9_max_f86c9_2 : decode cJ9_max_f86c9 2 = .ok (.lcmp, 1) := by decide +kernel
theorem dJ9_max_f86c9_3 : decode cJ9_max_f86c9 3 = .ok (.ifCond .lt 7, 3) := by decide +kernel
theorem dJ9_max_f86c9_6 : decode cJ9_max_f86c9 6 = .ok (.lload_n 0, 1) := by decide +kernel
theorem dJ9_max_f86c9_7 : decode cJ9_max_f86c9 7 = .ok (.goto 4, 3) := by decide +kernel
theorem dJ9_max_f86c9_10 : decode cJ9_max_f86c9 10 = .ok (.lload_n 2, 1) := by decide +kernel
theorem dJ9_max_f86c9_11 : decode cJ9_max_f86c9 11 = .ok (.lreturn, 1) := by decide +kernel
theorem dJ9_min_f86c9_0 : decode cJ9_min_f86c9 0 = .ok (.lload_n 0, 1) := by decide +kernel
theorem dJ9_min_f86c9_1 : decode cJ9_min_f86c9 1 = .ok (.lload_n 2, 1) := by decide +kernel
theorem dJ9_min_f86c9_2 : decode cJ9_min_f86c9 2 = .ok (.lcmp, 1) := by decide +kernel
theorem dJ9_min_f86c9_3 : decode cJ9_min_f86c9 3 = .ok (.ifCond .gt 7, 3) := by decide +kernel
theorem dJ9_min_f86c9_6 : decode cJ9_min_f86c9 6 = .ok (.lload_n 0, 1) := by decide +kernel
theorem dJ9_min_f86c9_7 : decode cJ9_min_f86c9 7 = .ok (.goto 4, 3) := by decide +kernel
theorem dJ9_min_f86c9_10 : decode cJ9_min_f86c9 10 = .ok (.lload_n 2, 1) := by decide +kernel
theorem dJ9_min_f86c9_11 : decode cJ9_min_f86c9 11 = .ok (.lreturn, 1) := by decide +kernel
