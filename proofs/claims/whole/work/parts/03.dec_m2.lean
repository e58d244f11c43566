theorem dX9_farName_17 : decode cX9_farName 17 = .ok (.aload_n 0, 1) := by decide +kernel
theorem dX9_farName_18 : decode cX9_farName 18 = .ok (.invokevirtual 337, 3) := by decide +kernel
theorem dX9_farName_21 : decode cX9_farName 21 = .ok (.ifCond .ne 8, 3) := by decide +kernel
theorem dX9_farName_24 : decode cX9_farName 24 = .ok (.aload_n 0, 1) := by decide +kernel
theorem dX9_farName_25 : decode cX9_farName 25 = .ok (.iconst 1, 1) := by decide +kernel
theorem dX9_farName_26 : decode cX9_farName 26 = .ok (.invokevirtual 287, 3) := by decide +kernel
theorem dX9_farName_29 : decode cX9_farName 29 = .ok (.aload_n 0, 1) := by decide +kernel
theorem dX9_farName_30 : decode cX9_farName 30 = .ok (.dup, 1) := by decide +kernel
theorem dX9_farName_31 : decode cX9_farName 31 = .ok (.getfield 278, 3) := by decide +kernel
theorem dX9_farName_34 : decode cX9_farName 34 = .ok (.iconst 1, 1) := by decide +kernel
theorem dX9_farName_35 : decode cX9_farName 35 = .ok (.iadd, 1) := by decide +kernel
theorem dX9_farName_36 : decode cX9_farName 36 = .ok (.putfield 278, 3) := by decide +kernel
theorem dX9_farName_39 : decode cX9_farName 39 = .ok (.return_, 1) := by decide +kernel
theorem dX9_nearName_0 : decode cX9_nearName 0 = .ok (.aload_n 0, 1) := by decide +kernel
theorem dX9_nearName_1 : decode cX9_nearName 1 = .ok (.getfield 370, 3) := by decide +kernel
theorem dX9_nearName_4 : decode cX9_nearName 4 = .ok (.ifCond .lt 27, 3) := by decide +kernel
theorem dX9_nearName_7 : decode cX9_nearName 7 = .ok (.aload_n 0, 1) := by decide +kernel
theorem dX9_nearName_8 : decode cX9_nearName 8 = .ok (.aload_n 0, 1) := by decide +kernel
theorem dX9_nearName_9 : decode cX9_nearName 9 = .ok (.getfield 370, 3) := by decide +kernel
theorem dX9_nearName_12 : decode cX9_nearName 12 = .ok (.aload_n 0, 1) := by decide +kernel
theorem dX9_nearName_13 : decode cX9_nearName 13 = .ok (.getfield 30, 3) := by decide +kernel
theorem dX9_nearName_16 : decode cX9_nearName 16 = .ok (.aload_n 0, 1) := by decide +kernel
theorem dX9_nearName_17 : decode cX9_nearName 17 = .ok (.getfield 278, 3) := by decide +kernel
theorem dX9_nearName_20 : decode cX9_nearName 20 = .ok (.laload, 1) := by decide +kernel
theorem dX9_nearName_21 : decode cX9_nearName 21 = .ok (.invokevirtual 402, 3) := by decide +kernel
theorem dX9_nearName_24 : decode cX9_nearName 24 = .ok (.ifCond .eq 7, 3) := by decide +kernel
theorem dX9_nearName_27 : decode cX9_nearName 27 = .ok (.iconst 1, 1) := by decide +kernel
theorem dX9_nearName_28 : decode cX9_nearName 28 = .ok (.goto 4, 3) := by decide +kernel
theorem dX9_nearName_31 : decode cX9_nearName 31 = .ok (.iconst 0, 1) := by decide +kernel
theorem dX9_nearName_32 : decode cX9_nearName 32 = .ok (.istore_n 2, 1) := by decide +kernel
theorem dX9_nearName_33 : decode cX9_nearName 33 = .ok (.iload_n 2, 1) := by decide +kernel
theorem dX9_nearName_34 : decode cX9_nearName 34 = .ok (.ifCond .ne 11, 3) := by decide +kernel
theorem dX9_nearName_37 : decode cX9_nearName 37 = .ok (.aload_n 0, 1) := by decide +kernel
theorem dX9_nearName_38 : decode cX9_nearName 38 = .ok (.iconst 2, 1) := by decide +kernel
theorem dX9_nearName_39 : decode cX9_nearName 39 = .ok (.invokevirtual 287, 3) := by decide +kernel
theorem dX9_nearName_42 : decode cX9_nearName 42 = .ok (.goto 67, 3) := by decide +kernel
theorem dX9_nearName_45 : decode cX9_nearName 45 = .ok (.aload_n 0, 1) := by decide +kernel
theorem dX9_nearName_46 : decode cX9_nearName 46 = .ok (.getfield 107, 3) := by decide +kernel
theorem dX9_nearName_49 : decode cX9_nearName 49 = .ok (.bipush 24, 2) := by decide +kernel
theorem dX9_nearName_51 : decode cX9_nearName 51 = .ok (.bipush 24, 2) := by decide +kernel
theorem dX9_nearName_53 : decode cX9_nearName 53 = .ok (.aload_n 0, 1) := by decide +kernel
theorem dX9_nearName_54 : decode cX9_nearName 54 = .ok (.getfield 297, 3) := by decide +kernel
theorem dX9_nearName_57 : decode cX9_nearName 57 = .ok (.imul, 1) := by decide +kernel
theorem dX9_nearName_58 : decode cX9_nearName 58 = .ok (.aload_n 0, 1) := by decide +kernel
theorem dX9_nearName_59 : decode cX9_nearName 59 = .ok (.getfield 370, 3) := by decide +kernel
theorem dX9_nearName_62 : decode cX9_nearName 62 = .ok (.iadd, 1) := by decide +kernel
theorem dX9_nearName_63 : decode cX9_nearName 63 = .ok (.imul, 1) := by decide +kernel
theorem dX9_nearName_64 : decode cX9_nearName 64 = .ok (.aload_n 0, 1) := by decide +kernel
theorem dX9_nearName_65 : decode cX9_nearName 65 = .ok (.getfield 396, 3) := by decide +kernel
theorem dX9_nearName_68 : decode cX9_nearName 68 = .ok (.iadd, 1) := by decide +kernel
theorem dX9_nearName_69 : decode cX9_nearName 69 = .ok (.iconst 1, 1) := by decide +kernel
theorem dX9_nearName_70 : decode cX9_nearName 70 = .ok (.bastore, 1) := by decide +kernel
theorem dX9_nearName_71 : decode cX9_nearName 71 = .ok (.iload_n 1, 1) := by decide +kernel
theorem dX9_nearName_72 : decode cX9_nearName 72 = .ok (.ifCond .eq 37, 3) := by decide +kernel
theorem dX9_nearName_75 : decode cX9_nearName 75 = .ok (.aload_n 0, 1) := by decide +kernel
theorem dX9_nearName_76 : decode cX9_nearName 76 = .ok (.getfield 86, 3) := by decide +kernel
theorem dX9_nearName_79 : decode cX9_nearName 79 = .ok (.bipush 8, 2) := by decide +kernel
theorem dX9_nearName_81 : decode cX9_nearName 81 = .ok (.bipush 24, 2) := by decide +kernel
theorem dX9_nearName_83 : decode cX9_nearName 83 = .ok (.aload_n 0, 1) := by decide +kernel
theorem dX9_nearName_84 : decode cX9_nearName 84 = .ok (.getfield 297, 3) := by decide +kernel
theorem dX9_nearName_87 : decode cX9_nearName 87 = .ok (.imul, 1) := by decide +kernel
theorem dX9_nearName_88 : decode cX9_nearName 88 = .ok (.aload_n 0, 1) := by decide +kernel
theorem dX9_nearName_89 : decode cX9_nearName 89 = .ok (.getfield 396, 3) := by decide +kernel
theorem dX9_nearName_92 : decode cX9_nearName 92 = .ok (.iadd, 1) := by decide +kernel
theorem dX9_nearName_93 : decode cX9_nearName 93 = .ok (.imul, 1) := by decide +kernel
theorem dX9_nearName_94 : decode cX9_nearName 94 = .ok (.aload_n 0, 1) := by decide +kernel
theorem dX9_nearName_95 : decode cX9_nearName 95 = .ok (.getfield 399, 3) := by decide +kernel
theorem dX9_nearName_98 : decode cX9_nearName 98 = .ok (.iadd, 1) := by decide +kernel
theorem dX9_nearName_99 : decode cX9_nearName 99 = .ok (.baload, 1) := by decide +kernel
theorem dX9_nearName_100 : decode cX9_nearName 100 = .ok (.ifCond .eq 9, 3) := by decide +kernel
theorem dX9_nearName_103 : decode cX9_nearName 103 = .ok (.aload_n 0, 1) := by decide +kernel
theorem dX9_nearName_104 : decode cX9_nearName 104 = .ok (.bipush 6, 2) := by decide +kernel
theorem dX9_nearName_106 : decode cX9_nearName 106 = .ok (.invokevirtual 287, 3) := by decide +kernel
theorem dX9_nearName_109 : decode cX9_nearName 109 = .ok (.aload_n 0, 1) := by decide +kernel
theorem dX9_nearName_110 : decode cX9_nearName 110 = .ok (.dup, 1) := by decide +kernel
theorem dX9_nearName_111 : decode cX9_nearName 111 = .ok (.getfield 278, 3) := by decide +kernel
theorem dX9_nearName_114 : decode cX9_nearName 114 = .ok (.iconst 1, 1) := by decide +kernel
theorem dX9_nearName_115 : decode cX9_nearName 115 = .ok (.iadd, 1) := by decide +kernel
theorem dX9_nearName_116 : decode cX9_nearName 116 = .ok (.putfield 278, 3) := by decide +kernel
theorem dX9_nearName_119 : decode cX9_nearName 119 = .ok (.return_, 1) := by decide +kernel
theorem dX9_expression_0 : decode cX9_expression 0 = .ok (.aload_n 0, 1) := by decide +kernel
theorem dX9_expression_1 : decode cX9_expression 1 = .ok (.invokevirtual 445, 3) := by decide +kernel
theorem dX9_expression_4 : decode cX9_expression 4 = .ok (.aload_n 0, 1) := by decide +kernel
theorem dX9_expression_5 : decode cX9_expression 5 = .ok (.bipush 60, 2) := by decide +kernel
theorem dX9_expression_7 : decode cX9_expression 7 = .ok (.invokevirtual 284, 3) := by decide +kernel
theorem dX9_expression_10 : decode cX9_expression 10 = .ok (.istore_n 1, 1) := by decide +kernel
theorem dX9_expression_11 : decode cX9_expression 11 = .ok (.iload_n 1, 1) := by decide +kernel
theorem dX9_expression_12 : decode cX9_expression 12 = .ok (.ifCond .ne 12, 3) := by decide +kernel
theorem dX9_expression_15 : decode cX9_expression 15 = .ok (.aload_n 0, 1) := by decide +kernel
theorem dX9_expression_16 : decode cX9_expression 16 = .ok (.bipush 61, 2) := by decide +kernel
theorem dX9_expression_18 : decode cX9_expression 18 = .ok (.invokevirtual 284, 3) := by decide +kernel
theorem dX9_expression_21 : decode cX9_expression 21 = .ok (.ifCond .eq 35, 3) := by decide +kernel
theorem dX9_expression_24 : decode cX9_expression 24 = .ok (.aload_n 0, 1) := by decide +kernel
theorem dX9_expression_25 : decode cX9_expression 25 = .ok (.dup, 1) := by decide +kernel
theorem dX9_expression_26 : decode cX9_expression 26 = .ok (.getfield 278, 3) := by decide +kernel
theorem dX9_expression_29 : decode cX9_expression 29 = .ok (.iconst 1, 1) := by decide +kernel
theorem dX9_expression_30 : decode cX9_expression 30 = .ok (.iadd, 1) := by decide +kernel
theorem dX9_expression_31 : decode cX9_expression 31 = .ok (.putfield 278, 3) := by decide +kernel
theorem dX9_expression_34 : decode cX9_expression 34 = .ok (.aload_n 0, 1) := by decide +kernel
theorem dX9_expression_35 : decode cX9_expression 35 = .ok (.invokevirtual 445, 3) := by decide +kernel
theorem dX9_expression_38 : decode cX9_expression 38 = .ok (.aload_n 0, 1) := by decide +kernel
theorem dX9_expression_39 : decode cX9_expression 39 = .ok (.iload_n 1, 1) := by decide +kernel
theorem dX9_expression_40 : decode cX9_expression 40 = .ok (.ifCond .eq 8, 3) := by decide +kernel
theorem dX9_expression_43 : decode cX9_expression 43 = .ok (.bipush 23, 2) := by decide +kernel
theorem dX9_expression_45 : decode cX9_expression 45 = .ok (.goto 5, 3) := by decide +kernel
theorem dX9_expression_48 : decode cX9_expression 48 = .ok (.bipush 24, 2) := by decide +kernel
theorem dX9_expression_50 : decode cX9_expression 50 = .ok (.iconst 0, 1) := by decide +kernel
theorem dX9_expression_51 : decode cX9_expression 51 = .ok (.iconst 0, 1) := by decide +kernel
theorem dX9_expression_52 : decode cX9_expression 52 = .ok (.invokevirtual 379, 3) := by decide +kernel
theorem dX9_expression_55 : decode cX9_expression 55 = .ok (.istore_n 2, 1) := by decide +kernel
theorem dX9_expression_56 : decode cX9_expression 56 = .ok (.return_, 1) := by decide +kernel
theorem dX9_sum_0 : decode cX9_sum 0 = .ok (.aload_n 0, 1) := by decide +kernel
theorem dX9_sum_1 : decode cX9_sum 1 = .ok (.invokevirtual 448, 3) := by decide +kernel
theorem dX9_sum_4 : decode cX9_sum 4 = .ok (.aload_n 0, 1) := by decide +kernel
theorem dX9_sum_5 : decode cX9_sum 5 = .ok (.bipush 43, 2) := by decide +kernel
theorem dX9_sum_7 : decode cX9_sum 7 = .ok (.invokevirtual 284, 3) := by decide +kernel
theorem dX9_sum_10 : decode cX9_sum 10 = .ok (.ifCond .ne 12, 3) := by decide +kernel
theorem dX9_sum_13 : decode cX9_sum 13 = .ok (.aload_n 0, 1) := by decide +kernel
theorem dX9_sum_14 : decode cX9_sum 14 = .ok (.bipush 45, 2) := by decide +kernel
theorem dX9_sum_16 : decode cX9_sum 16 = .ok (.invokevirtual 284, 3) := by decide +kernel
theorem dX9_sum_19 : decode cX9_sum 19 = .ok (.ifCond .eq 45, 3) := by decide +kernel
theorem dX9_sum_22 : decode cX9_sum 22 = .ok (.aload_n 0, 1) := by decide +kernel
theorem dX9_sum_23 : decode cX9_sum 23 = .ok (.bipush 43, 2) := by decide +kernel
theorem dX9_sum_25 : decode cX9_sum 25 = .ok (.invokevirtual 284, 3) := by decide +kernel
theorem dX9_sum_28 : decode cX9_sum 28 = .ok (.ifCond .eq 8, 3) := by decide +kernel
theorem dX9_sum_31 : decode cX9_sum 31 = .ok (.bipush 21, 2) := by decide +kernel
theorem dX9_sum_33 : decode cX9_sum 33 = .ok (.goto 5, 3) := by decide +kernel
theorem dX9_sum_36 : decode cX9_sum 36 = .ok (.bipush 22, 2) := by decide +kernel
theorem dX9_sum_38 : decode cX9_sum 38 = .ok (.istore_n 1, 1) := by decide +kernel
theorem dX9_sum_39 : decode cX9_sum 39 = .ok (.aload_n 0, 1) := by decide +kernel
theorem dX9_sum_40 : decode cX9_sum 40 = .ok (.dup, 1) := by decide +kernel
theorem dX9_sum_41 : decode cX9_sum 41 = .ok (.getfield 278, 3) := by decide +kernel
theorem dX9_sum_44 : decode cX9_sum 44 = .ok (.iconst 1, 1) := by decide +kernel
theorem dX9_sum_45 : decode cX9_sum 45 = .ok (.iadd, 1) := by decide +kernel
theorem dX9_sum_46 : decode cX9_sum 46 = .ok (.putfield 278, 3) := by decide +kernel
theorem dX9_sum_49 : decode cX9_sum 49 = .ok (.aload_n 0, 1) := by decide +kernel
theorem dX9_sum_50 : decode cX9_sum 50 = .ok (.invokevirtual 448, 3) := by decide +kernel
theorem dX9_sum_53 : decode cX9_sum 53 = .ok (.aload_n 0, 1) := by decide +kernel
theorem dX9_sum_54 : decode cX9_sum 54 = .ok (.iload_n 1, 1) := by decide +kernel
theorem dX9_sum_55 : decode cX9_sum 55 = .ok (.iconst 0, 1) := by decide +kernel
theorem dX9_sum_56 : decode cX9_sum 56 = .ok (.iconst 0, 1) := by decide +kernel
theorem dX9_sum_57 : decode cX9_sum 57 = .ok (.invokevirtual 379, 3) := by decide +kernel
theorem dX9_sum_60 : decode cX9_sum 60 = .ok (.istore_n 2, 1) := by decide +kernel
theorem dX9_sum_61 : decode cX9_sum 61 = .ok (.goto (-57), 3) := by decide +kernel
theorem dX9_sum_64 : decode cX9_sum 64 = .ok (.return_, 1) := by decide +kernel
theorem dX9_product_0 : decode cX9_product 0 = .ok (.aload_n 0, 1) := by decide +kernel
theorem dX9_product_1 : decode cX9_product 1 = .ok (.invokevirtual 451, 3) := by decide +kernel
theorem dX9_product_4 : decode cX9_product 4 = .ok (.aload_n 0, 1) := by decide +kernel
theorem dX9_product_5 : decode cX9_product 5 = .ok (.bipush 42, 2) := by decide +kernel
theorem dX9_product_7 : decode cX9_product 7 = .ok (.invokevirtual 284, 3) := by decide +kernel
theorem dX9_product_10 : decode cX9_product 10 = .ok (.ifCond .ne 21, 3) := by decide +kernel
theorem dX9_product_13 : decode cX9_product 13 = .ok (.aload_n 0, 1) := by decide +kernel
theorem dX9_product_14 : decode cX9_product 14 = .ok (.bipush 47, 2) := by decide +kernel
theorem dX9_product_16 : decode cX9_product 16 = .ok (.invokevirtual 284, 3) := by decide +kernel
theorem dX9_product_19 : decode cX9_product 19 = .ok (.ifCond .ne 12, 3) := by decide +kernel
theorem dX9_product_22 : decode cX9_product 22 = .ok (.aload_n 0, 1) := by decide +kernel
theorem dX9_product_23 : decode cX9_product 23 = .ok (.bipush 37, 2) := by decide +kernel
theorem dX9_product_25 : decode cX9_product 25 = .ok (.invokevirtual 284, 3) := by decide +kernel
theorem dX9_product_28 : decode cX9_product 28 = .ok (.ifCond .eq 59, 3) := by decide +kernel
theorem dX9_product_31 : decode cX9_product 31 = .ok (.aload_n 0, 1) := by decide +kernel
theorem dX9_product_32 : decode cX9_product 32 = .ok (.bipush 42, 2) := by decide +kernel
theorem dX9_product_34 : decode cX9_product 34 = .ok (.invokevirtual 284, 3) := by decide +kernel
theorem dX9_product_37 : decode cX9_product 37 = .ok (.ifCond .eq 8, 3) := by decide +kernel
theorem dX9_product_40 : decode cX9_product 40 = .ok (.bipush 18, 2) := by decide +kernel
theorem dX9_product_42 : decode cX9_product 42 = .ok (.goto 19, 3) := by decide +kernel
theorem dX9_product_45 : decode cX9_product 45 = .ok (.aload_n 0, 1) := by decide +kernel
theorem dX9_product_46 : decode cX9_product 46 = .ok (.bipush 47, 2) := by decide +kernel
theorem dX9_product_48 : decode cX9_product 48 = .ok (.invokevirtual 284, 3) := by decide +kernel
theorem dX9_product_51 : decode cX9_product 51 = .ok (.ifCond .eq 8, 3) := by decide +kernel
theorem dX9_product_54 : decode cX9_product 54 = .ok (.bipush 19, 2) := by decide +kernel
theorem dX9_product_56 : decode cX9_product 56 = .ok (.goto 5, 3) := by decide +kernel
theorem dX9_product_59 : decode cX9_product 59 = .ok (.bipush 20, 2) := by decide +kernel
theorem dX9_product_61 : decode cX9_product 61 = .ok (.istore_n 1, 1) := by decide +kernel
theorem dX9_product_62 : decode cX9_product 62 = .ok (.aload_n 0, 1) := by decide +kernel
theorem dX9_product_63 : decode cX9_product 63 = .ok (.dup, 1) := by decide +kernel
theorem dX9_product_64 : decode cX9_product 64 = .ok (.getfield 278, 3) := by decide +kernel
theorem dX9_product_67 : decode cX9_product 67 = .ok (.iconst 1, 1) := by decide +kernel
theorem dX9_product_68 : decode cX9_product 68 = .ok (.iadd, 1) := by decide +kernel
theorem dX9_product_69 : decode cX9_product 69 = .ok (.putfield 278, 3) := by decide +kernel
theorem dX9_product_72 : decode cX9_product 72 = .ok (.aload_n 0, 1) := by decide +kernel
theorem dX9_product_73 : decode cX9_product 73 = .ok (.invokevirtual 451, 3) := by decide +kernel
theorem dX9_product_76 : decode cX9_product 76 = .ok (.aload_n 0, 1) := by decide +kernel
theorem dX9_product_77 : decode cX9_product 77 = .ok (.iload_n 1, 1) := by decide +kernel
theorem dX9_product_78 : decode cX9_product 78 = .ok (.iconst 0, 1) := by decide +kernel
theorem dX9_product_79 : decode cX9_product 79 = .ok (.iconst 0, 1) := by decide +kernel
theorem dX9_product_80 : decode cX9_product 80 = .ok (.invokevirtual 379, 3) := by decide +kernel
theorem dX9_product_83 : decode cX9_product 83 = .ok (.istore_n 2, 1) := by decide +kernel
theorem dX9_product_84 : decode cX9_product 84 = .ok (.goto (-80), 3) := by decide +kernel
theorem dX9_product_87 : decode cX9_product 87 = .ok (.return_, 1) := by decide +kernel
theorem dX9_part_0 : decode cX9_part 0 = .ok (.aload_n 0, 1) := by decide +kernel
theorem dX9_part_1 : decode cX9_part 1 = .ok (.invokevirtual 337, 3) := by decide +kernel
theorem dX9_part_4 : decode cX9_part 4 = .ok (.ifCond .eq 42, 3) := by decide +kernel
theorem dX9_part_7 : decode cX9_part 7 = .ok (.aload_n 0, 1) := by decide +kernel
theorem dX9_part_8 : decode cX9_part 8 = .ok (.invokevirtual 436, 3) := by decide +kernel
theorem dX9_part_11 : decode cX9_part 11 = .ok (.ifCond .ne 35, 3) := by decide +kernel
theorem dX9_part_14 : decode cX9_part 14 = .ok (.aload_n 0, 1) := by decide +kernel
theorem dX9_part_15 : decode cX9_part 15 = .ok (.getfield 370, 3) := by decide +kernel
theorem dX9_part_18 : decode cX9_part 18 = .ok (.ifCond .lt 23, 3) := by decide +kernel
theorem dX9_part_21 : decode cX9_part 21 = .ok (.aload_n 0, 1) := by decide +kernel
theorem dX9_part_22 : decode cX9_part 22 = .ok (.aload_n 0, 1) := by decide +kernel
theorem dX9_part_23 : decode cX9_part 23 = .ok (.getfield 370, 3) := by decide +kernel
theorem dX9_part_26 : decode cX9_part 26 = .ok (.aload_n 0, 1) := by decide +kernel
theorem dX9_part_27 : decode cX9_part 27 = .ok (.getfield 30, 3) := by decide +kernel
theorem dX9_part_30 : decode cX9_part 30 = .ok (.aload_n 0, 1) := by decide +kernel
theorem dX9_part_31 : decode cX9_part 31 = .ok (.getfield 278, 3) := by decide +kernel
theorem dX9_part_34 : decode cX9_part 34 = .ok (.laload, 1) := by decide +kernel
theorem dX9_part_35 : decode cX9_part 35 = .ok (.invokevirtual 402, 3) := by decide +kernel
theorem dX9_part_38 : decode cX9_part 38 = .ok (.ifCond .ne 8, 3) := by decide +kernel
theorem dX9_part_41 : decode cX9_part 41 = .ok (.aload_n 0, 1) := by decide +kernel
theorem dX9_part_42 : decode cX9_part 42 = .ok (.iconst 2, 1) := by decide +kernel
theorem dX9_part_43 : decode cX9_part 43 = .ok (.invokevirtual 287, 3) := by decide +kernel
theorem dX9_part_46 : decode cX9_part 46 = .ok (.aload_n 0, 1) := by decide +kernel
theorem dX9_part_47 : decode cX9_part 47 = .ok (.aload_n 0, 1) := by decide +kernel
theorem dX9_part_48 : decode cX9_part 48 = .ok (.getfield 281, 3) := by decide +kernel
theorem dX9_part_51 : decode cX9_part 51 = .ok (.ifCond .ne 72, 3) := by decide +kernel
theorem dX9_part_54 : decode cX9_part 54 = .ok (.aload_n 0, 1) := by decide +kernel
theorem dX9_part_55 : decode cX9_part 55 = .ok (.getfield 24, 3) := by decide +kernel
theorem dX9_part_58 : decode cX9_part 58 = .ok (.aload_n 0, 1) := by decide +kernel
theorem dX9_part_59 : decode cX9_part 59 = .ok (.getfield 278, 3) := by decide +kernel
theorem dX9_part_62 : decode cX9_part 62 = .ok (.iaload, 1) := by decide +kernel
theorem dX9_part_63 : decode cX9_part 63 = .ok (.iconst 2, 1) := by decide +kernel
theorem dX9_part_64 : decode cX9_part 64 = .ok (.if_icmp .eq 55, 3) := by decide +kernel
theorem dX9_part_67 : decode cX9_part 67 = .ok (.aload_n 0, 1) := by decide +kernel
theorem dX9_part_68 : decode cX9_part 68 = .ok (.bipush 40, 2) := by decide +kernel
theorem dX9_part_70 : decode cX9_part 70 = .ok (.invokevirtual 284, 3) := by decide +kernel
theorem dX9_part_73 : decode cX9_part 73 = .ok (.ifCond .ne 46, 3) := by decide +kernel
theorem dX9_part_76 : decode cX9_part 76 = .ok (.aload_n 0, 1) := by decide +kernel
theorem dX9_part_77 : decode cX9_part 77 = .ok (.bipush 45, 2) := by decide +kernel
theorem dX9_part_79 : decode cX9_part 79 = .ok (.invokevirtual 284, 3) := by decide +kernel
theorem dX9_part_82 : decode cX9_part 82 = .ok (.ifCond .ne 37, 3) := by decide +kernel
theorem dX9_part_85 : decode cX9_part 85 = .ok (.aload_n 0, 1) := by decide +kernel
theorem dX9_part_86 : decode cX9_part 86 = .ok (.bipush 22, 2) := by decide +kernel
theorem dX9_part_88 : decode cX9_part 88 = .ok (.invokevirtual 291, 3) := by decide +kernel
theorem dX9_part_91 : decode cX9_part 91 = .ok (.ifCond .ne 28, 3) := by decide +kernel
theorem dX9_part_94 : decode cX9_part 94 = .ok (.aload_n 0, 1) := by decide +kernel
theorem dX9_part_95 : decode cX9_part 95 = .ok (.bipush 23, 2) := by decide +kernel
theorem dX9_part_97 : decode cX9_part 97 = .ok (.invokevirtual 291, 3) := by decide +kernel
theorem dX9_part_100 : decode cX9_part 100 = .ok (.ifCond .ne 19, 3) := by decide +kernel
theorem dX9_part_103 : decode cX9_part 103 = .ok (.aload_n 0, 1) := by decide +kernel
theorem dX9_part_104 : decode cX9_part 104 = .ok (.bipush 24, 2) := by decide +kernel
theorem dX9_part_106 : decode cX9_part 106 = .ok (.invokevirtual 291, 3) := by decide +kernel
theorem dX9_part_109 : decode cX9_part 109 = .ok (.ifCond .ne 10, 3) := by decide +kernel
theorem dX9_part_112 : decode cX9_part 112 = .ok (.aload_n 0, 1) := by decide +kernel
theorem dX9_part_113 : decode cX9_part 113 = .ok (.invokevirtual 337, 3) := by decide +kernel
theorem dX9_part_116 : decode cX9_part 116 = .ok (.ifCond .eq 7, 3) := by decide +kernel
theorem dX9_part_119 : decode cX9_part 119 = .ok (.iconst 1, 1) := by decide +kernel
theorem dX9_part_120 : decode cX9_part 120 = .ok (.goto 4, 3) := by decide +kernel
theorem dX9_part_123 : decode cX9_part 123 = .ok (.iconst 0, 1) := by decide +kernel
theorem dX9_part_124 : decode cX9_part 124 = .ok (.invokevirtual 408, 3) := by decide +kernel
theorem dX9_part_127 : decode cX9_part 127 = .ok (.aload_n 0, 1) := by decide +kernel
theorem dX9_part_128 : decode cX9_part 128 = .ok (.getfield 281, 3) := by decide +kernel
theorem dX9_part_131 : decode cX9_part 131 = .ok (.ifCond .ne 15, 3) := by decide +kernel
theorem dX9_part_134 : decode cX9_part 134 = .ok (.aload_n 0, 1) := by decide +kernel
theorem dX9_part_135 : decode cX9_part 135 = .ok (.iconst 1, 1) := by decide +kernel
theorem dX9_part_136 : decode cX9_part 136 = .ok (.iconst 0, 1) := by decide +kernel
theorem dX9_part_137 : decode cX9_part 137 = .ok (.iconst 0, 1) := by decide +kernel
theorem dX9_part_138 : decode cX9_part 138 = .ok (.invokevirtual 379, 3) := by decide +kernel
theorem dX9_part_141 : decode cX9_part 141 = .ok (.istore_n 1, 1) := by decide +kernel
theorem dX9_part_142 : decode cX9_part 142 = .ok (.aload_n 0, 1) := by decide +kernel
theorem dX9_part_143 : decode cX9_part 143 = .ok (.invokevirtual 454, 3) := by decide +kernel
theorem dX9_part_146 : decode cX9_part 146 = .ok (.aload_n 0, 1) := by decide +kernel
theorem dX9_part_147 : decode cX9_part 147 = .ok (.dup, 1) := by decide +kernel
theorem dX9_part_148 : decode cX9_part 148 = .ok (.getfield 373, 3) := by decide +kernel
theorem dX9_part_151 : decode cX9_part 151 = .ok (.iconst 1, 1) := by decide +kernel
theorem dX9_part_152 : decode cX9_part 152 = .ok (.isub, 1) := by decide +kernel
theorem dX9_part_153 : decode cX9_part 153 = .ok (.putfield 373, 3) := by decide +kernel
theorem dX9_part_156 : decode cX9_part 156 = .ok (.return_, 1) := by decide +kernel
theorem dX9_partWithin_0 : decode cX9_partWithin 0 = .ok (.aload_n 0, 1) := by decide +kernel
theorem dX9_partWithin_1 : decode cX9_partWithin 1 = .ok (.getfield 24, 3) := by decide +kernel
theorem dX9_partWithin_4 : decode cX9_partWithin 4 = .ok (.aload_n 0, 1) := by decide +kernel
theorem dX9_partWithin_5 : decode cX9_partWithin 5 = .ok (.getfield 278, 3) := by decide +kernel
theorem dX9_partWithin_8 : decode cX9_partWithin 8 = .ok (.iaload, 1) := by decide +kernel
theorem dX9_partWithin_9 : decode cX9_partWithin 9 = .ok (.iconst 2, 1) := by decide +kernel
theorem dX9_partWithin_10 : decode cX9_partWithin 10 = .ok (.if_icmp .ne 33, 3) := by decide +kernel
theorem dX9_partWithin_13 : decode cX9_partWithin 13 = .ok (.aload_n 0, 1) := by decide +kernel
theorem dX9_partWithin_14 : decode cX9_partWithin 14 = .ok (.iconst 2, 1) := by decide +kernel
theorem dX9_partWithin_15 : decode cX9_partWithin 15 = .ok (.aload_n 0, 1) := by decide +kernel
theorem dX9_partWithin_16 : decode cX9_partWithin 16 = .ok (.getfield 30, 3) := by decide +kernel
theorem dX9_partWithin_19 : decode cX9_partWithin 19 = .ok (.aload_n 0, 1) := by decide +kernel
theorem dX9_partWithin_20 : decode cX9_partWithin 20 = .ok (.getfield 278, 3) := by decide +kernel
theorem dX9_partWithin_23 : decode cX9_partWithin 23 = .ok (.laload, 1) := by decide +kernel
theorem dX9_partWithin_24 : decode cX9_partWithin 24 = .ok (.l2i, 1) := by decide +kernel
theorem dX9_partWithin_25 : decode cX9_partWithin 25 = .ok (.iconst 0, 1) := by decide +kernel
theorem dX9_partWithin_26 : decode cX9_partWithin 26 = .ok (.invokevirtual 379, 3) := by decide +kernel
theorem dX9_partWithin_29 : decode cX9_partWithin 29 = .ok (.istore_n 1, 1) := by decide +kernel
theorem dX9_partWithin_30 : decode cX9_partWithin 30 = .ok (.aload_n 0, 1) := by decide +kernel
theorem dX9_partWithin_31 : decode cX9_partWithin 31 = .ok (.dup, 1) := by decide +kernel
theorem dX9_partWithin_32 : decode cX9_partWithin 32 = .ok (.getfield 278, 3) := by decide +kernel
theorem dX9_partWithin_35 : decode cX9_partWithin 35 = .ok (.iconst 1, 1) := by decide +kernel
theorem dX9_partWithin_36 : decode cX9_partWithin 36 = .ok (.iadd, 1) := by decide +kernel
theorem dX9_partWithin_37 : decode cX9_partWithin 37 = .ok (.putfield 278, 3) := by decide +kernel
theorem dX9_partWithin_40 : decode cX9_partWithin 40 = .ok (.goto 182, 3) := by decide +kernel
theorem dX9_partWithin_43 : decode cX9_partWithin 43 = .ok (.aload_n 0, 1) := by decide +kernel
theorem dX9_partWithin_44 : decode cX9_partWithin 44 = .ok (.bipush 40, 2) := by decide +kernel
theorem dX9_partWithin_46 : decode cX9_partWithin 46 = .ok (.invokevirtual 364, 3) := by decide +kernel
theorem dX9_partWithin_49 : decode cX9_partWithin 49 = .ok (.ifCond .eq 16, 3) := by decide +kernel
theorem dX9_partWithin_52 : decode cX9_partWithin 52 = .ok (.aload_n 0, 1) := by decide +kernel
theorem dX9_partWithin_53 : decode cX9_partWithin 53 = .ok (.invokevirtual 389, 3) := by decide +kernel
theorem dX9_partWithin_56 : decode cX9_partWithin 56 = .ok (.aload_n 0, 1) := by decide +kernel
theorem dX9_partWithin_57 : decode cX9_partWithin 57 = .ok (.bipush 41, 2) := by decide +kernel
theorem dX9_partWithin_59 : decode cX9_partWithin 59 = .ok (.invokevirtual 357, 3) := by decide +kernel
theorem dX9_partWithin_62 : decode cX9_partWithin 62 = .ok (.goto 160, 3) := by decide +kernel
theorem dX9_partWithin_65 : decode cX9_partWithin 65 = .ok (.aload_n 0, 1) := by decide +kernel
theorem dX9_partWithin_66 : decode cX9_partWithin 66 = .ok (.bipush 45, 2) := by decide +kernel
theorem dX9_partWithin_68 : decode cX9_partWithin 68 = .ok (.invokevirtual 364, 3) := by decide +kernel
theorem dX9_partWithin_71 : decode cX9_partWithin 71 = .ok (.ifCond .eq 19, 3) := by decide +kernel
theorem dX9_partWithin_74 : decode cX9_partWithin 74 = .ok (.aload_n 0, 1) := by decide +kernel
theorem dX9_partWithin_75 : decode cX9_partWithin 75 = .ok (.invokevirtual 451, 3) := by decide +kernel
theorem dX9_partWithin_78 : decode cX9_partWithin 78 = .ok (.aload_n 0, 1) := by decide +kernel
theorem dX9_partWithin_79 : decode cX9_partWithin 79 = .ok (.bipush 17, 2) := by decide +kernel
theorem dX9_partWithin_81 : decode cX9_partWithin 81 = .ok (.iconst 0, 1) := by decide +kernel
theorem dX9_partWithin_82 : decode cX9_partWithin 82 = .ok (.iconst 0, 1) := by decide +kernel
theorem dX9_partWithin_83 : decode cX9_partWithin 83 = .ok (.invokevirtual 379, 3) := by decide +kernel
theorem dX9_partWithin_86 : decode cX9_partWithin 86 = .ok (.istore_n 1, 1) := by decide +kernel
theorem dX9_partWithin_87 : decode cX9_partWithin 87 = .ok (.goto 135, 3) := by decide +kernel
theorem dX9_partWithin_90 : decode cX9_partWithin 90 = .ok (.aload_n 0, 1) := by decide +kernel
theorem dX9_partWithin_91 : decode cX9_partWithin 91 = .ok (.bipush 22, 2) := by decide +kernel
theorem dX9_partWithin_93 : decode cX9_partWithin 93 = .ok (.invokevirtual 294, 3) := by decide +kernel
theorem dX9_partWithin_96 : decode cX9_partWithin 96 = .ok (.ifCond .eq 18, 3) := by decide +kernel
theorem dX9_partWithin_99 : decode cX9_partWithin 99 = .ok (.aload_n 0, 1) := by decide +kernel
theorem dX9_partWithin_100 : decode cX9_partWithin 100 = .ok (.bipush 14, 2) := by decide +kernel
theorem dX9_partWithin_102 : decode cX9_partWithin 102 = .ok (.aload_n 0, 1) := by decide +kernel
theorem dX9_partWithin_103 : decode cX9_partWithin 103 = .ok (.invokevirtual 428, 3) := by decide +kernel
theorem dX9_partWithin_106 : decode cX9_partWithin 106 = .ok (.iconst 0, 1) := by decide +kernel
theorem dX9_partWithin_107 : decode cX9_partWithin 107 = .ok (.invokevirtual 379, 3) := by decide +kernel
theorem dX9_partWithin_110 : decode cX9_partWithin 110 = .ok (.istore_n 1, 1) := by decide +kernel
theorem dX9_partWithin_111 : decode cX9_partWithin 111 = .ok (.goto 111, 3) := by decide +kernel
theorem dX9_partWithin_114 : decode cX9_partWithin 114 = .ok (.aload_n 0, 1) := by decide +kernel
theorem dX9_partWithin_115 : decode cX9_partWithin 115 = .ok (.bipush 23, 2) := by decide +kernel
theorem dX9_partWithin_117 : decode cX9_partWithin 117 = .ok (.invokevirtual 294, 3) := by decide +kernel
theorem dX9_partWithin_120 : decode cX9_partWithin 120 = .ok (.ifCond .eq 15, 3) := by decide +kernel
theorem dX9_partWithin_123 : decode cX9_partWithin 123 = .ok (.aload_n 0, 1) := by decide +kernel
theorem dX9_partWithin_124 : decode cX9_partWithin 124 = .ok (.bipush 15, 2) := by decide +kernel
theorem dX9_partWithin_126 : decode cX9_partWithin 126 = .ok (.iconst 0, 1) := by decide +kernel
theorem dX9_partWithin_127 : decode cX9_partWithin 127 = .ok (.iconst 0, 1) := by decide +kernel
theorem dX9_partWithin_128 : decode cX9_partWithin 128 = .ok (.invokevirtual 379, 3) := by decide +kernel
theorem dX9_partWithin_131 : decode cX9_partWithin 131 = .ok (.istore_n 1, 1) := by decide +kernel
theorem dX9_partWithin_132 : decode cX9_partWithin 132 = .ok (.goto 90, 3) := by decide +kernel
theorem dX9_partWithin_135 : decode cX9_partWithin 135 = .ok (.aload_n 0, 1) := by decide +kernel
theorem dX9_partWithin_136 : decode cX9_partWithin 136 = .ok (.bipush 24, 2) := by decide +kernel
theorem dX9_partWithin_138 : decode cX9_partWithin 138 = .ok (.invokevirtual 294, 3) := by decide +kernel
theorem dX9_partWithin_141 : decode cX9_partWithin 141 = .ok (.ifCond .eq 15, 3) := by decide +kernel
theorem dX9_partWithin_144 : decode cX9_partWithin 144 = .ok (.aload_n 0, 1) := by decide +kernel
theorem dX9_partWithin_145 : decode cX9_partWithin 145 = .ok (.bipush 16, 2) := by decide +kernel
theorem dX9_partWithin_147 : decode cX9_partWithin 147 = .ok (.iconst 0, 1) := by decide +kernel
theorem dX9_partWithin_148 : decode cX9_partWithin 148 = .ok (.iconst 0, 1) := by decide +kernel
theorem dX9_partWithin_149 : decode cX9_partWithin 149 = .ok (.invokevirtual 379, 3) := by decide +kernel
theorem dX9_partWithin_152 : decode cX9_partWithin 152 = .ok (.istore_n 1, 1) := by decide +kernel
theorem dX9_partWithin_153 : decode cX9_partWithin 153 = .ok (.goto 69, 3) := by decide +kernel
theorem dX9_partWithin_156 : decode cX9_partWithin 156 = .ok (.aload_n 0, 1) := by decide +kernel
theorem dX9_partWithin_157 : decode cX9_partWithin 157 = .ok (.invokevirtual 436, 3) := by decide +kernel
theorem dX9_partWithin_160 : decode cX9_partWithin 160 = .ok (.ifCond .eq 31, 3) := by decide +kernel
theorem dX9_partWithin_163 : decode cX9_partWithin 163 = .ok (.aload_n 0, 1) := by decide +kernel
theorem dX9_partWithin_164 : decode cX9_partWithin 164 = .ok (.getfield 278, 3) := by decide +kernel
theorem dX9_partWithin_167 : decode cX9_partWithin 167 = .ok (.istore_n 2, 1) := by decide +kernel
theorem dX9_partWithin_168 : decode cX9_partWithin 168 = .ok (.aload_n 0, 1) := by decide +kernel
theorem dX9_partWithin_169 : decode cX9_partWithin 169 = .ok (.invokevirtual 439, 3) := by decide +kernel
theorem dX9_partWithin_172 : decode cX9_partWithin 172 = .ok (.aload_n 0, 1) := by decide +kernel
theorem dX9_partWithin_173 : decode cX9_partWithin 173 = .ok (.iload_n 2, 1) := by decide +kernel
theorem dX9_partWithin_174 : decode cX9_partWithin 174 = .ok (.iload_n 2, 1) := by decide +kernel
theorem dX9_partWithin_175 : decode cX9_partWithin 175 = .ok (.iconst 2, 1) := by decide +kernel
theorem dX9_partWithin_176 : decode cX9_partWithin 176 = .ok (.iadd, 1) := by decide +kernel
theorem dX9_partWithin_177 : decode cX9_partWithin 177 = .ok (.aload_n 0, 1) := by decide +kernel
theorem dX9_partWithin_178 : decode cX9_partWithin 178 = .ok (.iconst 4, 1) := by decide +kernel
theorem dX9_partWithin_179 : decode cX9_partWithin 179 = .ok (.iconst 0, 1) := by decide +kernel
theorem dX9_partWithin_180 : decode cX9_partWithin 180 = .ok (.iconst 0, 1) := by decide +kernel
theorem dX9_partWithin_181 : decode cX9_partWithin 181 = .ok (.invokevirtual 379, 3) := by decide +kernel
theorem dX9_partWithin_184 : decode cX9_partWithin 184 = .ok (.iconst 0, 1) := by decide +kernel
theorem dX9_partWithin_185 : decode cX9_partWithin 185 = .ok (.invokevirtual 424, 3) := by decide +kernel
theorem dX9_partWithin_188 : decode cX9_partWithin 188 = .ok (.goto 34, 3) := by decide +kernel
theorem dX9_partWithin_191 : decode cX9_partWithin 191 = .ok (.aload_n 0, 1) := by decide +kernel
theorem dX9_partWithin_192 : decode cX9_partWithin 192 = .ok (.iconst 0, 1) := by decide +kernel
theorem dX9_partWithin_193 : decode cX9_partWithin 193 = .ok (.invokevirtual 442, 3) := by decide +kernel
theorem dX9_partWithin_196 : decode cX9_partWithin 196 = .ok (.aload_n 0, 1) := by decide +kernel
theorem dX9_partWithin_197 : decode cX9_partWithin 197 = .ok (.iconst 4, 1) := by decide +kernel
theorem dX9_partWithin_198 : decode cX9_partWithin 198 = .ok (.iconst 0, 1) := by decide +kernel
theorem dX9_partWithin_199 : decode cX9_partWithin 199 = .ok (.iconst 0, 1) := by decide +kernel
theorem dX9_partWithin_200 : decode cX9_partWithin 200 = .ok (.invokevirtual 379, 3) := by decide +kernel
theorem dX9_partWithin_203 : decode cX9_partWithin 203 = .ok (.istore_n 2, 1) := by decide +kernel
theorem dX9_partWithin_204 : decode cX9_partWithin 204 = .ok (.aload_n 0, 1) := by decide +kernel
theorem dX9_partWithin_205 : decode cX9_partWithin 205 = .ok (.getfield 281, 3) := by decide +kernel
theorem dX9_partWithin_208 : decode cX9_partWithin 208 = .ok (.ifCond .ne 14, 3) := by decide +kernel
theorem dX9_partWithin_211 : decode cX9_partWithin 211 = .ok (.aload_n 0, 1) := by decide +kernel
theorem dX9_partWithin_212 : decode cX9_partWithin 212 = .ok (.aload_n 0, 1) := by decide +kernel
theorem dX9_partWithin_213 : decode cX9_partWithin 213 = .ok (.getfield 313, 3) := by decide +kernel
theorem dX9_partWithin_216 : decode cX9_partWithin 216 = .ok (.iload_n 2, 1) := by decide +kernel
theorem dX9_partWithin_217 : decode cX9_partWithin 217 = .ok (.iadd, 1) := by decide +kernel
theorem dX9_partWithin_218 : decode cX9_partWithin 218 = .ok (.iconst 0, 1) := by decide +kernel
theorem dX9_partWithin_219 : decode cX9_partWithin 219 = .ok (.invokevirtual 405, 3) := by decide +kernel
theorem dX9_partWithin_222 : decode cX9_partWithin 222 = .ok (.return_, 1) := by decide +kernel
theorem dX9_forget_0 : decode cX9_forget 0 = .ok (.iconst 0, 1) := by decide +kernel
theorem dX9_forget_1 : decode cX9_forget 1 = .ok (.istore_n 1, 1) := by decide +kernel
theorem dX9_forget_2 : decode cX9_forget 2 = .ok (.iload_n 1, 1) := by decide +kernel
theorem dX9_forget_3 : decode cX9_forget 3 = .ok (.bipush 24, 2) := by decide +kernel
theorem dX9_forget_5 : decode cX9_forget 5 = .ok (.if_icmp .ge 76, 3) := by decide +kernel
theorem dX9_forget_8 : decode cX9_forget 8 = .ok (.aload_n 0, 1) := by decide +kernel
theorem dX9_forget_9 : decode cX9_forget 9 = .ok (.getfield 146, 3) := by decide +kernel
theorem dX9_forget_12 : decode cX9_forget 12 = .ok (.iload_n 1, 1) := by decide +kernel
theorem dX9_forget_13 : decode cX9_forget 13 = .ok (.iconst 0, 1) := by decide +kernel
theorem dX9_forget_14 : decode cX9_forget 14 = .ok (.iastore, 1) := by decide +kernel
theorem dX9_forget_15 : decode cX9_forget 15 = .ok (.aload_n 0, 1) := by decide +kernel
theorem dX9_forget_16 : decode cX9_forget 16 = .ok (.getfield 149, 3) := by decide +kernel
theorem dX9_forget_19 : decode cX9_forget 19 = .ok (.iload_n 1, 1) := by decide +kernel
theorem dX9_forget_20 : decode cX9_forget 20 = .ok (.iconst 0, 1) := by decide +kernel
theorem dX9_forget_21 : decode cX9_forget 21 = .ok (.iastore, 1) := by decide +kernel
theorem dX9_forget_22 : decode cX9_forget 22 = .ok (.aload_n 0, 1) := by decide +kernel
theorem dX9_forget_23 : decode cX9_forget 23 = .ok (.getfield 155, 3) := by decide +kernel
theorem dX9_forget_26 : decode cX9_forget 26 = .ok (.iload_n 1, 1) := by decide +kernel
theorem dX9_forget_27 : decode cX9_forget 27 = .ok (.iconst 0, 1) := by decide +kernel
theorem dX9_forget_28 : decode cX9_forget 28 = .ok (.iastore, 1) := by decide +kernel
theorem dX9_forget_29 : decode cX9_forget 29 = .ok (.aload_n 0, 1) := by decide +kernel
theorem dX9_forget_30 : decode cX9_forget 30 = .ok (.getfield 158, 3) := by decide +kernel
theorem dX9_forget_33 : decode cX9_forget 33 = .ok (.iload_n 1, 1) := by decide +kernel
theorem dX9_forget_34 : decode cX9_forget 34 = .ok (.iconst 0, 1) := by decide +kernel
theorem dX9_forget_35 : decode cX9_forget 35 = .ok (.iastore, 1) := by decide +kernel
theorem dX9_forget_36 : decode cX9_forget 36 = .ok (.aload_n 0, 1) := by decide +kernel
theorem dX9_forget_37 : decode cX9_forget 37 = .ok (.getfield 164, 3) := by decide +kernel
theorem dX9_forget_40 : decode cX9_forget 40 = .ok (.iload_n 1, 1) := by decide +kernel
theorem dX9_forget_41 : decode cX9_forget 41 = .ok (.iconst 0, 1) := by decide +kernel
theorem dX9_forget_42 : decode cX9_forget 42 = .ok (.iastore, 1) := by decide +kernel
theorem dX9_forget_43 : decode cX9_forget 43 = .ok (.aload_n 0, 1) := by decide +kernel
theorem dX9_forget_44 : decode cX9_forget 44 = .ok (.getfield 167, 3) := by decide +kernel
theorem dX9_forget_47 : decode cX9_forget 47 = .ok (.iload_n 1, 1) := by decide +kernel
theorem dX9_forget_48 : decode cX9_forget 48 = .ok (.aload_n 0, 1) := by decide +kernel
theorem dX9_forget_49 : decode cX9_forget 49 = .ok (.getfield 49, 3) := by decide +kernel
theorem dX9_forget_52 : decode cX9_forget 52 = .ok (.bipush 24, 2) := by decide +kernel
theorem dX9_forget_54 : decode cX9_forget 54 = .ok (.aload_n 0, 1) := by decide +kernel
theorem dX9_forget_55 : decode cX9_forget 55 = .ok (.getfield 307, 3) := by decide +kernel
theorem dX9_forget_58 : decode cX9_forget 58 = .ok (.imul, 1) := by decide +kernel
theorem dX9_forget_59 : decode cX9_forget 59 = .ok (.iload_n 1, 1) := by decide +kernel
theorem dX9_forget_60 : decode cX9_forget 60 = .ok (.iadd, 1) := by decide +kernel
theorem dX9_forget_61 : decode cX9_forget 61 = .ok (.iaload, 1) := by decide +kernel
theorem dX9_forget_62 : decode cX9_forget 62 = .ok (.iastore, 1) := by decide +kernel
theorem dX9_forget_63 : decode cX9_forget 63 = .ok (.aload_n 0, 1) := by decide +kernel
theorem dX9_forget_64 : decode cX9_forget 64 = .ok (.getfield 170, 3) := by decide +kernel
theorem dX9_forget_67 : decode cX9_forget 67 = .ok (.iload_n 1, 1) := by decide +kernel
theorem dX9_forget_68 : decode cX9_forget 68 = .ok (.aload_n 0, 1) := by decide +kernel
theorem dX9_forget_69 : decode cX9_forget 69 = .ok (.getfield 167, 3) := by decide +kernel
theorem dX9_forget_72 : decode cX9_forget 72 = .ok (.iload_n 1, 1) := by decide +kernel
theorem dX9_forget_73 : decode cX9_forget 73 = .ok (.iaload, 1) := by decide +kernel
theorem dX9_forget_74 : decode cX9_forget 74 = .ok (.iastore, 1) := by decide +kernel
theorem dX9_forget_75 : decode cX9_forget 75 = .ok (.iinc 1 1, 3) := by decide +kernel
theorem dX9_forget_78 : decode cX9_forget 78 = .ok (.goto (-76), 3) := by decide +kernel
theorem dX9_forget_81 : decode cX9_forget 81 = .ok (.iconst 0, 1) := by decide +kernel
theorem dX9_forget_82 : decode cX9_forget 82 = .ok (.istore_n 1, 1) := by decide +kernel
theorem dX9_forget_83 : decode cX9_forget 83 = .ok (.iload_n 1, 1) := by decide +kernel
theorem dX9_forget_84 : decode cX9_forget 84 = .ok (.sipush 192, 3) := by decide +kernel
theorem dX9_forget_87 : decode cX9_forget 87 = .ok (.if_icmp .ge 16, 3) := by decide +kernel
theorem dX9_forget_90 : decode cX9_forget 90 = .ok (.aload_n 0, 1) := by decide +kernel
theorem dX9_forget_91 : decode cX9_forget 91 = .ok (.getfield 152, 3) := by decide +kernel
theorem dX9_forget_94 : decode cX9_forget 94 = .ok (.iload_n 1, 1) := by decide +kernel
theorem dX9_forget_95 : decode cX9_forget 95 = .ok (.iconst 0, 1) := by decide +kernel
theorem dX9_forget_96 : decode cX9_forget 96 = .ok (.iastore, 1) := by decide +kernel
theorem dX9_forget_97 : decode cX9_forget 97 = .ok (.iinc 1 1, 3) := by decide +kernel
theorem dX9_forget_100 : decode cX9_forget 100 = .ok (.goto (-17), 3) := by decide +kernel
theorem dX9_forget_103 : decode cX9_forget 103 = .ok (.aload_n 0, 1) := by decide +kernel
theorem dX9_forget_104 : decode cX9_forget 104 = .ok (.iconst 0, 1) := by decide +kernel
theorem dX9_forget_105 : decode cX9_forget 105 = .ok (.putfield 457, 3) := by decide +kernel
theorem dX9_forget_108 : decode cX9_forget 108 = .ok (.aload_n 0, 1) := by decide +kernel
theorem dX9_forget_109 : decode cX9_forget 109 = .ok (.iconst 0, 1) := by decide +kernel
theorem dX9_forget_110 : decode cX9_forget 110 = .ok (.putfield 460, 3) := by decide +kernel
theorem dX9_forget_113 : decode cX9_forget 113 = .ok (.aload_n 0, 1) := by decide +kernel
theorem dX9_forget_114 : decode cX9_forget 114 = .ok (.iconst 0, 1) := by decide +kernel
theorem dX9_forget_115 : decode cX9_forget 115 = .ok (.putfield 464, 3) := by decide +kernel
theorem dX9_forget_118 : decode cX9_forget 118 = .ok (.aload_n 0, 1) := by decide +kernel
theorem dX9_forget_119 : decode cX9_forget 119 = .ok (.iconst 0, 1) := by decide +kernel
theorem dX9_forget_120 : decode cX9_forget 120 = .ok (.putfield 467, 3) := by decide +kernel
theorem dX9_forget_123 : decode cX9_forget 123 = .ok (.aload_n 0, 1) := by decide +kernel
theorem dX9_forget_124 : decode cX9_forget 124 = .ok (.iconst 0, 1) := by decide +kernel
theorem dX9_forget_125 : decode cX9_forget 125 = .ok (.putfield 470, 3) := by decide +kernel
theorem dX9_forget_128 : decode cX9_forget 128 = .ok (.aload_n 0, 1) := by decide +kernel
theorem dX9_forget_129 : decode cX9_forget 129 = .ok (.iconst 0, 1) := by decide +kernel
theorem dX9_forget_130 : decode cX9_forget 130 = .ok (.putfield 473, 3) := by decide +kernel
theorem dX9_forget_133 : decode cX9_forget 133 = .ok (.aload_n 0, 1) := by decide +kernel
theorem dX9_forget_134 : decode cX9_forget 134 = .ok (.iconst 0, 1) := by decide +kernel
theorem dX9_forget_135 : decode cX9_forget 135 = .ok (.putfield 476, 3) := by decide +kernel
theorem dX9_forget_138 : decode cX9_forget 138 = .ok (.aload_n 0, 1) := by decide +kernel
theorem dX9_forget_139 : decode cX9_forget 139 = .ok (.iconst 0, 1) := by decide +kernel
theorem dX9_forget_140 : decode cX9_forget 140 = .ok (.putfield 479, 3) := by decide +kernel
theorem dX9_forget_143 : decode cX9_forget 143 = .ok (.aload_n 0, 1) := by decide +kernel
theorem dX9_forget_144 : decode cX9_forget 144 = .ok (.iconst 0, 1) := by decide +kernel
theorem dX9_forget_145 : decode cX9_forget 145 = .ok (.putfield 482, 3) := by decide +kernel
theorem dX9_forget_148 : decode cX9_forget 148 = .ok (.aload_n 0, 1) := by decide +kernel
theorem dX9_forget_149 : decode cX9_forget 149 = .ok (.iconst 0, 1) := by decide +kernel
theorem dX9_forget_150 : decode cX9_forget 150 = .ok (.putfield 485, 3) := by decide +kernel
theorem dX9_forget_153 : decode cX9_forget 153 = .ok (.aload_n 0, 1) := by decide +kernel
theorem dX9_forget_154 : decode cX9_forget 154 = .ok (.iconst 0, 1) := by decide +kernel
theorem dX9_forget_155 : decode cX9_forget 155 = .ok (.putfield 488, 3) := by decide +kernel
theorem dX9_forget_158 : decode cX9_forget 158 = .ok (.return_, 1) := by decide +kernel
theorem dX9_fails_0 : decode cX9_fails 0 = .ok (.aload_n 0, 1) := by decide +kernel
theorem dX9_fails_1 : decode cX9_fails 1 = .ok (.iload_n 1, 1) := by decide +kernel
theorem dX9_fails_2 : decode cX9_fails 2 = .ok (.putfield 491, 3) := by decide +kernel
theorem dX9_fails_5 : decode cX9_fails 5 = .ok (.aload_n 0, 1) := by decide +kernel
theorem dX9_fails_6 : decode cX9_fails 6 = .ok (.iload_n 2, 1) := by decide +kernel
theorem dX9_fails_7 : decode cX9_fails 7 = .ok (.putfield 494, 3) := by decide +kernel
theorem dX9_fails_10 : decode cX9_fails 10 = .ok (.iconst 1, 1) := by decide +kernel
theorem dX9_fails_11 : decode cX9_fails 11 = .ok (.ireturn, 1) := by decide +kernel
theorem dX9_touch_0 : decode cX9_touch 0 = .ok (.aload_n 0, 1) := by decide +kernel
theorem dX9_touch_1 : decode cX9_touch 1 = .ok (.getfield 146, 3) := by decide +kernel
theorem dX9_touch_4 : decode cX9_touch 4 = .ok (.iload_n 1, 1) := by decide +kernel
theorem dX9_touch_5 : decode cX9_touch 5 = .ok (.iaload, 1) := by decide +kernel
theorem dX9_touch_6 : decode cX9_touch 6 = .ok (.iconst 2, 1) := by decide +kernel
theorem dX9_touch_7 : decode cX9_touch 7 = .ok (.if_icmp .eq 13, 3) := by decide +kernel
theorem dX9_touch_10 : decode cX9_touch 10 = .ok (.aload_n 0, 1) := by decide +kernel
theorem dX9_touch_11 : decode cX9_touch 11 = .ok (.getfield 146, 3) := by decide +kernel
theorem dX9_touch_14 : decode cX9_touch 14 = .ok (.iload_n 1, 1) := by decide +kernel
theorem dX9_touch_15 : decode cX9_touch 15 = .ok (.iaload, 1) := by decide +kernel
theorem dX9_touch_16 : decode cX9_touch 16 = .ok (.iconst 1, 1) := by decide +kernel
theorem dX9_touch_17 : decode cX9_touch 17 = .ok (.if_icmp .ne 5, 3) := by decide +kernel
theorem dX9_touch_20 : decode cX9_touch 20 = .ok (.iconst 0, 1) := by decide +kernel
theorem dX9_touch_21 : decode cX9_touch 21 = .ok (.ireturn, 1) := by decide +kernel
theorem dX9_touch_22 : decode cX9_touch 22 = .ok (.aload_n 0, 1) := by decide +kernel
theorem dX9_touch_23 : decode cX9_touch 23 = .ok (.getfield 146, 3) := by decide +kernel
theorem dX9_touch_26 : decode cX9_touch 26 = .ok (.iload_n 1, 1) := by decide +kernel
theorem dX9_touch_27 : decode cX9_touch 27 = .ok (.iaload, 1) := by decide +kernel
theorem dX9_touch_28 : decode cX9_touch 28 = .ok (.iconst 3, 1) := by decide +kernel
theorem dX9_touch_29 : decode cX9_touch 29 = .ok (.if_icmp .ne 13, 3) := by decide +kernel
theorem dX9_touch_32 : decode cX9_touch 32 = .ok (.aload_n 0, 1) := by decide +kernel
theorem dX9_touch_33 : decode cX9_touch 33 = .ok (.bipush 21, 2) := by decide +kernel
theorem dX9_touch_35 : decode cX9_touch 35 = .ok (.iconst 0, 1) := by decide +kernel
theorem dX9_touch_36 : decode cX9_touch 36 = .ok (.invokevirtual 497, 3) := by decide +kernel
theorem dX9_touch_39 : decode cX9_touch 39 = .ok (.goto 8, 3) := by decide +kernel
theorem dX9_touch_42 : decode cX9_touch 42 = .ok (.aload_n 0, 1) := by decide +kernel
theorem dX9_touch_43 : decode cX9_touch 43 = .ok (.iload_n 1, 1) := by decide +kernel
theorem dX9_touch_44 : decode cX9_touch 44 = .ok (.invokevirtual 500, 3) := by decide +kernel
theorem dX9_touch_47 : decode cX9_touch 47 = .ok (.ireturn, 1) := by decide +kernel
theorem dX9_comesUp_0 : decode cX9_comesUp 0 = .ok (.bipush 24, 2) := by decide +kernel
theorem dX9_comesUp_2 : decode cX9_comesUp 2 = .ok (.aload_n 0, 1) := by decide +kernel
theorem dX9_comesUp_3 : decode cX9_comesUp 3 = .ok (.getfield 307, 3) := by decide +kernel
theorem dX9_comesUp_6 : decode cX9_comesUp 6 = .ok (.imul, 1) := by decide +kernel
theorem dX9_comesUp_7 : decode cX9_comesUp 7 = .ok (.iload_n 1, 1) := by decide +kernel
theorem dX9_comesUp_8 : decode cX9_comesUp 8 = .ok (.iadd, 1) := by decide +kernel
theorem dX9_comesUp_9 : decode cX9_comesUp 9 = .ok (.istore_n 2, 1) := by decide +kernel
theorem dX9_comesUp_10 : decode cX9_comesUp 10 = .ok (.aload_n 0, 1) := by decide +kernel
theorem dX9_comesUp_11 : decode cX9_comesUp 11 = .ok (.getfield 146, 3) := by decide +kernel
theorem dX9_comesUp_14 : decode cX9_comesUp 14 = .ok (.iload_n 1, 1) := by decide +kernel
theorem dX9_comesUp_15 : decode cX9_comesUp 15 = .ok (.iconst 1, 1) := by decide +kernel
theorem dX9_comesUp_16 : decode cX9_comesUp 16 = .ok (.iastore, 1) := by decide +kernel
theorem dX9_comesUp_17 : decode cX9_comesUp 17 = .ok (.iconst 0, 1) := by decide +kernel
theorem dX9_comesUp_18 : decode cX9_comesUp 18 = .ok (.istore_n 3, 1) := by decide +kernel
theorem dX9_comesUp_19 : decode cX9_comesUp 19 = .ok (.aload_n 0, 1) := by decide +kernel
theorem dX9_comesUp_20 : decode cX9_comesUp 20 = .ok (.getfield 64, 3) := by decide +kernel
theorem dX9_comesUp_23 : decode cX9_comesUp 23 = .ok (.iload_n 2, 1) := by decide +kernel
theorem dX9_comesUp_24 : decode cX9_comesUp 24 = .ok (.baload, 1) := by decide +kernel
theorem dX9_comesUp_25 : decode cX9_comesUp 25 = .ok (.ifCond .eq 98, 3) := by decide +kernel
theorem dX9_comesUp_28 : decode cX9_comesUp 28 = .ok (.aload_n 0, 1) := by decide +kernel
theorem dX9_comesUp_29 : decode cX9_comesUp 29 = .ok (.getfield 71, 3) := by decide +kernel
theorem dX9_comesUp_32 : decode cX9_comesUp 32 = .ok (.iload_n 2, 1) := by decide +kernel
theorem dX9_comesUp_33 : decode cX9_comesUp 33 = .ok (.iaload, 1) := by decide +kernel
theorem dX9_comesUp_34 : decode cX9_comesUp 34 = .ok (.ifCond .ge 7, 3) := by decide +kernel
theorem dX9_comesUp_37 : decode cX9_comesUp 37 = .ok (.iconst 0, 1) := by decide +kernel
theorem dX9_comesUp_38 : decode cX9_comesUp 38 = .ok (.goto 13, 3) := by decide +kernel
theorem dX9_comesUp_41 : decode cX9_comesUp 41 = .ok (.aload_n 0, 1) := by decide +kernel
theorem dX9_comesUp_42 : decode cX9_comesUp 42 = .ok (.aload_n 0, 1) := by decide +kernel
theorem dX9_comesUp_43 : decode cX9_comesUp 43 = .ok (.getfield 71, 3) := by decide +kernel
theorem dX9_comesUp_46 : decode cX9_comesUp 46 = .ok (.iload_n 2, 1) := by decide +kernel
theorem dX9_comesUp_47 : decode cX9_comesUp 47 = .ok (.iaload, 1) := by decide +kernel
theorem dX9_comesUp_48 : decode cX9_comesUp 48 = .ok (.invokevirtual 503, 3) := by decide +kernel
theorem dX9_comesUp_51 : decode cX9_comesUp 51 = .ok (.istore_n 3, 1) := by decide +kernel
theorem dX9_comesUp_52 : decode cX9_comesUp 52 = .ok (.iconst 0, 1) := by decide +kernel
theorem dX9_comesUp_53 : decode cX9_comesUp 53 = .ok (.istore 4, 2) := by decide +kernel
theorem dX9_comesUp_55 : decode cX9_comesUp 55 = .ok (.iload 4, 2) := by decide +kernel
theorem dX9_comesUp_57 : decode cX9_comesUp 57 = .ok (.bipush 24, 2) := by decide +kernel
theorem dX9_comesUp_59 : decode cX9_comesUp 59 = .ok (.if_icmp .ge 22, 3) := by decide +kernel
theorem dX9_comesUp_62 : decode cX9_comesUp 62 = .ok (.aload_n 0, 1) := by decide +kernel
theorem dX9_comesUp_63 : decode cX9_comesUp 63 = .ok (.getfield 215, 3) := by decide +kernel
theorem dX9_comesUp_66 : decode cX9_comesUp 66 = .ok (.bipush 24, 2) := by decide +kernel
theorem dX9_comesUp_68 : decode cX9_comesUp 68 = .ok (.iload_n 1, 1) := by decide +kernel
theorem dX9_comesUp_69 : decode cX9_comesUp 69 = .ok (.imul, 1) := by decide +kernel
theorem dX9_comesUp_70 : decode cX9_comesUp 70 = .ok (.iload 4, 2) := by decide +kernel
theorem dX9_comesUp_72 : decode cX9_comesUp 72 = .ok (.iadd, 1) := by decide +kernel
theorem dX9_comesUp_73 : decode cX9_comesUp 73 = .ok (.iconst 0, 1) := by decide +kernel
theorem dX9_comesUp_74 : decode cX9_comesUp 74 = .ok (.bastore, 1) := by decide +kernel
theorem dX9_comesUp_75 : decode cX9_comesUp 75 = .ok (.iinc 4 1, 3) := by decide +kernel
theorem dX9_comesUp_78 : decode cX9_comesUp 78 = .ok (.goto (-23), 3) := by decide +kernel
theorem dX9_comesUp_81 : decode cX9_comesUp 81 = .ok (.iconst 0, 1) := by decide +kernel
theorem dX9_comesUp_82 : decode cX9_comesUp 82 = .ok (.istore 4, 2) := by decide +kernel
theorem dX9_comesUp_84 : decode cX9_comesUp 84 = .ok (.iload 4, 2) := by decide +kernel
theorem dX9_comesUp_86 : decode cX9_comesUp 86 = .ok (.aload_n 0, 1) := by decide +kernel
theorem dX9_comesUp_87 : decode cX9_comesUp 87 = .ok (.getfield 74, 3) := by decide +kernel
theorem dX9_comesUp_90 : decode cX9_comesUp 90 = .ok (.iload_n 2, 1) := by decide +kernel
theorem dX9_comesUp_91 : decode cX9_comesUp 91 = .ok (.iaload, 1) := by decide +kernel
theorem dX9_comesUp_92 : decode cX9_comesUp 92 = .ok (.if_icmp .ge 31, 3) := by decide +kernel
theorem dX9_comesUp_95 : decode cX9_comesUp 95 = .ok (.iload_n 3, 1) := by decide +kernel
theorem dX9_comesUp_96 : decode cX9_comesUp 96 = .ok (.ifCond .ne 27, 3) := by decide +kernel
theorem dX9_comesUp_99 : decode cX9_comesUp 99 = .ok (.aload_n 0, 1) := by decide +kernel
theorem dX9_comesUp_100 : decode cX9_comesUp 100 = .ok (.iload_n 1, 1) := by decide +kernel
theorem dX9_comesUp_101 : decode cX9_comesUp 101 = .ok (.aload_n 0, 1) := by decide +kernel
theorem dX9_comesUp_102 : decode cX9_comesUp 102 = .ok (.getfield 77, 3) := by decide +kernel
theorem dX9_comesUp_105 : decode cX9_comesUp 105 = .ok (.bipush 6, 2) := by decide +kernel
theorem dX9_comesUp_107 : decode cX9_comesUp 107 = .ok (.iload_n 2, 1) := by decide +kernel
theorem dX9_comesUp_108 : decode cX9_comesUp 108 = .ok (.imul, 1) := by decide +kernel
theorem dX9_comesUp_109 : decode cX9_comesUp 109 = .ok (.iload 4, 2) := by decide +kernel
theorem dX9_comesUp_111 : decode cX9_comesUp 111 = .ok (.iadd, 1) := by decide +kernel
theorem dX9_comesUp_112 : decode cX9_comesUp 112 = .ok (.iaload, 1) := by decide +kernel
theorem dX9_comesUp_113 : decode cX9_comesUp 113 = .ok (.invokevirtual 506, 3) := by decide +kernel
theorem dX9_comesUp_116 : decode cX9_comesUp 116 = .ok (.istore_n 3, 1) := by decide +kernel
theorem dX9_comesUp_117 : decode cX9_comesUp 117 = .ok (.iinc 4 1, 3) := by decide +kernel
theorem dX9_comesUp_120 : decode cX9_comesUp 120 = .ok (.goto (-36), 3) := by decide +kernel
theorem dX9_comesUp_123 : decode cX9_comesUp 123 = .ok (.iconst 0, 1) := by decide +kernel
theorem dX9_comesUp_124 : decode cX9_comesUp 124 = .ok (.istore 4, 2) := by decide +kernel
theorem dX9_comesUp_126 : decode cX9_comesUp 126 = .ok (.iload 4, 2) := by decide +kernel
theorem dX9_comesUp_128 : decode cX9_comesUp 128 = .ok (.aload_n 0, 1) := by decide +kernel
theorem dX9_comesUp_129 : decode cX9_comesUp 129 = .ok (.getfield 467, 3) := by decide +kernel
theorem dX9_comesUp_132 : decode cX9_comesUp 132 = .ok (.if_icmp .ge 52, 3) := by decide +kernel
theorem dX9_comesUp_135 : decode cX9_comesUp 135 = .ok (.iload_n 3, 1) := by decide +kernel
theorem dX9_comesUp_136 : decode cX9_comesUp 136 = .ok (.ifCond .ne 48, 3) := by decide +kernel
theorem dX9_comesUp_139 : decode cX9_comesUp 139 = .ok (.aload_n 0, 1) := by decide +kernel
theorem dX9_comesUp_140 : decode cX9_comesUp 140 = .ok (.getfield 173, 3) := by decide +kernel
theorem dX9_comesUp_143 : decode cX9_comesUp 143 = .ok (.iload 4, 2) := by decide +kernel
theorem dX9_comesUp_145 : decode cX9_comesUp 145 = .ok (.iaload, 1) := by decide +kernel
theorem dX9_comesUp_146 : decode cX9_comesUp 146 = .ok (.iload_n 1, 1) := by decide +kernel
theorem dX9_comesUp_147 : decode cX9_comesUp 147 = .ok (.if_icmp .ne 29, 3) := by decide +kernel
theorem dX9_comesUp_150 : decode cX9_comesUp 150 = .ok (.aload_n 0, 1) := by decide +kernel
theorem dX9_comesUp_151 : decode cX9_comesUp 151 = .ok (.getfield 176, 3) := by decide +kernel
theorem dX9_comesUp_154 : decode cX9_comesUp 154 = .ok (.iload 4, 2) := by decide +kernel
theorem dX9_comesUp_156 : decode cX9_comesUp 156 = .ok (.iaload, 1) := by decide +kernel
theorem dX9_comesUp_157 : decode cX9_comesUp 157 = .ok (.aload_n 0, 1) := by decide +kernel
theorem dX9_comesUp_158 : decode cX9_comesUp 158 = .ok (.getfield 149, 3) := by decide +kernel
theorem dX9_comesUp_161 : decode cX9_comesUp 161 = .ok (.iload_n 1, 1) := by decide +kernel
theorem dX9_comesUp_162 : decode cX9_comesUp 162 = .ok (.iaload, 1) := by decide +kernel
theorem dX9_comesUp_163 : decode cX9_comesUp 163 = .ok (.if_icmp .ne 13, 3) := by decide +kernel
theorem dX9_comesUp_166 : decode cX9_comesUp 166 = .ok (.aload_n 0, 1) := by decide +kernel
theorem dX9_comesUp_167 : decode cX9_comesUp 167 = .ok (.bipush 14, 2) := by decide +kernel
theorem dX9_comesUp_169 : decode cX9_comesUp 169 = .ok (.iconst 0, 1) := by decide +kernel
theorem dX9_comesUp_170 : decode cX9_comesUp 170 = .ok (.invokevirtual 497, 3) := by decide +kernel
theorem dX9_comesUp_173 : decode cX9_comesUp 173 = .ok (.goto 4, 3) := by decide +kernel
theorem dX9_comesUp_176 : decode cX9_comesUp 176 = .ok (.iconst 0, 1) := by decide +kernel
theorem dX9_comesUp_177 : decode cX9_comesUp 177 = .ok (.istore_n 3, 1) := by decide +kernel
theorem dX9_comesUp_178 : decode cX9_comesUp 178 = .ok (.iinc 4 1, 3) := by decide +kernel
theorem dX9_comesUp_181 : decode cX9_comesUp 181 = .ok (.goto (-55), 3) := by decide +kernel
theorem dX9_comesUp_184 : decode cX9_comesUp 184 = .ok (.iload_n 3, 1) := by decide +kernel
theorem dX9_comesUp_185 : decode cX9_comesUp 185 = .ok (.ifCond .ne 16, 3) := by decide +kernel
theorem dX9_comesUp_188 : decode cX9_comesUp 188 = .ok (.aload_n 0, 1) := by decide +kernel
theorem dX9_comesUp_189 : decode cX9_comesUp 189 = .ok (.aload_n 0, 1) := by decide +kernel
theorem dX9_comesUp_190 : decode cX9_comesUp 190 = .ok (.getfield 101, 3) := by decide +kernel
theorem dX9_comesUp_193 : decode cX9_comesUp 193 = .ok (.iload_n 2, 1) := by decide +kernel
theorem dX9_comesUp_194 : decode cX9_comesUp 194 = .ok (.iaload, 1) := by decide +kernel
theorem dX9_comesUp_195 : decode cX9_comesUp 195 = .ok (.iload_n 1, 1) := by decide +kernel
theorem dX9_comesUp_196 : decode cX9_comesUp 196 = .ok (.iconst 0, 1) := by decide +kernel
theorem dX9_comesUp_197 : decode cX9_comesUp 197 = .ok (.invokevirtual 509, 3) := by decide +kernel
theorem dX9_comesUp_200 : decode cX9_comesUp 200 = .ok (.istore_n 3, 1) := by decide +kernel
theorem dX9_comesUp_201 : decode cX9_comesUp 201 = .ok (.iload_n 3, 1) := by decide +kernel
theorem dX9_comesUp_202 : decode cX9_comesUp 202 = .ok (.ifCond .ne 61, 3) := by decide +kernel
theorem dX9_comesUp_205 : decode cX9_comesUp 205 = .ok (.aload_n 0, 1) := by decide +kernel
theorem dX9_comesUp_206 : decode cX9_comesUp 206 = .ok (.getfield 146, 3) := by decide +kernel
theorem dX9_comesUp_209 : decode cX9_comesUp 209 = .ok (.iload_n 1, 1) := by decide +kernel
theorem dX9_comesUp_210 : decode cX9_comesUp 210 = .ok (.iconst 2, 1) := by decide +kernel
theorem dX9_comesUp_211 : decode cX9_comesUp 211 = .ok (.iastore, 1) := by decide +kernel
theorem dX9_comesUp_212 : decode cX9_comesUp 212 = .ok (.aload_n 0, 1) := by decide +kernel
theorem dX9_comesUp_213 : decode cX9_comesUp 213 = .ok (.getfield 179, 3) := by decide +kernel
theorem dX9_comesUp_216 : decode cX9_comesUp 216 = .ok (.aload_n 0, 1) := by decide +kernel
theorem dX9_comesUp_217 : decode cX9_comesUp 217 = .ok (.getfield 470, 3) := by decide +kernel
theorem dX9_comesUp_220 : decode cX9_comesUp 220 = .ok (.iload_n 1, 1) := by decide +kernel
theorem dX9_comesUp_221 : decode cX9_comesUp 221 = .ok (.iastore, 1) := by decide +kernel
theorem dX9_comesUp_222 : decode cX9_comesUp 222 = .ok (.aload_n 0, 1) := by decide +kernel
theorem dX9_comesUp_223 : decode cX9_comesUp 223 = .ok (.getfield 182, 3) := by decide +kernel
theorem dX9_comesUp_226 : decode cX9_comesUp 226 = .ok (.aload_n 0, 1) := by decide +kernel
theorem dX9_comesUp_227 : decode cX9_comesUp 227 = .ok (.getfield 470, 3) := by decide +kernel
theorem dX9_comesUp_230 : decode cX9_comesUp 230 = .ok (.aload_n 0, 1) := by decide +kernel
theorem dX9_comesUp_231 : decode cX9_comesUp 231 = .ok (.getfield 149, 3) := by decide +kernel
theorem dX9_comesUp_234 : decode cX9_comesUp 234 = .ok (.iload_n 1, 1) := by decide +kernel
theorem dX9_comesUp_235 : decode cX9_comesUp 235 = .ok (.iaload, 1) := by decide +kernel
theorem dX9_comesUp_236 : decode cX9_comesUp 236 = .ok (.iastore, 1) := by decide +kernel
theorem dX9_comesUp_237 : decode cX9_comesUp 237 = .ok (.aload_n 0, 1) := by decide +kernel
theorem dX9_comesUp_238 : decode cX9_comesUp 238 = .ok (.getfield 185, 3) := by decide +kernel
theorem dX9_comesUp_241 : decode cX9_comesUp 241 = .ok (.aload_n 0, 1) := by decide +kernel
theorem dX9_comesUp_242 : decode cX9_comesUp 242 = .ok (.getfield 470, 3) := by decide +kernel
theorem dX9_comesUp_245 : decode cX9_comesUp 245 = .ok (.aload_n 0, 1) := by decide +kernel
theorem dX9_comesUp_246 : decode cX9_comesUp 246 = .ok (.getfield 513, 3) := by decide +kernel
theorem dX9_comesUp_249 : decode cX9_comesUp 249 = .ok (.iastore, 1) := by decide +kernel
theorem dX9_comesUp_250 : decode cX9_comesUp 250 = .ok (.aload_n 0, 1) := by decide +kernel
theorem dX9_comesUp_251 : decode cX9_comesUp 251 = .ok (.dup, 1) := by decide +kernel
theorem dX9_comesUp_252 : decode cX9_comesUp 252 = .ok (.getfield 470, 3) := by decide +kernel
theorem dX9_comesUp_255 : decode cX9_comesUp 255 = .ok (.iconst 1, 1) := by decide +kernel
theorem dX9_comesUp_256 : decode cX9_comesUp 256 = .ok (.iadd, 1) := by decide +kernel
theorem dX9_comesUp_257 : decode cX9_comesUp 257 = .ok (.putfield 470, 3) := by decide +kernel
theorem dX9_comesUp_260 : decode cX9_comesUp 260 = .ok (.goto 85, 3) := by decide +kernel
theorem dX9_comesUp_263 : decode cX9_comesUp 263 = .ok (.aload_n 0, 1) := by decide +kernel
theorem dX9_comesUp_264 : decode cX9_comesUp 264 = .ok (.getfield 146, 3) := by decide +kernel
theorem dX9_comesUp_267 : decode cX9_comesUp 267 = .ok (.iload_n 1, 1) := by decide +kernel
theorem dX9_comesUp_268 : decode cX9_comesUp 268 = .ok (.iconst 3, 1) := by decide +kernel
theorem dX9_comesUp_269 : decode cX9_comesUp 269 = .ok (.iastore, 1) := by decide +kernel
theorem dX9_comesUp_270 : decode cX9_comesUp 270 = .ok (.iload_n 3, 1) := by decide +kernel
theorem dX9_comesUp_271 : decode cX9_comesUp 271 = .ok (.iconst 2, 1) := by decide +kernel
theorem dX9_comesUp_272 : decode cX9_comesUp 272 = .ok (.if_icmp .ne 21, 3) := by decide +kernel
theorem dX9_comesUp_275 : decode cX9_comesUp 275 = .ok (.aload_n 0, 1) := by decide +kernel
theorem dX9_comesUp_276 : decode cX9_comesUp 276 = .ok (.getfield 155, 3) := by decide +kernel
theorem dX9_comesUp_279 : decode cX9_comesUp 279 = .ok (.iload_n 1, 1) := by decide +kernel
theorem dX9_comesUp_280 : decode cX9_comesUp 280 = .ok (.bipush 22, 2) := by decide +kernel
theorem dX9_comesUp_282 : decode cX9_comesUp 282 = .ok (.iastore, 1) := by decide +kernel
theorem dX9_comesUp_283 : decode cX9_comesUp 283 = .ok (.aload_n 0, 1) := by decide +kernel
theorem dX9_comesUp_284 : decode cX9_comesUp 284 = .ok (.getfield 158, 3) := by decide +kernel
theorem dX9_comesUp_287 : decode cX9_comesUp 287 = .ok (.iload_n 1, 1) := by decide +kernel
theorem dX9_comesUp_288 : decode cX9_comesUp 288 = .ok (.iconst 0, 1) := by decide +kernel
theorem dX9_comesUp_289 : decode cX9_comesUp 289 = .ok (.iastore, 1) := by decide +kernel
theorem dX9_comesUp_290 : decode cX9_comesUp 290 = .ok (.goto 55, 3) := by decide +kernel
theorem dX9_comesUp_293 : decode cX9_comesUp 293 = .ok (.aload_n 0, 1) := by decide +kernel
theorem dX9_comesUp_294 : decode cX9_comesUp 294 = .ok (.getfield 491, 3) := by decide +kernel
theorem dX9_comesUp_297 : decode cX9_comesUp 297 = .ok (.bipush 20, 2) := by decide +kernel
theorem dX9_comesUp_299 : decode cX9_comesUp 299 = .ok (.if_icmp .eq 26, 3) := by decide +kernel
theorem dX9_comesUp_302 : decode cX9_comesUp 302 = .ok (.aload_n 0, 1) := by decide +kernel
theorem dX9_comesUp_303 : decode cX9_comesUp 303 = .ok (.getfield 491, 3) := by decide +kernel
theorem dX9_comesUp_306 : decode cX9_comesUp 306 = .ok (.bipush 21, 2) := by decide +kernel
theorem dX9_comesUp_308 : decode cX9_comesUp 308 = .ok (.if_icmp .eq 17, 3) := by decide +kernel
theorem dX9_comesUp_311 : decode cX9_comesUp 311 = .ok (.aload_n 0, 1) := by decide +kernel
theorem dX9_comesUp_312 : decode cX9_comesUp 312 = .ok (.aload_n 0, 1) := by decide +kernel
theorem dX9_comesUp_313 : decode cX9_comesUp 313 = .ok (.getfield 491, 3) := by decide +kernel
theorem dX9_comesUp_316 : decode cX9_comesUp 316 = .ok (.putfield 494, 3) := by decide +kernel
theorem dX9_comesUp_319 : decode cX9_comesUp 319 = .ok (.aload_n 0, 1) := by decide +kernel
theorem dX9_comesUp_320 : decode cX9_comesUp 320 = .ok (.bipush 20, 2) := by decide +kernel
theorem dX9_comesUp_322 : decode cX9_comesUp 322 = .ok (.putfield 491, 3) := by decide +kernel
theorem dX9_comesUp_325 : decode cX9_comesUp 325 = .ok (.aload_n 0, 1) := by decide +kernel
theorem dX9_comesUp_326 : decode cX9_comesUp 326 = .ok (.getfield 155, 3) := by decide +kernel
theorem dX9_comesUp_329 : decode cX9_comesUp 329 = .ok (.iload_n 1, 1) := by decide +kernel
theorem dX9_comesUp_330 : decode cX9_comesUp 330 = .ok (.aload_n 0, 1) := by decide +kernel
theorem dX9_comesUp_331 : decode cX9_comesUp 331 = .ok (.getfield 491, 3) := by decide +kernel
theorem dX9_comesUp_334 : decode cX9_comesUp 334 = .ok (.iastore, 1) := by decide +kernel
theorem dX9_comesUp_335 : decode cX9_comesUp 335 = .ok (.aload_n 0, 1) := by decide +kernel
theorem dX9_comesUp_336 : decode cX9_comesUp 336 = .ok (.getfield 158, 3) := by decide +kernel
theorem dX9_comesUp_339 : decode cX9_comesUp 339 = .ok (.iload_n 1, 1) := by decide +kernel
theorem dX9_comesUp_340 : decode cX9_comesUp 340 = .ok (.aload_n 0, 1) := by decide +kernel
theorem dX9_comesUp_341 : decode cX9_comesUp 341 = .ok (.getfield 494, 3) := by decide +kernel
theorem dX9_comesUp_344 : decode cX9_comesUp 344 = .ok (.iastore, 1) := by decide +kernel
theorem dX9_comesUp_345 : decode cX9_comesUp 345 = .ok (.iload_n 3, 1) := by decide +kernel
theorem dX9_comesUp_346 : decode cX9_comesUp 346 = .ok (.ireturn, 1) := by decide +kernel
theorem dX9_touchRole_0 : decode cX9_touchRole 0 = .ok (.bipush 24, 2) := by decide +kernel
theorem dX9_touchRole_2 : decode cX9_touchRole 2 = .ok (.aload_n 0, 1) := by decide +kernel
theorem dX9_touchRole_3 : decode cX9_touchRole 3 = .ok (.getfield 307, 3) := by decide +kernel
theorem dX9_touchRole_6 : decode cX9_touchRole 6 = .ok (.imul, 1) := by decide +kernel
theorem dX9_touchRole_7 : decode cX9_touchRole 7 = .ok (.iload_n 2, 1) := by decide +kernel
theorem dX9_touchRole_8 : decode cX9_touchRole 8 = .ok (.iadd, 1) := by decide +kernel
theorem dX9_touchRole_9 : decode cX9_touchRole 9 = .ok (.istore_n 3, 1) := by decide +kernel
theorem dX9_touchRole_10 : decode cX9_touchRole 10 = .ok (.iconst 0, 1) := by decide +kernel
theorem dX9_touchRole_11 : decode cX9_touchRole 11 = .ok (.istore 4, 2) := by decide +kernel
theorem dX9_touchRole_13 : decode cX9_touchRole 13 = .ok (.aload_n 0, 1) := by decide +kernel
theorem dX9_touchRole_14 : decode cX9_touchRole 14 = .ok (.getfield 215, 3) := by decide +kernel
theorem dX9_touchRole_17 : decode cX9_touchRole 17 = .ok (.bipush 24, 2) := by decide +kernel
theorem dX9_touchRole_19 : decode cX9_touchRole 19 = .ok (.iload_n 1, 1) := by decide +kernel
theorem dX9_touchRole_20 : decode cX9_touchRole 20 = .ok (.imul, 1) := by decide +kernel
theorem dX9_touchRole_21 : decode cX9_touchRole 21 = .ok (.iload_n 2, 1) := by decide +kernel
theorem dX9_touchRole_22 : decode cX9_touchRole 22 = .ok (.iadd, 1) := by decide +kernel
theorem dX9_touchRole_23 : decode cX9_touchRole 23 = .ok (.baload, 1) := by decide +kernel
theorem dX9_touchRole_24 : decode cX9_touchRole 24 = .ok (.ifCond .eq 5, 3) := by decide +kernel
theorem dX9_touchRole_27 : decode cX9_touchRole 27 = .ok (.iconst 0, 1) := by decide +kernel
theorem dX9_touchRole_28 : decode cX9_touchRole 28 = .ok (.ireturn, 1) := by decide +kernel
theorem dX9_touchRole_29 : decode cX9_touchRole 29 = .ok (.aload_n 0, 1) := by decide +kernel
theorem dX9_touchRole_30 : decode cX9_touchRole 30 = .ok (.getfield 215, 3) := by decide +kernel
theorem dX9_touchRole_33 : decode cX9_touchRole 33 = .ok (.bipush 24, 2) := by decide +kernel
theorem dX9_touchRole_35 : decode cX9_touchRole 35 = .ok (.iload_n 1, 1) := by decide +kernel
theorem dX9_touchRole_36 : decode cX9_touchRole 36 = .ok (.imul, 1) := by decide +kernel
theorem dX9_touchRole_37 : decode cX9_touchRole 37 = .ok (.iload_n 2, 1) := by decide +kernel
theorem dX9_touchRole_38 : decode cX9_touchRole 38 = .ok (.iadd, 1) := by decide +kernel
theorem dX9_touchRole_39 : decode cX9_touchRole 39 = .ok (.iconst 1, 1) := by decide +kernel
theorem dX9_touchRole_40 : decode cX9_touchRole 40 = .ok (.bastore, 1) := by decide +kernel
theorem dX9_touchRole_41 : decode cX9_touchRole 41 = .ok (.iconst 0, 1) := by decide +kernel
theorem dX9_touchRole_42 : decode cX9_touchRole 42 = .ok (.istore 5, 2) := by decide +kernel
theorem dX9_touchRole_44 : decode cX9_touchRole 44 = .ok (.iload 5, 2) := by decide +kernel
theorem dX9_touchRole_46 : decode cX9_touchRole 46 = .ok (.aload_n 0, 1) := by decide +kernel
theorem dX9_touchRole_47 : decode cX9_touchRole 47 = .ok (.getfield 74, 3) := by decide +kernel
theorem dX9_touchRole_50 : decode cX9_touchRole 50 = .ok (.iload_n 3, 1) := by decide +kernel
theorem dX9_touchRole_51 : decode cX9_touchRole 51 = .ok (.iaload, 1) := by decide +kernel
theorem dX9_touchRole_52 : decode cX9_touchRole 52 = .ok (.if_icmp .ge 33, 3) := by decide +kernel
theorem dX9_touchRole_55 : decode cX9_touchRole 55 = .ok (.iload 4, 2) := by decide +kernel
theorem dX9_touchRole_57 : decode cX9_touchRole 57 = .ok (.ifCond .ne 28, 3) := by decide +kernel
theorem dX9_touchRole_60 : decode cX9_touchRole 60 = .ok (.aload_n 0, 1) := by decide +kernel
theorem dX9_touchRole_61 : decode cX9_touchRole 61 = .ok (.iload_n 1, 1) := by decide +kernel
theorem dX9_touchRole_62 : decode cX9_touchRole 62 = .ok (.aload_n 0, 1) := by decide +kernel
theorem dX9_touchRole_63 : decode cX9_touchRole 63 = .ok (.getfield 77, 3) := by decide +kernel
theorem dX9_touchRole_66 : decode cX9_touchRole 66 = .ok (.bipush 6, 2) := by decide +kernel
theorem dX9_touchRole_68 : decode cX9_touchRole 68 = .ok (.iload_n 3, 1) := by decide +kernel
theorem dX9_touchRole_69 : decode cX9_touchRole 69 = .ok (.imul, 1) := by decide +kernel
theorem dX9_touchRole_70 : decode cX9_touchRole 70 = .ok (.iload 5, 2) := by decide +kernel
theorem dX9_touchRole_72 : decode cX9_touchRole 72 = .ok (.iadd, 1) := by decide +kernel
theorem dX9_touchRole_73 : decode cX9_touchRole 73 = .ok (.iaload, 1) := by decide +kernel
theorem dX9_touchRole_74 : decode cX9_touchRole 74 = .ok (.invokevirtual 506, 3) := by decide +kernel
theorem dX9_touchRole_77 : decode cX9_touchRole 77 = .ok (.istore 4, 2) := by decide +kernel
theorem dX9_touchRole_79 : decode cX9_touchRole 79 = .ok (.iinc 5 1, 3) := by decide +kernel
theorem dX9_touchRole_82 : decode cX9_touchRole 82 = .ok (.goto (-38), 3) := by decide +kernel
theorem dX9_touchRole_85 : decode cX9_touchRole 85 = .ok (.iload 4, 2) := by decide +kernel
theorem dX9_touchRole_87 : decode cX9_touchRole 87 = .ok (.ifCond .ne 20, 3) := by decide +kernel
theorem dX9_touchRole_90 : decode cX9_touchRole 90 = .ok (.aload_n 0, 1) := by decide +kernel
theorem dX9_touchRole_91 : decode cX9_touchRole 91 = .ok (.getfield 68, 3) := by decide +kernel
theorem dX9_touchRole_94 : decode cX9_touchRole 94 = .ok (.iload_n 3, 1) := by decide +kernel
theorem dX9_touchRole_95 : decode cX9_touchRole 95 = .ok (.baload, 1) := by decide +kernel
theorem dX9_touchRole_96 : decode cX9_touchRole 96 = .ok (.ifCond .eq 11, 3) := by decide +kernel
theorem dX9_touchRole_99 : decode cX9_touchRole 99 = .ok (.aload_n 0, 1) := by decide +kernel
theorem dX9_touchRole_100 : decode cX9_touchRole 100 = .ok (.iload_n 2, 1) := by decide +kernel
theorem dX9_touchRole_101 : decode cX9_touchRole 101 = .ok (.invokevirtual 503, 3) := by decide +kernel
theorem dX9_touchRole_104 : decode cX9_touchRole 104 = .ok (.goto 5, 3) := by decide +kernel
theorem dX9_touchRole_107 : decode cX9_touchRole 107 = .ok (.iload 4, 2) := by decide +kernel
theorem dX9_touchRole_109 : decode cX9_touchRole 109 = .ok (.ireturn, 1) := by decide +kernel
theorem dX9_step_0 : decode cX9_step 0 = .ok (.aload_n 0, 1) := by decide +kernel
theorem dX9_step_1 : decode cX9_step 1 = .ok (.getfield 516, 3) := by decide +kernel
theorem dX9_step_4 : decode cX9_step 4 = .ok (.aload_n 0, 1) := by decide +kernel
theorem dX9_step_5 : decode cX9_step 5 = .ok (.getfield 519, 3) := by decide +kernel
theorem dX9_step_8 : decode cX9_step 8 = .ok (.if_icmp .ge 13, 3) := by decide +kernel
theorem dX9_step_11 : decode cX9_step 11 = .ok (.aload_n 0, 1) := by decide +kernel
theorem dX9_step_12 : decode cX9_step 12 = .ok (.getfield 522, 3) := by decide +kernel
theorem dX9_step_15 : decode cX9_step 15 = .ok (.ldc_w 525, 3) := by decide +kernel
theorem dX9_step_18 : decode cX9_step 18 = .ok (.if_icmp .ne 5, 3) := by decide +kernel
theorem dX9_step_21 : decode cX9_step 21 = .ok (.iconst 0, 1) := by decide +kernel
theorem dX9_step_22 : decode cX9_step 22 = .ok (.ireturn, 1) := by decide +kernel
theorem dX9_step_23 : decode cX9_step 23 = .ok (.aload_n 0, 1) := by decide +kernel
theorem dX9_step_24 : decode cX9_step 24 = .ok (.dup, 1) := by decide +kernel
theorem dX9_step_25 : decode cX9_step 25 = .ok (.getfield 516, 3) := by decide +kernel
theorem dX9_step_28 : decode cX9_step 28 = .ok (.iconst 1, 1) := by decide +kernel
theorem dX9_step_29 : decode cX9_step 29 = .ok (.iadd, 1) := by decide +kernel
theorem dX9_step_30 : decode cX9_step 30 = .ok (.putfield 516, 3) := by decide +kernel
theorem dX9_step_33 : decode cX9_step 33 = .ok (.aload_n 0, 1) := by decide +kernel
theorem dX9_step_34 : decode cX9_step 34 = .ok (.dup, 1) := by decide +kernel
theorem dX9_step_35 : decode cX9_step 35 = .ok (.getfield 522, 3) := by decide +kernel
theorem dX9_step_38 : decode cX9_step 38 = .ok (.iconst 1, 1) := by decide +kernel
theorem dX9_step_39 : decode cX9_step 39 = .ok (.iadd, 1) := by decide +kernel
theorem dX9_step_40 : decode cX9_step 40 = .ok (.putfield 522, 3) := by decide +kernel
theorem dX9_step_43 : decode cX9_step 43 = .ok (.iconst 1, 1) := by decide +kernel
theorem dX9_step_44 : decode cX9_step 44 = .ok (.ireturn, 1) := by decide +kernel
theorem dX9_works_0 : decode cX9_works 0 = .ok (.aload_n 0, 1) := by decide +kernel
theorem dX9_works_1 : decode cX9_works 1 = .ok (.getfield 526, 3) := by decide +kernel
theorem dX9_works_4 : decode cX9_works 4 = .ok (.istore 4, 2) := by decide +kernel
theorem dX9_works_6 : decode cX9_works 6 = .ok (.aload_n 0, 1) := by decide +kernel
theorem dX9_works_7 : decode cX9_works 7 = .ok (.getfield 529, 3) := by decide +kernel
theorem dX9_works_10 : decode cX9_works 10 = .ok (.istore 5, 2) := by decide +kernel
theorem dX9_works_12 : decode cX9_works 12 = .ok (.aload_n 0, 1) := by decide +kernel
theorem dX9_works_13 : decode cX9_works 13 = .ok (.getfield 532, 3) := by decide +kernel
theorem dX9_works_16 : decode cX9_works 16 = .ok (.istore 6, 2) := by decide +kernel
theorem dX9_works_18 : decode cX9_works 18 = .ok (.aload_n 0, 1) := by decide +kernel
theorem dX9_works_19 : decode cX9_works 19 = .ok (.getfield 535, 3) := by decide +kernel
theorem dX9_works_22 : decode cX9_works 22 = .ok (.istore 7, 2) := by decide +kernel
theorem dX9_works_24 : decode cX9_works 24 = .ok (.aload_n 0, 1) := by decide +kernel
theorem dX9_works_25 : decode cX9_works 25 = .ok (.iload_n 1, 1) := by decide +kernel
theorem dX9_works_26 : decode cX9_works 26 = .ok (.putfield 526, 3) := by decide +kernel
theorem dX9_works_29 : decode cX9_works 29 = .ok (.aload_n 0, 1) := by decide +kernel
theorem dX9_works_30 : decode cX9_works 30 = .ok (.iconst 0, 1) := by decide +kernel
theorem dX9_works_31 : decode cX9_works 31 = .ok (.putfield 529, 3) := by decide +kernel
theorem dX9_works_34 : decode cX9_works 34 = .ok (.iconst 0, 1) := by decide +kernel
theorem dX9_works_35 : decode cX9_works 35 = .ok (.istore 8, 2) := by decide +kernel
theorem dX9_works_37 : decode cX9_works 37 = .ok (.iload 8, 2) := by decide +kernel
theorem dX9_works_39 : decode cX9_works 39 = .ok (.ifCond .ne 118, 3) := by decide +kernel
theorem dX9_works_42 : decode cX9_works 42 = .ok (.aload_n 0, 1) := by decide +kernel
theorem dX9_works_43 : decode cX9_works 43 = .ok (.getfield 119, 3) := by decide +kernel
theorem dX9_works_46 : decode cX9_works 46 = .ok (.aload_n 0, 1) := by decide +kernel
theorem dX9_works_47 : decode cX9_works 47 = .ok (.getfield 526, 3) := by decide +kernel
theorem dX9_works_50 : decode cX9_works 50 = .ok (.iaload, 1) := by decide +kernel
theorem dX9_works_51 : decode cX9_works 51 = .ok (.ifCond .eq 106, 3) := by decide +kernel
theorem dX9_works_54 : decode cX9_works 54 = .ok (.aload_n 0, 1) := by decide +kernel
theorem dX9_works_55 : decode cX9_works 55 = .ok (.getfield 526, 3) := by decide +kernel
theorem dX9_works_58 : decode cX9_works 58 = .ok (.istore 9, 2) := by decide +kernel
theorem dX9_works_60 : decode cX9_works 60 = .ok (.aload_n 0, 1) := by decide +kernel
theorem dX9_works_61 : decode cX9_works 61 = .ok (.dup, 1) := by decide +kernel
theorem dX9_works_62 : decode cX9_works 62 = .ok (.getfield 526, 3) := by decide +kernel
theorem dX9_works_65 : decode cX9_works 65 = .ok (.iconst 1, 1) := by decide +kernel
theorem dX9_works_66 : decode cX9_works 66 = .ok (.iadd, 1) := by decide +kernel
theorem dX9_works_67 : decode cX9_works 67 = .ok (.putfield 526, 3) := by decide +kernel
theorem dX9_works_70 : decode cX9_works 70 = .ok (.aload_n 0, 1) := by decide +kernel
theorem dX9_works_71 : decode cX9_works 71 = .ok (.aload_n 0, 1) := by decide +kernel
theorem dX9_works_72 : decode cX9_works 72 = .ok (.getfield 119, 3) := by decide +kernel
theorem dX9_works_75 : decode cX9_works 75 = .ok (.iload 9, 2) := by decide +kernel
theorem dX9_works_77 : decode cX9_works 77 = .ok (.iaload, 1) := by decide +kernel
theorem dX9_works_78 : decode cX9_works 78 = .ok (.aload_n 0, 1) := by decide +kernel
theorem dX9_works_79 : decode cX9_works 79 = .ok (.getfield 122, 3) := by decide +kernel
theorem dX9_works_82 : decode cX9_works 82 = .ok (.iload 9, 2) := by decide +kernel
theorem dX9_works_84 : decode cX9_works 84 = .ok (.iaload, 1) := by decide +kernel
theorem dX9_works_85 : decode cX9_works 85 = .ok (.aload_n 0, 1) := by decide +kernel
theorem dX9_works_86 : decode cX9_works 86 = .ok (.getfield 125, 3) := by decide +kernel
theorem dX9_works_89 : decode cX9_works 89 = .ok (.iload 9, 2) := by decide +kernel
theorem dX9_works_91 : decode cX9_works 91 = .ok (.iaload, 1) := by decide +kernel
theorem dX9_works_92 : decode cX9_works 92 = .ok (.iload_n 2, 1) := by decide +kernel
theorem dX9_works_93 : decode cX9_works 93 = .ok (.iload_n 3, 1) := by decide +kernel
theorem dX9_works_94 : decode cX9_works 94 = .ok (.invokevirtual 538, 3) := by decide +kernel
theorem dX9_works_97 : decode cX9_works 97 = .ok (.istore 8, 2) := by decide +kernel
theorem dX9_works_99 : decode cX9_works 99 = .ok (.iload 8, 2) := by decide +kernel
theorem dX9_works_101 : decode cX9_works 101 = .ok (.iconst 1, 1) := by decide +kernel
theorem dX9_works_102 : decode cX9_works 102 = .ok (.if_icmp .ne 52, 3) := by decide +kernel
theorem dX9_works_105 : decode cX9_works 105 = .ok (.aload_n 0, 1) := by decide +kernel
theorem dX9_works_106 : decode cX9_works 106 = .ok (.getfield 535, 3) := by decide +kernel
theorem dX9_works_109 : decode cX9_works 109 = .ok (.iload 7, 2) := by decide +kernel
theorem dX9_works_111 : decode cX9_works 111 = .ok (.if_icmp .le 43, 3) := by decide +kernel
theorem dX9_works_114 : decode cX9_works 114 = .ok (.aload_n 0, 1) := by decide +kernel
theorem dX9_works_115 : decode cX9_works 115 = .ok (.dup, 1) := by decide +kernel
theorem dX9_works_116 : decode cX9_works 116 = .ok (.getfield 535, 3) := by decide +kernel
theorem dX9_works_119 : decode cX9_works 119 = .ok (.iconst 1, 1) := by decide +kernel
theorem dX9_works_120 : decode cX9_works 120 = .ok (.isub, 1) := by decide +kernel
theorem dX9_works_121 : decode cX9_works 121 = .ok (.putfield 535, 3) := by decide +kernel
theorem dX9_works_124 : decode cX9_works 124 = .ok (.aload_n 0, 1) := by decide +kernel
theorem dX9_works_125 : decode cX9_works 125 = .ok (.aload_n 0, 1) := by decide +kernel
theorem dX9_works_126 : decode cX9_works 126 = .ok (.getfield 221, 3) := by decide +kernel
theorem dX9_works_129 : decode cX9_works 129 = .ok (.aload_n 0, 1) := by decide +kernel
theorem dX9_works_130 : decode cX9_works 130 = .ok (.getfield 535, 3) := by decide +kernel
theorem dX9_works_133 : decode cX9_works 133 = .ok (.iaload, 1) := by decide +kernel
theorem dX9_works_134 : decode cX9_works 134 = .ok (.putfield 526, 3) := by decide +kernel
theorem dX9_works_137 : decode cX9_works 137 = .ok (.aload_n 0, 1) := by decide +kernel
theorem dX9_works_138 : decode cX9_works 138 = .ok (.iload 6, 2) := by decide +kernel
theorem dX9_works_140 : decode cX9_works 140 = .ok (.putfield 532, 3) := by decide +kernel
theorem dX9_works_143 : decode cX9_works 143 = .ok (.aload_n 0, 1) := by decide +kernel
theorem dX9_works_144 : decode cX9_works 144 = .ok (.aload_n 0, 1) := by decide +kernel
theorem dX9_works_145 : decode cX9_works 145 = .ok (.getfield 491, 3) := by decide +kernel
theorem dX9_works_148 : decode cX9_works 148 = .ok (.putfield 529, 3) := by decide +kernel
theorem dX9_works_151 : decode cX9_works 151 = .ok (.iconst 0, 1) := by decide +kernel
theorem dX9_works_152 : decode cX9_works 152 = .ok (.istore 8, 2) := by decide +kernel
theorem dX9_works_154 : decode cX9_works 154 = .ok (.goto (-117), 3) := by decide +kernel
theorem dX9_works_157 : decode cX9_works 157 = .ok (.aload_n 0, 1) := by decide +kernel
theorem dX9_works_158 : decode cX9_works 158 = .ok (.iload 4, 2) := by decide +kernel
theorem dX9_works_160 : decode cX9_works 160 = .ok (.putfield 526, 3) := by decide +kernel
theorem dX9_works_163 : decode cX9_works 163 = .ok (.aload_n 0, 1) := by decide +kernel
theorem dX9_works_164 : decode cX9_works 164 = .ok (.iload 5, 2) := by decide +kernel
theorem dX9_works_166 : decode cX9_works 166 = .ok (.putfield 529, 3) := by decide +kernel
theorem dX9_works_169 : decode cX9_works 169 = .ok (.aload_n 0, 1) := by decide +kernel
theorem dX9_works_170 : decode cX9_works 170 = .ok (.iload 6, 2) := by decide +kernel
theorem dX9_works_172 : decode cX9_works 172 = .ok (.putfield 532, 3) := by decide +kernel
theorem dX9_works_175 : decode cX9_works 175 = .ok (.aload_n 0, 1) := by decide +kernel
theorem dX9_works_176 : decode cX9_works 176 = .ok (.iload 7, 2) := by decide +kernel
theorem dX9_works_178 : decode cX9_works 178 = .ok (.putfield 535, 3) := by decide +kernel
theorem dX9_works_181 : decode cX9_works 181 = .ok (.iload 8, 2) := by decide +kernel
theorem dX9_works_183 : decode cX9_works 183 = .ok (.ireturn, 1) := by decide +kernel
theorem dX9_push_0 : decode cX9_push 0 = .ok (.aload_n 0, 1) := by decide +kernel
theorem dX9_push_1 : decode cX9_push 1 = .ok (.getfield 218, 3) := by decide +kernel
theorem dX9_push_4 : decode cX9_push 4 = .ok (.aload_n 0, 1) := by decide +kernel
theorem dX9_push_5 : decode cX9_push 5 = .ok (.getfield 532, 3) := by decide +kernel
theorem dX9_push_8 : decode cX9_push 8 = .ok (.iload_n 1, 1) := by decide +kernel
theorem dX9_push_9 : decode cX9_push 9 = .ok (.iastore, 1) := by decide +kernel
theorem dX9_push_10 : decode cX9_push 10 = .ok (.aload_n 0, 1) := by decide +kernel
theorem dX9_push_11 : decode cX9_push 11 = .ok (.dup, 1) := by decide +kernel
theorem dX9_push_12 : decode cX9_push 12 = .ok (.getfield 532, 3) := by decide +kernel
theorem dX9_push_15 : decode cX9_push 15 = .ok (.iconst 1, 1) := by decide +kernel
theorem dX9_push_16 : decode cX9_push 16 = .ok (.iadd, 1) := by decide +kernel
theorem dX9_push_17 : decode cX9_push 17 = .ok (.putfield 532, 3) := by decide +kernel
theorem dX9_push_20 : decode cX9_push 20 = .ok (.return_, 1) := by decide +kernel
theorem dX9_pop_0 : decode cX9_pop 0 = .ok (.aload_n 0, 1) := by decide +kernel
theorem dX9_pop_1 : decode cX9_pop 1 = .ok (.dup, 1) := by decide +kernel
theorem dX9_pop_2 : decode cX9_pop 2 = .ok (.getfield 532, 3) := by decide +kernel
theorem dX9_pop_5 : decode cX9_pop 5 = .ok (.iconst 1, 1) := by decide +kernel
theorem dX9_pop_6 : decode cX9_pop 6 = .ok (.isub, 1) := by decide +kernel
theorem dX9_pop_7 : decode cX9_pop 7 = .ok (.putfield 532, 3) := by decide +kernel
theorem dX9_pop_10 : decode cX9_pop 10 = .ok (.aload_n 0, 1) := by decide +kernel
theorem dX9_pop_11 : decode cX9_pop 11 = .ok (.getfield 218, 3) := by decide +kernel
theorem dX9_pop_14 : decode cX9_pop 14 = .ok (.aload_n 0, 1) := by decide +kernel
theorem dX9_pop_15 : decode cX9_pop 15 = .ok (.getfield 532, 3) := by decide +kernel
theorem dX9_pop_18 : decode cX9_pop 18 = .ok (.iaload, 1) := by decide +kernel
theorem dX9_pop_19 : decode cX9_pop 19 = .ok (.ireturn, 1) := by decide +kernel
theorem dX9_uses_0 : decode cX9_uses 0 = .ok (.aload_n 0, 1) := by decide +kernel
theorem dX9_uses_1 : decode cX9_uses 1 = .ok (.iload_n 1, 1) := by decide +kernel
theorem dX9_uses_2 : decode cX9_uses 2 = .ok (.iload_n 2, 1) := by decide +kernel
theorem dX9_uses_3 : decode cX9_uses 3 = .ok (.iload_n 3, 1) := by decide +kernel
theorem dX9_uses_4 : decode cX9_uses 4 = .ok (.invokevirtual 542, 3) := by decide +kernel
theorem dX9_uses_7 : decode cX9_uses 7 = .ok (.iload_n 3, 1) := by decide +kernel
theorem dX9_uses_8 : decode cX9_uses 8 = .ok (.ifCond .eq 7, 3) := by decide +kernel
theorem dX9_uses_11 : decode cX9_uses 11 = .ok (.iconst 0, 1) := by decide +kernel
theorem dX9_uses_12 : decode cX9_uses 12 = .ok (.goto 8, 3) := by decide +kernel
theorem dX9_uses_15 : decode cX9_uses 15 = .ok (.aload_n 0, 1) := by decide +kernel
theorem dX9_uses_16 : decode cX9_uses 16 = .ok (.iload_n 1, 1) := by decide +kernel
theorem dX9_uses_17 : decode cX9_uses 17 = .ok (.invokevirtual 503, 3) := by decide +kernel
theorem dX9_uses_20 : decode cX9_uses 20 = .ok (.ireturn, 1) := by decide +kernel
theorem dX9_noteNeed_0 : decode cX9_noteNeed 0 = .ok (.iload_n 2, 1) := by decide +kernel
theorem dX9_noteNeed_1 : decode cX9_noteNeed 1 = .ok (.ifCond .lt 12, 3) := by decide +kernel
theorem dX9_noteNeed_4 : decode cX9_noteNeed 4 = .ok (.iload_n 2, 1) := by decide +kernel
theorem dX9_noteNeed_5 : decode cX9_noteNeed 5 = .ok (.iload_n 1, 1) := by decide +kernel
theorem dX9_noteNeed_6 : decode cX9_noteNeed 6 = .ok (.if_icmp .eq 7, 3) := by decide +kernel
theorem dX9_noteNeed_9 : decode cX9_noteNeed 9 = .ok (.iload_n 3, 1) := by decide +kernel
theorem dX9_noteNeed_10 : decode cX9_noteNeed 10 = .ok (.ifCond .eq 7, 3) := by decide +kernel
theorem dX9_noteNeed_13 : decode cX9_noteNeed 13 = .ok (.iconst 1, 1) := by decide +kernel
theorem dX9_noteNeed_14 : decode cX9_noteNeed 14 = .ok (.goto 4, 3) := by decide +kernel
theorem dX9_noteNeed_17 : decode cX9_noteNeed 17 = .ok (.iconst 0, 1) := by decide +kernel
theorem dX9_noteNeed_18 : decode cX9_noteNeed 18 = .ok (.istore 4, 2) := by decide +kernel
theorem dX9_noteNeed_20 : decode cX9_noteNeed 20 = .ok (.iconst 0, 1) := by decide +kernel
theorem dX9_noteNeed_21 : decode cX9_noteNeed 21 = .ok (.istore 5, 2) := by decide +kernel
theorem dX9_noteNeed_23 : decode cX9_noteNeed 23 = .ok (.iload 4, 2) := by decide +kernel
theorem dX9_noteNeed_25 : decode cX9_noteNeed 25 = .ok (.ifCond .ne 43, 3) := by decide +kernel
theorem dX9_noteNeed_28 : decode cX9_noteNeed 28 = .ok (.iload 5, 2) := by decide +kernel
theorem dX9_noteNeed_30 : decode cX9_noteNeed 30 = .ok (.aload_n 0, 1) := by decide +kernel
theorem dX9_noteNeed_31 : decode cX9_noteNeed 31 = .ok (.getfield 164, 3) := by decide +kernel
theorem dX9_noteNeed_34 : decode cX9_noteNeed 34 = .ok (.iload_n 2, 1) := by decide +kernel
theorem dX9_noteNeed_35 : decode cX9_noteNeed 35 = .ok (.iaload, 1) := by decide +kernel
theorem dX9_noteNeed_36 : decode cX9_noteNeed 36 = .ok (.if_icmp .ge 32, 3) := by decide +kernel
theorem dX9_noteNeed_39 : decode cX9_noteNeed 39 = .ok (.aload_n 0, 1) := by decide +kernel
theorem dX9_noteNeed_40 : decode cX9_noteNeed 40 = .ok (.getfield 161, 3) := by decide +kernel
theorem dX9_noteNeed_43 : decode cX9_noteNeed 43 = .ok (.bipush 24, 2) := by decide +kernel
theorem dX9_noteNeed_45 : decode cX9_noteNeed 45 = .ok (.iload_n 2, 1) := by decide +kernel
theorem dX9_noteNeed_46 : decode cX9_noteNeed 46 = .ok (.imul, 1) := by decide +kernel
theorem dX9_noteNeed_47 : decode cX9_noteNeed 47 = .ok (.iload 5, 2) := by decide +kernel
theorem dX9_noteNeed_49 : decode cX9_noteNeed 49 = .ok (.iadd, 1) := by decide +kernel
theorem dX9_noteNeed_50 : decode cX9_noteNeed 50 = .ok (.iaload, 1) := by decide +kernel
theorem dX9_noteNeed_51 : decode cX9_noteNeed 51 = .ok (.iload_n 1, 1) := by decide +kernel
theorem dX9_noteNeed_52 : decode cX9_noteNeed 52 = .ok (.if_icmp .ne 7, 3) := by decide +kernel
theorem dX9_noteNeed_55 : decode cX9_noteNeed 55 = .ok (.iconst 1, 1) := by decide +kernel
theorem dX9_noteNeed_56 : decode cX9_noteNeed 56 = .ok (.goto 4, 3) := by decide +kernel
theorem dX9_noteNeed_59 : decode cX9_noteNeed 59 = .ok (.iconst 0, 1) := by decide +kernel
theorem dX9_noteNeed_60 : decode cX9_noteNeed 60 = .ok (.istore 4, 2) := by decide +kernel
theorem dX9_noteNeed_62 : decode cX9_noteNeed 62 = .ok (.iinc 5 1, 3) := by decide +kernel
theorem dX9_noteNeed_65 : decode cX9_noteNeed 65 = .ok (.goto (-42), 3) := by decide +kernel
theorem dX9_noteNeed_68 : decode cX9_noteNeed 68 = .ok (.iload 4, 2) := by decide +kernel
theorem dX9_noteNeed_70 : decode cX9_noteNeed 70 = .ok (.ifCond .ne 30, 3) := by decide +kernel
theorem dX9_noteNeed_73 : decode cX9_noteNeed 73 = .ok (.aload_n 0, 1) := by decide +kernel
theorem dX9_noteNeed_74 : decode cX9_noteNeed 74 = .ok (.getfield 161, 3) := by decide +kernel
theorem dX9_noteNeed_77 : decode cX9_noteNeed 77 = .ok (.bipush 24, 2) := by decide +kernel
theorem dX9_noteNeed_79 : decode cX9_noteNeed 79 = .ok (.iload_n 2, 1) := by decide +kernel
theorem dX9_noteNeed_80 : decode cX9_noteNeed 80 = .ok (.imul, 1) := by decide +kernel
theorem dX9_noteNeed_81 : decode cX9_noteNeed 81 = .ok (.aload_n 0, 1) := by decide +kernel
theorem dX9_noteNeed_82 : decode cX9_noteNeed 82 = .ok (.getfield 164, 3) := by decide +kernel
theorem dX9_noteNeed_85 : decode cX9_noteNeed 85 = .ok (.iload_n 2, 1) := by decide +kernel
theorem dX9_noteNeed_86 : decode cX9_noteNeed 86 = .ok (.iaload, 1) := by decide +kernel
theorem dX9_noteNeed_87 : decode cX9_noteNeed 87 = .ok (.iadd, 1) := by decide +kernel
theorem dX9_noteNeed_88 : decode cX9_noteNeed 88 = .ok (.iload_n 1, 1) := by decide +kernel
theorem dX9_noteNeed_89 : decode cX9_noteNeed 89 = .ok (.iastore, 1) := by decide +kernel
theorem dX9_noteNeed_90 : decode cX9_noteNeed 90 = .ok (.aload_n 0, 1) := by decide +kernel
theorem dX9_noteNeed_91 : decode cX9_noteNeed 91 = .ok (.getfield 164, 3) := by decide +kernel
theorem dX9_noteNeed_94 : decode cX9_noteNeed 94 = .ok (.iload_n 2, 1) := by decide +kernel
theorem dX9_noteNeed_95 : decode cX9_noteNeed 95 = .ok (.dup2, 1) := by decide +kernel
theorem dX9_noteNeed_96 : decode cX9_noteNeed 96 = .ok (.iaload, 1) := by decide +kernel
theorem dX9_noteNeed_97 : decode cX9_noteNeed 97 = .ok (.iconst 1, 1) := by decide +kernel
theorem dX9_noteNeed_98 : decode cX9_noteNeed 98 = .ok (.iadd, 1) := by decide +kernel
theorem dX9_noteNeed_99 : decode cX9_noteNeed 99 = .ok (.iastore, 1) := by decide +kernel
theorem dX9_noteNeed_100 : decode cX9_noteNeed 100 = .ok (.return_, 1) := by decide +kernel
theorem dX9_work_0 : decode cX9_work 0 = .ok (.iconst 0, 1) := by decide +kernel
theorem dX9_work_1 : decode cX9_work 1 = .ok (.istore 6, 2) := by decide +kernel
theorem dX9_work_3 : decode cX9_work 3 = .ok (.iload_n 1, 1) := by decide +kernel
theorem dX9_work_4 : decode cX9_work 4 = .ok (.tableswitch 315 1 13 #[68, 81, 88, 122, 166, 200, 210, 222, 241, 248, 255, 276, 298], 68) := by decide +kernel
theorem dX9_work_72 : decode cX9_work 72 = .ok (.aload_n 0, 1) := by decide +kernel
theorem dX9_work_73 : decode cX9_work 73 = .ok (.invokevirtual 546, 3) := by decide +kernel
theorem dX9_work_76 : decode cX9_work 76 = .ok (.ifCond .eq 7, 3) := by decide +kernel
theorem dX9_work_79 : decode cX9_work 79 = .ok (.iconst 0, 1) := by decide +kernel
theorem dX9_work_80 : decode cX9_work 80 = .ok (.goto 4, 3) := by decide +kernel
theorem dX9_work_83 : decode cX9_work 83 = .ok (.iconst 2, 1) := by decide +kernel
theorem dX9_work_84 : decode cX9_work 84 = .ok (.ireturn, 1) := by decide +kernel
theorem dX9_work_85 : decode cX9_work 85 = .ok (.aload_n 0, 1) := by decide +kernel
theorem dX9_work_86 : decode cX9_work 86 = .ok (.iload_n 2, 1) := by decide +kernel
theorem dX9_work_87 : decode cX9_work 87 = .ok (.invokevirtual 549, 3) := by decide +kernel
theorem dX9_work_90 : decode cX9_work 90 = .ok (.iconst 0, 1) := by decide +kernel
theorem dX9_work_91 : decode cX9_work 91 = .ok (.ireturn, 1) := by decide +kernel
theorem dX9_work_92 : decode cX9_work 92 = .ok (.aload_n 0, 1) := by decide +kernel
theorem dX9_work_93 : decode cX9_work 93 = .ok (.iload_n 2, 1) := by decide +kernel
theorem dX9_work_94 : decode cX9_work 94 = .ok (.iload 4, 2) := by decide +kernel
theorem dX9_work_96 : decode cX9_work 96 = .ok (.iload 5, 2) := by decide +kernel
theorem dX9_work_98 : decode cX9_work 98 = .ok (.invokevirtual 542, 3) := by decide +kernel
theorem dX9_work_101 : decode cX9_work 101 = .ok (.aload_n 0, 1) := by decide +kernel
theorem dX9_work_102 : decode cX9_work 102 = .ok (.aload_n 0, 1) := by decide +kernel
theorem dX9_work_103 : decode cX9_work 103 = .ok (.getfield 89, 3) := by decide +kernel
theorem dX9_work_106 : decode cX9_work 106 = .ok (.bipush 8, 2) := by decide +kernel
theorem dX9_work_108 : decode cX9_work 108 = .ok (.bipush 24, 2) := by decide +kernel
theorem dX9_work_110 : decode cX9_work 110 = .ok (.aload_n 0, 1) := by decide +kernel
theorem dX9_work_111 : decode cX9_work 111 = .ok (.getfield 307, 3) := by decide +kernel
theorem dX9_work_114 : decode cX9_work 114 = .ok (.imul, 1) := by decide +kernel
theorem dX9_work_115 : decode cX9_work 115 = .ok (.iload_n 2, 1) := by decide +kernel
theorem dX9_work_116 : decode cX9_work 116 = .ok (.iadd, 1) := by decide +kernel
theorem dX9_work_117 : decode cX9_work 117 = .ok (.imul, 1) := by decide +kernel
theorem dX9_work_118 : decode cX9_work 118 = .ok (.iload_n 3, 1) := by decide +kernel
theorem dX9_work_119 : decode cX9_work 119 = .ok (.iadd, 1) := by decide +kernel
theorem dX9_work_120 : decode cX9_work 120 = .ok (.iaload, 1) := by decide +kernel
theorem dX9_work_121 : decode cX9_work 121 = .ok (.invokevirtual 549, 3) := by decide +kernel
theorem dX9_work_124 : decode cX9_work 124 = .ok (.iconst 0, 1) := by decide +kernel
theorem dX9_work_125 : decode cX9_work 125 = .ok (.ireturn, 1) := by decide +kernel
theorem dX9_work_126 : decode cX9_work 126 = .ok (.aload_n 0, 1) := by decide +kernel
theorem dX9_work_127 : decode cX9_work 127 = .ok (.iload_n 2, 1) := by decide +kernel
theorem dX9_work_128 : decode cX9_work 128 = .ok (.iload 4, 2) := by decide +kernel
theorem dX9_work_130 : decode cX9_work 130 = .ok (.iload 5, 2) := by decide +kernel
theorem dX9_work_132 : decode cX9_work 132 = .ok (.invokevirtual 552, 3) := by decide +kernel
theorem dX9_work_135 : decode cX9_work 135 = .ok (.istore 6, 2) := by decide +kernel
theorem dX9_work_137 : decode cX9_work 137 = .ok (.iload 6, 2) := by decide +kernel
theorem dX9_work_139 : decode cX9_work 139 = .ok (.ifCond .ne 28, 3) := by decide +kernel
theorem dX9_work_142 : decode cX9_work 142 = .ok (.aload_n 0, 1) := by decide +kernel
theorem dX9_work_143 : decode cX9_work 143 = .ok (.iload_n 2, 1) := by decide +kernel
theorem dX9_work_144 : decode cX9_work 144 = .ok (.iload_n 3, 1) := by decide +kernel
theorem dX9_work_145 : decode cX9_work 145 = .ok (.iload 4, 2) := by decide +kernel
theorem dX9_work_147 : decode cX9_work 147 = .ok (.iload 5, 2) := by decide +kernel
theorem dX9_work_149 : decode cX9_work 149 = .ok (.invokevirtual 555, 3) := by decide +kernel
theorem dX9_work_152 : decode cX9_work 152 = .ok (.aload_n 0, 1) := by decide +kernel
theorem dX9_work_153 : decode cX9_work 153 = .ok (.aload_n 0, 1) := by decide +kernel
theorem dX9_work_154 : decode cX9_work 154 = .ok (.getfield 152, 3) := by decide +kernel
theorem dX9_work_157 : decode cX9_work 157 = .ok (.bipush 8, 2) := by decide +kernel
theorem dX9_work_159 : decode cX9_work 159 = .ok (.iload_n 2, 1) := by decide +kernel
theorem dX9_work_160 : decode cX9_work 160 = .ok (.imul, 1) := by decide +kernel
theorem dX9_work_161 : decode cX9_work 161 = .ok (.iload_n 3, 1) := by decide +kernel
theorem dX9_work_162 : decode cX9_work 162 = .ok (.iadd, 1) := by decide +kernel
theorem dX9_work_163 : decode cX9_work 163 = .ok (.iaload, 1) := by decide +kernel
theorem dX9_work_164 : decode cX9_work 164 = .ok (.invokevirtual 549, 3) := by decide +kernel
theorem dX9_work_167 : decode cX9_work 167 = .ok (.iload 6, 2) := by decide +kernel
theorem dX9_work_169 : decode cX9_work 169 = .ok (.ireturn, 1) := by decide +kernel
theorem dX9_work_170 : decode cX9_work 170 = .ok (.aload_n 0, 1) := by decide +kernel
theorem dX9_work_171 : decode cX9_work 171 = .ok (.iload_n 2, 1) := by decide +kernel
theorem dX9_work_172 : decode cX9_work 172 = .ok (.iload 4, 2) := by decide +kernel
theorem dX9_work_174 : decode cX9_work 174 = .ok (.iload 5, 2) := by decide +kernel
theorem dX9_work_176 : decode cX9_work 176 = .ok (.invokevirtual 552, 3) := by decide +kernel
theorem dX9_work_179 : decode cX9_work 179 = .ok (.istore 6, 2) := by decide +kernel
theorem dX9_work_181 : decode cX9_work 181 = .ok (.iload 6, 2) := by decide +kernel
theorem dX9_work_183 : decode cX9_work 183 = .ok (.ifCond .ne 18, 3) := by decide +kernel
theorem dX9_work_186 : decode cX9_work 186 = .ok (.aload_n 0, 1) := by decide +kernel
theorem dX9_work_187 : decode cX9_work 187 = .ok (.getfield 152, 3) := by decide +kernel
theorem dX9_work_190 : decode cX9_work 190 = .ok (.bipush 8, 2) := by decide +kernel
theorem dX9_work_192 : decode cX9_work 192 = .ok (.iload_n 2, 1) := by decide +kernel
theorem dX9_work_193 : decode cX9_work 193 = .ok (.imul, 1) := by decide +kernel
theorem dX9_work_194 : decode cX9_work 194 = .ok (.iload_n 3, 1) := by decide +kernel
theorem dX9_work_195 : decode cX9_work 195 = .ok (.iadd, 1) := by decide +kernel
theorem dX9_work_196 : decode cX9_work 196 = .ok (.aload_n 0, 1) := by decide +kernel
theorem dX9_work_197 : decode cX9_work 197 = .ok (.invokevirtual 558, 3) := by decide +kernel
theorem dX9_work_200 : decode cX9_work 200 = .ok (.iastore, 1) := by decide +kernel
theorem dX9_work_201 : decode cX9_work 201 = .ok (.iload 6, 2) := by decide +kernel
theorem dX9_work_203 : decode cX9_work 203 = .ok (.ireturn, 1) := by decide +kernel
theorem dX9_work_204 : decode cX9_work 204 = .ok (.aload_n 0, 1) := by decide +kernel
theorem dX9_work_205 : decode cX9_work 205 = .ok (.iload_n 2, 1) := by decide +kernel
theorem dX9_work_206 : decode cX9_work 206 = .ok (.iload 4, 2) := by decide +kernel
theorem dX9_work_208 : decode cX9_work 208 = .ok (.iload 5, 2) := by decide +kernel
theorem dX9_work_210 : decode cX9_work 210 = .ok (.invokevirtual 552, 3) := by decide +kernel
theorem dX9_work_213 : decode cX9_work 213 = .ok (.ireturn, 1) := by decide +kernel
theorem dX9_work_214 : decode cX9_work 214 = .ok (.aload_n 0, 1) := by decide +kernel
theorem dX9_work_215 : decode cX9_work 215 = .ok (.iload_n 2, 1) := by decide +kernel
theorem dX9_work_216 : decode cX9_work 216 = .ok (.aload_n 0, 1) := by decide +kernel
theorem dX9_work_217 : decode cX9_work 217 = .ok (.invokevirtual 558, 3) := by decide +kernel
theorem dX9_work_220 : decode cX9_work 220 = .ok (.iload 4, 2) := by decide +kernel
theorem dX9_work_222 : decode cX9_work 222 = .ok (.invokevirtual 561, 3) := by decide +kernel
theorem dX9_work_225 : decode cX9_work 225 = .ok (.ireturn, 1) := by decide +kernel
theorem dX9_work_226 : decode cX9_work 226 = .ok (.aload_n 0, 1) := by decide +kernel
theorem dX9_work_227 : decode cX9_work 227 = .ok (.invokevirtual 558, 3) := by decide +kernel
theorem dX9_work_230 : decode cX9_work 230 = .ok (.ifCond .ne 13, 3) := by decide +kernel
theorem dX9_work_233 : decode cX9_work 233 = .ok (.aload_n 0, 1) := by decide +kernel
theorem dX9_work_234 : decode cX9_work 234 = .ok (.bipush 11, 2) := by decide +kernel
theorem dX9_work_236 : decode cX9_work 236 = .ok (.iconst 0, 1) := by decide +kernel
theorem dX9_work_237 : decode cX9_work 237 = .ok (.invokevirtual 497, 3) := by decide +kernel
theorem dX9_work_240 : decode cX9_work 240 = .ok (.goto 4, 3) := by decide +kernel
theorem dX9_work_243 : decode cX9_work 243 = .ok (.iconst 0, 1) := by decide +kernel
theorem dX9_work_244 : decode cX9_work 244 = .ok (.ireturn, 1) := by decide +kernel
theorem dX9_work_245 : decode cX9_work 245 = .ok (.aload_n 0, 1) := by decide +kernel
theorem dX9_work_246 : decode cX9_work 246 = .ok (.iload_n 2, 1) := by decide +kernel
theorem dX9_work_247 : decode cX9_work 247 = .ok (.iconst 0, 1) := by decide +kernel
theorem dX9_work_248 : decode cX9_work 248 = .ok (.invokevirtual 497, 3) := by decide +kernel
theorem dX9_work_251 : decode cX9_work 251 = .ok (.ireturn, 1) := by decide +kernel
theorem dX9_work_252 : decode cX9_work 252 = .ok (.aload_n 0, 1) := by decide +kernel
theorem dX9_work_253 : decode cX9_work 253 = .ok (.iload_n 2, 1) := by decide +kernel
theorem dX9_work_254 : decode cX9_work 254 = .ok (.putfield 526, 3) := by decide +kernel
theorem dX9_work_257 : decode cX9_work 257 = .ok (.iconst 0, 1) := by decide +kernel
theorem dX9_work_258 : decode cX9_work 258 = .ok (.ireturn, 1) := by decide +kernel
theorem dX9_work_259 : decode cX9_work 259 = .ok (.aload_n 0, 1) := by decide +kernel
theorem dX9_work_260 : decode cX9_work 260 = .ok (.aload_n 0, 1) := by decide +kernel
theorem dX9_work_261 : decode cX9_work 261 = .ok (.invokevirtual 558, 3) := by decide +kernel
theorem dX9_work_264 : decode cX9_work 264 = .ok (.ifCond .ne 7, 3) := by decide +kernel
theorem dX9_work_267 : decode cX9_work 267 = .ok (.iload_n 2, 1) := by decide +kernel
theorem dX9_work_268 : decode cX9_work 268 = .ok (.goto 7, 3) := by decide +kernel
theorem dX9_work_271 : decode cX9_work 271 = .ok (.aload_n 0, 1) := by decide +kernel
theorem dX9_work_272 : decode cX9_work 272 = .ok (.getfield 526, 3) := by decide +kernel
theorem dX9_work_275 : decode cX9_work 275 = .ok (.putfield 526, 3) := by decide +kernel
theorem dX9_work_278 : decode cX9_work 278 = .ok (.iconst 0, 1) := by decide +kernel
theorem dX9_work_279 : decode cX9_work 279 = .ok (.ireturn, 1) := by decide +kernel
theorem dX9_work_280 : decode cX9_work 280 = .ok (.aload_n 0, 1) := by decide +kernel
theorem dX9_work_281 : decode cX9_work 281 = .ok (.getfield 221, 3) := by decide +kernel
theorem dX9_work_284 : decode cX9_work 284 = .ok (.aload_n 0, 1) := by decide +kernel
theorem dX9_work_285 : decode cX9_work 285 = .ok (.getfield 535, 3) := by decide +kernel
theorem dX9_work_288 : decode cX9_work 288 = .ok (.iload_n 2, 1) := by decide +kernel
theorem dX9_work_289 : decode cX9_work 289 = .ok (.iastore, 1) := by decide +kernel
theorem dX9_work_290 : decode cX9_work 290 = .ok (.aload_n 0, 1) := by decide +kernel
theorem dX9_work_291 : decode cX9_work 291 = .ok (.dup, 1) := by decide +kernel
theorem dX9_work_292 : decode cX9_work 292 = .ok (.getfield 535, 3) := by decide +kernel
theorem dX9_work_295 : decode cX9_work 295 = .ok (.iconst 1, 1) := by decide +kernel
theorem dX9_work_296 : decode cX9_work 296 = .ok (.iadd, 1) := by decide +kernel
theorem dX9_work_297 : decode cX9_work 297 = .ok (.putfield 535, 3) := by decide +kernel
theorem dX9_work_300 : decode cX9_work 300 = .ok (.iconst 0, 1) := by decide +kernel
theorem dX9_work_301 : decode cX9_work 301 = .ok (.ireturn, 1) := by decide +kernel
theorem dX9_work_302 : decode cX9_work 302 = .ok (.aload_n 0, 1) := by decide +kernel
theorem dX9_work_303 : decode cX9_work 303 = .ok (.dup, 1) := by decide +kernel
theorem dX9_work_304 : decode cX9_work 304 = .ok (.getfield 535, 3) := by decide +kernel
theorem dX9_work_307 : decode cX9_work 307 = .ok (.iconst 1, 1) := by decide +kernel
theorem dX9_work_308 : decode cX9_work 308 = .ok (.isub, 1) := by decide +kernel
theorem dX9_work_309 : decode cX9_work 309 = .ok (.putfield 535, 3) := by decide +kernel
theorem dX9_work_312 : decode cX9_work 312 = .ok (.aload_n 0, 1) := by decide +kernel
theorem dX9_work_313 : decode cX9_work 313 = .ok (.iload_n 2, 1) := by decide +kernel
theorem dX9_work_314 : decode cX9_work 314 = .ok (.putfield 526, 3) := by decide +kernel
theorem dX9_work_317 : decode cX9_work 317 = .ok (.iconst 0, 1) := by decide +kernel
theorem dX9_work_318 : decode cX9_work 318 = .ok (.ireturn, 1) := by decide +kernel
theorem dX9_work_319 : decode cX9_work 319 = .ok (.aload_n 0, 1) := by decide +kernel
theorem dX9_work_320 : decode cX9_work 320 = .ok (.iload_n 1, 1) := by decide +kernel
theorem dX9_work_321 : decode cX9_work 321 = .ok (.iload_n 2, 1) := by decide +kernel
theorem dX9_work_322 : decode cX9_work 322 = .ok (.invokevirtual 563, 3) := by decide +kernel
theorem dX9_work_325 : decode cX9_work 325 = .ok (.ireturn, 1) := by decide +kernel
theorem dX9_noteHalf_0 : decode cX9_noteHalf 0 = .ok (.aload_n 0, 1) := by decide +kernel
theorem dX9_noteHalf_1 : decode cX9_noteHalf 1 = .ok (.getfield 146, 3) := by decide +kernel
theorem dX9_noteHalf_4 : decode cX9_noteHalf 4 = .ok (.iload_n 1, 1) := by decide +kernel
theorem dX9_noteHalf_5 : decode cX9_noteHalf 5 = .ok (.iaload, 1) := by decide +kernel
theorem dX9_noteHalf_6 : decode cX9_noteHalf 6 = .ok (.iconst 1, 1) := by decide +kernel
theorem dX9_noteHalf_7 : decode cX9_noteHalf 7 = .ok (.if_icmp .ne 81, 3) := by decide +kernel
theorem dX9_noteHalf_10 : decode cX9_noteHalf 10 = .ok (.iload_n 3, 1) := by decide +kernel
theorem dX9_noteHalf_11 : decode cX9_noteHalf 11 = .ok (.iload_n 1, 1) := by decide +kernel
theorem dX9_noteHalf_12 : decode cX9_noteHalf 12 = .ok (.if_icmp .eq 76, 3) := by decide +kernel
theorem dX9_noteHalf_15 : decode cX9_noteHalf 15 = .ok (.iload 4, 2) := by decide +kernel
theorem dX9_noteHalf_17 : decode cX9_noteHalf 17 = .ok (.ifCond .ne 71, 3) := by decide +kernel
theorem dX9_noteHalf_20 : decode cX9_noteHalf 20 = .ok (.aload_n 0, 1) := by decide +kernel
theorem dX9_noteHalf_21 : decode cX9_noteHalf 21 = .ok (.getfield 473, 3) := by decide +kernel
theorem dX9_noteHalf_24 : decode cX9_noteHalf 24 = .ok (.sipush 200, 3) := by decide +kernel
theorem dX9_noteHalf_27 : decode cX9_noteHalf 27 = .ok (.if_icmp .ge 51, 3) := by decide +kernel
theorem dX9_noteHalf_30 : decode cX9_noteHalf 30 = .ok (.aload_n 0, 1) := by decide +kernel
theorem dX9_noteHalf_31 : decode cX9_noteHalf 31 = .ok (.getfield 188, 3) := by decide +kernel
theorem dX9_noteHalf_34 : decode cX9_noteHalf 34 = .ok (.aload_n 0, 1) := by decide +kernel
theorem dX9_noteHalf_35 : decode cX9_noteHalf 35 = .ok (.getfield 473, 3) := by decide +kernel
theorem dX9_noteHalf_38 : decode cX9_noteHalf 38 = .ok (.iload_n 3, 1) := by decide +kernel
theorem dX9_noteHalf_39 : decode cX9_noteHalf 39 = .ok (.iastore, 1) := by decide +kernel
theorem dX9_noteHalf_40 : decode cX9_noteHalf 40 = .ok (.aload_n 0, 1) := by decide +kernel
theorem dX9_noteHalf_41 : decode cX9_noteHalf 41 = .ok (.getfield 191, 3) := by decide +kernel
theorem dX9_noteHalf_44 : decode cX9_noteHalf 44 = .ok (.aload_n 0, 1) := by decide +kernel
theorem dX9_noteHalf_45 : decode cX9_noteHalf 45 = .ok (.getfield 473, 3) := by decide +kernel
theorem dX9_noteHalf_48 : decode cX9_noteHalf 48 = .ok (.iload_n 1, 1) := by decide +kernel
theorem dX9_noteHalf_49 : decode cX9_noteHalf 49 = .ok (.iastore, 1) := by decide +kernel
theorem dX9_noteHalf_50 : decode cX9_noteHalf 50 = .ok (.aload_n 0, 1) := by decide +kernel
theorem dX9_noteHalf_51 : decode cX9_noteHalf 51 = .ok (.getfield 194, 3) := by decide +kernel
theorem dX9_noteHalf_54 : decode cX9_noteHalf 54 = .ok (.aload_n 0, 1) := by decide +kernel
theorem dX9_noteHalf_55 : decode cX9_noteHalf 55 = .ok (.getfield 473, 3) := by decide +kernel
theorem dX9_noteHalf_58 : decode cX9_noteHalf 58 = .ok (.aload_n 0, 1) := by decide +kernel
theorem dX9_noteHalf_59 : decode cX9_noteHalf 59 = .ok (.getfield 92, 3) := by decide +kernel
theorem dX9_noteHalf_62 : decode cX9_noteHalf 62 = .ok (.bipush 8, 2) := by decide +kernel
theorem dX9_noteHalf_64 : decode cX9_noteHalf 64 = .ok (.bipush 24, 2) := by decide +kernel
theorem dX9_noteHalf_66 : decode cX9_noteHalf 66 = .ok (.aload_n 0, 1) := by decide +kernel
theorem dX9_noteHalf_67 : decode cX9_noteHalf 67 = .ok (.getfield 307, 3) := by decide +kernel
theorem dX9_noteHalf_70 : decode cX9_noteHalf 70 = .ok (.imul, 1) := by decide +kernel
theorem dX9_noteHalf_71 : decode cX9_noteHalf 71 = .ok (.iload_n 1, 1) := by decide +kernel
theorem dX9_noteHalf_72 : decode cX9_noteHalf 72 = .ok (.iadd, 1) := by decide +kernel
theorem dX9_noteHalf_73 : decode cX9_noteHalf 73 = .ok (.imul, 1) := by decide +kernel
theorem dX9_noteHalf_74 : decode cX9_noteHalf 74 = .ok (.iload_n 2, 1) := by decide +kernel
theorem dX9_noteHalf_75 : decode cX9_noteHalf 75 = .ok (.iadd, 1) := by decide +kernel
theorem dX9_noteHalf_76 : decode cX9_noteHalf 76 = .ok (.iaload, 1) := by decide +kernel
theorem dX9_noteHalf_77 : decode cX9_noteHalf 77 = .ok (.iastore, 1) := by decide +kernel
theorem dX9_noteHalf_78 : decode cX9_noteHalf 78 = .ok (.aload_n 0, 1) := by decide +kernel
theorem dX9_noteHalf_79 : decode cX9_noteHalf 79 = .ok (.dup, 1) := by decide +kernel
theorem dX9_noteHalf_80 : decode cX9_noteHalf 80 = .ok (.getfield 473, 3) := by decide +kernel
theorem dX9_noteHalf_83 : decode cX9_noteHalf 83 = .ok (.iconst 1, 1) := by decide +kernel
theorem dX9_noteHalf_84 : decode cX9_noteHalf 84 = .ok (.iadd, 1) := by decide +kernel
theorem dX9_noteHalf_85 : decode cX9_noteHalf 85 = .ok (.putfield 473, 3) := by decide +kernel
theorem dX9_noteHalf_88 : decode cX9_noteHalf 88 = .ok (.return_, 1) := by decide +kernel
theorem dX9_orders_0 : decode cX9_orders 0 = .ok (.iload_n 2, 1) := by decide +kernel
theorem dX9_orders_1 : decode cX9_orders 1 = .ok (.aload_n 0, 1) := by decide +kernel
theorem dX9_orders_2 : decode cX9_orders 2 = .ok (.getfield 49, 3) := by decide +kernel
theorem dX9_orders_5 : decode cX9_orders 5 = .ok (.bipush 24, 2) := by decide +kernel
theorem dX9_orders_7 : decode cX9_orders 7 = .ok (.aload_n 0, 1) := by decide +kernel
theorem dX9_orders_8 : decode cX9_orders 8 = .ok (.getfield 307, 3) := by decide +kernel
theorem dX9_orders_11 : decode cX9_orders 11 = .ok (.imul, 1) := by decide +kernel
theorem dX9_orders_12 : decode cX9_orders 12 = .ok (.iload_n 1, 1) := by decide +kernel
theorem dX9_orders_13 : decode cX9_orders 13 = .ok (.iadd, 1) := by decide +kernel
theorem dX9_orders_14 : decode cX9_orders 14 = .ok (.iaload, 1) := by decide +kernel
theorem dX9_orders_15 : decode cX9_orders 15 = .ok (.if_icmp .lt 25, 3) := by decide +kernel
theorem dX9_orders_18 : decode cX9_orders 18 = .ok (.iload_n 2, 1) := by decide +kernel
theorem dX9_orders_19 : decode cX9_orders 19 = .ok (.aload_n 0, 1) := by decide +kernel
theorem dX9_orders_20 : decode cX9_orders 20 = .ok (.getfield 52, 3) := by decide +kernel
theorem dX9_orders_23 : decode cX9_orders 23 = .ok (.bipush 24, 2) := by decide +kernel
theorem dX9_orders_25 : decode cX9_orders 25 = .ok (.aload_n 0, 1) := by decide +kernel
theorem dX9_orders_26 : decode cX9_orders 26 = .ok (.getfield 307, 3) := by decide +kernel
theorem dX9_orders_29 : decode cX9_orders 29 = .ok (.imul, 1) := by decide +kernel
theorem dX9_orders_30 : decode cX9_orders 30 = .ok (.iload_n 1, 1) := by decide +kernel
theorem dX9_orders_31 : decode cX9_orders 31 = .ok (.iadd, 1) := by decide +kernel
theorem dX9_orders_32 : decode cX9_orders 32 = .ok (.iaload, 1) := by decide +kernel
theorem dX9_orders_33 : decode cX9_orders 33 = .ok (.if_icmp .gt 7, 3) := by decide +kernel
theorem dX9_orders_36 : decode cX9_orders 36 = .ok (.iconst 1, 1) := by decide +kernel
theorem dX9_orders_37 : decode cX9_orders 37 = .ok (.goto 4, 3) := by decide +kernel
theorem dX9_orders_40 : decode cX9_orders 40 = .ok (.iconst 0, 1) := by decide +kernel
theorem dX9_orders_41 : decode cX9_orders 41 = .ok (.istore 4, 2) := by decide +kernel
theorem dX9_orders_43 : decode cX9_orders 43 = .ok (.aload_n 0, 1) := by decide +kernel
theorem dX9_orders_44 : decode cX9_orders 44 = .ok (.getfield 476, 3) := by decide +kernel
theorem dX9_orders_47 : decode cX9_orders 47 = .ok (.sipush 200, 3) := by decide +kernel
theorem dX9_orders_50 : decode cX9_orders 50 = .ok (.if_icmp .ge 44, 3) := by decide +kernel
theorem dX9_orders_53 : decode cX9_orders 53 = .ok (.aload_n 0, 1) := by decide +kernel
theorem dX9_orders_54 : decode cX9_orders 54 = .ok (.getfield 197, 3) := by decide +kernel
theorem dX9_orders_57 : decode cX9_orders 57 = .ok (.aload_n 0, 1) := by decide +kernel
theorem dX9_orders_58 : decode cX9_orders 58 = .ok (.getfield 476, 3) := by decide +kernel
theorem dX9_orders_61 : decode cX9_orders 61 = .ok (.iload_n 3, 1) := by decide +kernel
theorem dX9_orders_62 : decode cX9_orders 62 = .ok (.iastore, 1) := by decide +kernel
theorem dX9_orders_63 : decode cX9_orders 63 = .ok (.aload_n 0, 1) := by decide +kernel
theorem dX9_orders_64 : decode cX9_orders 64 = .ok (.getfield 200, 3) := by decide +kernel
theorem dX9_orders_67 : decode cX9_orders 67 = .ok (.aload_n 0, 1) := by decide +kernel
theorem dX9_orders_68 : decode cX9_orders 68 = .ok (.getfield 476, 3) := by decide +kernel
theorem dX9_orders_71 : decode cX9_orders 71 = .ok (.iload_n 1, 1) := by decide +kernel
theorem dX9_orders_72 : decode cX9_orders 72 = .ok (.iastore, 1) := by decide +kernel
theorem dX9_orders_73 : decode cX9_orders 73 = .ok (.aload_n 0, 1) := by decide +kernel
theorem dX9_orders_74 : decode cX9_orders 74 = .ok (.getfield 203, 3) := by decide +kernel
theorem dX9_orders_77 : decode cX9_orders 77 = .ok (.aload_n 0, 1) := by decide +kernel
theorem dX9_orders_78 : decode cX9_orders 78 = .ok (.getfield 476, 3) := by decide +kernel
theorem dX9_orders_81 : decode cX9_orders 81 = .ok (.iload_n 2, 1) := by decide +kernel
theorem dX9_orders_82 : decode cX9_orders 82 = .ok (.iastore, 1) := by decide +kernel
theorem dX9_orders_83 : decode cX9_orders 83 = .ok (.aload_n 0, 1) := by decide +kernel
theorem dX9_orders_84 : decode cX9_orders 84 = .ok (.getfield 206, 3) := by decide +kernel
theorem dX9_orders_87 : decode cX9_orders 87 = .ok (.aload_n 0, 1) := by decide +kernel
theorem dX9_orders_88 : decode cX9_orders 88 = .ok (.getfield 476, 3) := by decide +kernel
theorem dX9_orders_91 : decode cX9_orders 91 = .ok (.iload 4, 2) := by decide +kernel
theorem dX9_orders_93 : decode cX9_orders 93 = .ok (.bastore, 1) := by decide +kernel
theorem dX9_orders_94 : decode cX9_orders 94 = .ok (.aload_n 0, 1) := by decide +kernel
theorem dX9_orders_95 : decode cX9_orders 95 = .ok (.dup, 1) := by decide +kernel
theorem dX9_orders_96 : decode cX9_orders 96 = .ok (.getfield 476, 3) := by decide +kernel
theorem dX9_orders_99 : decode cX9_orders 99 = .ok (.iconst 1, 1) := by decide +kernel
theorem dX9_orders_100 : decode cX9_orders 100 = .ok (.iadd, 1) := by decide +kernel
theorem dX9_orders_101 : decode cX9_orders 101 = .ok (.putfield 476, 3) := by decide +kernel
theorem dX9_orders_104 : decode cX9_orders 104 = .ok (.aload_n 0, 1) := by decide +kernel
theorem dX9_orders_105 : decode cX9_orders 105 = .ok (.getfield 170, 3) := by decide +kernel
theorem dX9_orders_108 : decode cX9_orders 108 = .ok (.iload_n 1, 1) := by decide +kernel
theorem dX9_orders_109 : decode cX9_orders 109 = .ok (.iload 4, 2) := by decide +kernel
theorem dX9_orders_111 : decode cX9_orders 111 = .ok (.ifCond .eq 7, 3) := by decide +kernel
theorem dX9_orders_114 : decode cX9_orders 114 = .ok (.iload_n 2, 1) := by decide +kernel
theorem dX9_orders_115 : decode cX9_orders 115 = .ok (.goto 9, 3) := by decide +kernel
theorem dX9_orders_118 : decode cX9_orders 118 = .ok (.aload_n 0, 1) := by decide +kernel
theorem dX9_orders_119 : decode cX9_orders 119 = .ok (.getfield 170, 3) := by decide +kernel
theorem dX9_orders_122 : decode cX9_orders 122 = .ok (.iload_n 1, 1) := by decide +kernel
theorem dX9_orders_123 : decode cX9_orders 123 = .ok (.iaload, 1) := by decide +kernel
theorem dX9_orders_124 : decode cX9_orders 124 = .ok (.iastore, 1) := by decide +kernel
theorem dX9_orders_125 : decode cX9_orders 125 = .ok (.iload 4, 2) := by decide +kernel
theorem dX9_orders_127 : decode cX9_orders 127 = .ok (.ifCond .eq 7, 3) := by decide +kernel
theorem dX9_orders_130 : decode cX9_orders 130 = .ok (.iconst 0, 1) := by decide +kernel
theorem dX9_orders_131 : decode cX9_orders 131 = .ok (.goto 10, 3) := by decide +kernel
theorem dX9_orders_134 : decode cX9_orders 134 = .ok (.aload_n 0, 1) := by decide +kernel
theorem dX9_orders_135 : decode cX9_orders 135 = .ok (.bipush 12, 2) := by decide +kernel
theorem dX9_orders_137 : decode cX9_orders 137 = .ok (.iconst 0, 1) := by decide +kernel
theorem dX9_orders_138 : decode cX9_orders 138 = .ok (.invokevirtual 497, 3) := by decide +kernel
theorem dX9_orders_141 : decode cX9_orders 141 = .ok (.ireturn, 1) := by decide +kernel
theorem dX9_reckons_0 : decode cX9_reckons 0 = .ok (.iload_n 1, 1) := by decide +kernel
theorem dX9_reckons_1 : decode cX9_reckons 1 = .ok (.bipush 14, 2) := by decide +kernel
theorem dX9_reckons_3 : decode cX9_reckons 3 = .ok (.if_icmp .ne 16, 3) := by decide +kernel
theorem dX9_reckons_6 : decode cX9_reckons 6 = .ok (.aload_n 0, 1) := by decide +kernel
theorem dX9_reckons_7 : decode cX9_reckons 7 = .ok (.aload_n 0, 1) := by decide +kernel
theorem dX9_reckons_8 : decode cX9_reckons 8 = .ok (.getfield 167, 3) := by decide +kernel
theorem dX9_reckons_11 : decode cX9_reckons 11 = .ok (.iload_n 2, 1) := by decide +kernel
theorem dX9_reckons_12 : decode cX9_reckons 12 = .ok (.iaload, 1) := by decide +kernel
theorem dX9_reckons_13 : decode cX9_reckons 13 = .ok (.invokevirtual 549, 3) := by decide +kernel
theorem dX9_reckons_16 : decode cX9_reckons 16 = .ok (.goto 190, 3) := by decide +kernel
theorem dX9_reckons_19 : decode cX9_reckons 19 = .ok (.iload_n 1, 1) := by decide +kernel
theorem dX9_reckons_20 : decode cX9_reckons 20 = .ok (.bipush 15, 2) := by decide +kernel
theorem dX9_reckons_22 : decode cX9_reckons 22 = .ok (.if_icmp .ne 14, 3) := by decide +kernel
theorem dX9_reckons_25 : decode cX9_reckons 25 = .ok (.aload_n 0, 1) := by decide +kernel
theorem dX9_reckons_26 : decode cX9_reckons 26 = .ok (.aload_n 0, 1) := by decide +kernel
theorem dX9_reckons_27 : decode cX9_reckons 27 = .ok (.getfield 529, 3) := by decide +kernel
theorem dX9_reckons_30 : decode cX9_reckons 30 = .ok (.invokevirtual 549, 3) := by decide +kernel
theorem dX9_reckons_33 : decode cX9_reckons 33 = .ok (.goto 173, 3) := by decide +kernel
theorem dX9_reckons_36 : decode cX9_reckons 36 = .ok (.iload_n 1, 1) := by decide +kernel
theorem dX9_reckons_37 : decode cX9_reckons 37 = .ok (.bipush 16, 2) := by decide +kernel
theorem dX9_reckons_39 : decode cX9_reckons 39 = .ok (.if_icmp .ne 14, 3) := by decide +kernel
theorem dX9_reckons_42 : decode cX9_reckons 42 = .ok (.aload_n 0, 1) := by decide +kernel
theorem dX9_reckons_43 : decode cX9_reckons 43 = .ok (.aload_n 0, 1) := by decide +kernel
theorem dX9_reckons_44 : decode cX9_reckons 44 = .ok (.getfield 457, 3) := by decide +kernel
theorem dX9_reckons_47 : decode cX9_reckons 47 = .ok (.invokevirtual 549, 3) := by decide +kernel
theorem dX9_reckons_50 : decode cX9_reckons 50 = .ok (.goto 156, 3) := by decide +kernel
theorem dX9_reckons_53 : decode cX9_reckons 53 = .ok (.iload_n 1, 1) := by decide +kernel
theorem dX9_reckons_54 : decode cX9_reckons 54 = .ok (.bipush 17, 2) := by decide +kernel
theorem dX9_reckons_56 : decode cX9_reckons 56 = .ok (.if_icmp .ne 15, 3) := by decide +kernel
theorem dX9_reckons_59 : decode cX9_reckons 59 = .ok (.aload_n 0, 1) := by decide +kernel
theorem dX9_reckons_60 : decode cX9_reckons 60 = .ok (.aload_n 0, 1) := by decide +kernel
theorem dX9_reckons_61 : decode cX9_reckons 61 = .ok (.invokevirtual 558, 3) := by decide +kernel
theorem dX9_reckons_64 : decode cX9_reckons 64 = .ok (.ineg, 1) := by decide +kernel
theorem dX9_reckons_65 : decode cX9_reckons 65 = .ok (.invokevirtual 549, 3) := by decide +kernel
theorem dX9_reckons_68 : decode cX9_reckons 68 = .ok (.goto 138, 3) := by decide +kernel
theorem dX9_reckons_71 : decode cX9_reckons 71 = .ok (.aload_n 0, 1) := by decide +kernel
theorem dX9_reckons_72 : decode cX9_reckons 72 = .ok (.invokevirtual 558, 3) := by decide +kernel
theorem dX9_reckons_75 : decode cX9_reckons 75 = .ok (.istore_n 3, 1) := by decide +kernel
theorem dX9_reckons_76 : decode cX9_reckons 76 = .ok (.aload_n 0, 1) := by decide +kernel
theorem dX9_reckons_77 : decode cX9_reckons 77 = .ok (.invokevirtual 558, 3) := by decide +kernel
theorem dX9_reckons_80 : decode cX9_reckons 80 = .ok (.istore 4, 2) := by decide +kernel
theorem dX9_reckons_82 : decode cX9_reckons 82 = .ok (.iload_n 1, 1) := by decide +kernel
theorem dX9_reckons_83 : decode cX9_reckons 83 = .ok (.bipush 19, 2) := by decide +kernel
theorem dX9_reckons_85 : decode cX9_reckons 85 = .ok (.if_icmp .eq 9, 3) := by decide +kernel
theorem dX9_reckons_88 : decode cX9_reckons 88 = .ok (.iload_n 1, 1) := by decide +kernel
theorem dX9_reckons_89 : decode cX9_reckons 89 = .ok (.bipush 20, 2) := by decide +kernel
theorem dX9_reckons_91 : decode cX9_reckons 91 = .ok (.if_icmp .ne 15, 3) := by decide +kernel
theorem dX9_reckons_94 : decode cX9_reckons 94 = .ok (.iload_n 3, 1) := by decide +kernel
theorem dX9_reckons_95 : decode cX9_reckons 95 = .ok (.ifCond .ne 11, 3) := by decide +kernel
theorem dX9_reckons_98 : decode cX9_reckons 98 = .ok (.aload_n 0, 1) := by decide +kernel
theorem dX9_reckons_99 : decode cX9_reckons 99 = .ok (.bipush 13, 2) := by decide +kernel
theorem dX9_reckons_101 : decode cX9_reckons 101 = .ok (.iconst 0, 1) := by decide +kernel
theorem dX9_reckons_102 : decode cX9_reckons 102 = .ok (.invokevirtual 497, 3) := by decide +kernel
theorem dX9_reckons_105 : decode cX9_reckons 105 = .ok (.ireturn, 1) := by decide +kernel
theorem dX9_reckons_106 : decode cX9_reckons 106 = .ok (.aload_n 0, 1) := by decide +kernel
theorem dX9_reckons_107 : decode cX9_reckons 107 = .ok (.iload_n 1, 1) := by decide +kernel
theorem dX9_reckons_108 : decode cX9_reckons 108 = .ok (.bipush 18, 2) := by decide +kernel
theorem dX9_reckons_110 : decode cX9_reckons 110 = .ok (.if_icmp .ne 10, 3) := by decide +kernel
theorem dX9_reckons_113 : decode cX9_reckons 113 = .ok (.iload 4, 2) := by decide +kernel
theorem dX9_reckons_115 : decode cX9_reckons 115 = .ok (.iload_n 3, 1) := by decide +kernel
theorem dX9_reckons_116 : decode cX9_reckons 116 = .ok (.imul, 1) := by decide +kernel
theorem dX9_reckons_117 : decode cX9_reckons 117 = .ok (.goto 86, 3) := by decide +kernel
theorem dX9_reckons_120 : decode cX9_reckons 120 = .ok (.iload_n 1, 1) := by decide +kernel
theorem dX9_reckons_121 : decode cX9_reckons 121 = .ok (.bipush 19, 2) := by decide +kernel
theorem dX9_reckons_123 : decode cX9_reckons 123 = .ok (.if_icmp .ne 10, 3) := by decide +kernel
theorem dX9_reckons_126 : decode cX9_reckons 126 = .ok (.iload 4, 2) := by decide +kernel
theorem dX9_reckons_128 : decode cX9_reckons 128 = .ok (.iload_n 3, 1) := by decide +kernel
theorem dX9_reckons_129 : decode cX9_reckons 129 = .ok (.idiv, 1) := by decide +kernel
theorem dX9_reckons_130 : decode cX9_reckons 130 = .ok (.goto 73, 3) := by decide +kernel
theorem dX9_reckons_133 : decode cX9_reckons 133 = .ok (.iload_n 1, 1) := by decide +kernel
theorem dX9_reckons_134 : decode cX9_reckons 134 = .ok (.bipush 20, 2) := by decide +kernel
theorem dX9_reckons_136 : decode cX9_reckons 136 = .ok (.if_icmp .ne 10, 3) := by decide +kernel
theorem dX9_reckons_139 : decode cX9_reckons 139 = .ok (.iload 4, 2) := by decide +kernel
theorem dX9_reckons_141 : decode cX9_reckons 141 = .ok (.iload_n 3, 1) := by decide +kernel
theorem dX9_reckons_142 : decode cX9_reckons 142 = .ok (.irem, 1) := by decide +kernel
theorem dX9_reckons_143 : decode cX9_reckons 143 = .ok (.goto 60, 3) := by decide +kernel
theorem dX9_reckons_146 : decode cX9_reckons 146 = .ok (.iload_n 1, 1) := by decide +kernel
theorem dX9_reckons_147 : decode cX9_reckons 147 = .ok (.bipush 21, 2) := by decide +kernel
theorem dX9_reckons_149 : decode cX9_reckons 149 = .ok (.if_icmp .ne 10, 3) := by decide +kernel
theorem dX9_reckons_152 : decode cX9_reckons 152 = .ok (.iload 4, 2) := by decide +kernel
theorem dX9_reckons_154 : decode cX9_reckons 154 = .ok (.iload_n 3, 1) := by decide +kernel
theorem dX9_reckons_155 : decode cX9_reckons 155 = .ok (.iadd, 1) := by decide +kernel
theorem dX9_reckons_156 : decode cX9_reckons 156 = .ok (.goto 47, 3) := by decide +kernel
theorem dX9_reckons_159 : decode cX9_reckons 159 = .ok (.iload_n 1, 1) := by decide +kernel
theorem dX9_reckons_160 : decode cX9_reckons 160 = .ok (.bipush 22, 2) := by decide +kernel
theorem dX9_reckons_162 : decode cX9_reckons 162 = .ok (.if_icmp .ne 10, 3) := by decide +kernel
theorem dX9_reckons_165 : decode cX9_reckons 165 = .ok (.iload 4, 2) := by decide +kernel
theorem dX9_reckons_167 : decode cX9_reckons 167 = .ok (.iload_n 3, 1) := by decide +kernel
theorem dX9_reckons_168 : decode cX9_reckons 168 = .ok (.isub, 1) := by decide +kernel
theorem dX9_reckons_169 : decode cX9_reckons 169 = .ok (.goto 34, 3) := by decide +kernel
theorem dX9_reckons_172 : decode cX9_reckons 172 = .ok (.iload_n 1, 1) := by decide +kernel
theorem dX9_reckons_173 : decode cX9_reckons 173 = .ok (.bipush 23, 2) := by decide +kernel
theorem dX9_reckons_175 : decode cX9_reckons 175 = .ok (.if_icmp .ne 17, 3) := by decide +kernel
theorem dX9_reckons_178 : decode cX9_reckons 178 = .ok (.iload 4, 2) := by decide +kernel
theorem dX9_reckons_180 : decode cX9_reckons 180 = .ok (.iload_n 3, 1) := by decide +kernel
theorem dX9_reckons_181 : decode cX9_reckons 181 = .ok (.if_icmp .ge 7, 3) := by decide +kernel
