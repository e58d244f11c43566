theorem dX9_reckons_184 : decode cX9_reckons 184 = .ok (.iconst 1, 1) := by decide +kernel
theorem dX9_reckons_185 : decode cX9_reckons 185 = .ok (.goto 18, 3) := by decide +kernel
theorem dX9_reckons_188 : decode cX9_reckons 188 = .ok (.iconst 0, 1) := by decide +kernel
theorem dX9_reckons_189 : decode cX9_reckons 189 = .ok (.goto 14, 3) := by decide +kernel
theorem dX9_reckons_192 : decode cX9_reckons 192 = .ok (.iload 4, 2) := by decide +kernel
theorem dX9_reckons_194 : decode cX9_reckons 194 = .ok (.iload_n 3, 1) := by decide +kernel
theorem dX9_reckons_195 : decode cX9_reckons 195 = .ok (.if_icmp .ne 7, 3) := by decide +kernel
theorem dX9_reckons_198 : decode cX9_reckons 198 = .ok (.iconst 1, 1) := by decide +kernel
theorem dX9_reckons_199 : decode cX9_reckons 199 = .ok (.goto 4, 3) := by decide +kernel
theorem dX9_reckons_202 : decode cX9_reckons 202 = .ok (.iconst 0, 1) := by decide +kernel
theorem dX9_reckons_203 : decode cX9_reckons 203 = .ok (.invokevirtual 549, 3) := by decide +kernel
theorem dX9_reckons_206 : decode cX9_reckons 206 = .ok (.iconst 0, 1) := by decide +kernel
theorem dX9_reckons_207 : decode cX9_reckons 207 = .ok (.ireturn, 1) := by decide +kernel
theorem dX9_isUnit_0 : decode cX9_isUnit 0 = .ok (.iload_n 1, 1) := by decide +kernel
theorem dX9_isUnit_1 : decode cX9_isUnit 1 = .ok (.ifCond .lt 20, 3) := by decide +kernel
theorem dX9_isUnit_4 : decode cX9_isUnit 4 = .ok (.iload_n 1, 1) := by decide +kernel
theorem dX9_isUnit_5 : decode cX9_isUnit 5 = .ok (.aload_n 0, 1) := by decide +kernel
theorem dX9_isUnit_6 : decode cX9_isUnit 6 = .ok (.getfield 58, 3) := by decide +kernel
theorem dX9_isUnit_9 : decode cX9_isUnit 9 = .ok (.aload_n 0, 1) := by decide +kernel
theorem dX9_isUnit_10 : decode cX9_isUnit 10 = .ok (.getfield 307, 3) := by decide +kernel
theorem dX9_isUnit_13 : decode cX9_isUnit 13 = .ok (.iaload, 1) := by decide +kernel
theorem dX9_isUnit_14 : decode cX9_isUnit 14 = .ok (.if_icmp .ge 7, 3) := by decide +kernel
theorem dX9_isUnit_17 : decode cX9_isUnit 17 = .ok (.iconst 1, 1) := by decide +kernel
theorem dX9_isUnit_18 : decode cX9_isUnit 18 = .ok (.goto 4, 3) := by decide +kernel
theorem dX9_isUnit_21 : decode cX9_isUnit 21 = .ok (.iconst 0, 1) := by decide +kernel
theorem dX9_isUnit_22 : decode cX9_isUnit 22 = .ok (.ireturn, 1) := by decide +kernel
theorem dX9_isDemand_0 : decode cX9_isDemand 0 = .ok (.iload_n 1, 1) := by decide +kernel
theorem dX9_isDemand_1 : decode cX9_isDemand 1 = .ok (.ifCond .lt 32, 3) := by decide +kernel
theorem dX9_isDemand_4 : decode cX9_isDemand 4 = .ok (.iload_n 1, 1) := by decide +kernel
theorem dX9_isDemand_5 : decode cX9_isDemand 5 = .ok (.aload_n 0, 1) := by decide +kernel
theorem dX9_isDemand_6 : decode cX9_isDemand 6 = .ok (.getfield 110, 3) := by decide +kernel
theorem dX9_isDemand_9 : decode cX9_isDemand 9 = .ok (.aload_n 0, 1) := by decide +kernel
theorem dX9_isDemand_10 : decode cX9_isDemand 10 = .ok (.getfield 307, 3) := by decide +kernel
theorem dX9_isDemand_13 : decode cX9_isDemand 13 = .ok (.iaload, 1) := by decide +kernel
theorem dX9_isDemand_14 : decode cX9_isDemand 14 = .ok (.if_icmp .ge 19, 3) := by decide +kernel
theorem dX9_isDemand_17 : decode cX9_isDemand 17 = .ok (.iload_n 2, 1) := by decide +kernel
theorem dX9_isDemand_18 : decode cX9_isDemand 18 = .ok (.iconst 1, 1) := by decide +kernel
theorem dX9_isDemand_19 : decode cX9_isDemand 19 = .ok (.if_icmp .lt 14, 3) := by decide +kernel
theorem dX9_isDemand_22 : decode cX9_isDemand 22 = .ok (.iload_n 2, 1) := by decide +kernel
theorem dX9_isDemand_23 : decode cX9_isDemand 23 = .ok (.sipush 5000, 3) := by decide +kernel
theorem dX9_isDemand_26 : decode cX9_isDemand 26 = .ok (.if_icmp .gt 7, 3) := by decide +kernel
theorem dX9_isDemand_29 : decode cX9_isDemand 29 = .ok (.iconst 1, 1) := by decide +kernel
theorem dX9_isDemand_30 : decode cX9_isDemand 30 = .ok (.goto 4, 3) := by decide +kernel
theorem dX9_isDemand_33 : decode cX9_isDemand 33 = .ok (.iconst 0, 1) := by decide +kernel
theorem dX9_isDemand_34 : decode cX9_isDemand 34 = .ok (.ireturn, 1) := by decide +kernel
theorem dX9_runs_0 : decode cX9_runs 0 = .ok (.aload_n 0, 1) := by decide +kernel
theorem dX9_runs_1 : decode cX9_runs 1 = .ok (.iload_n 2, 1) := by decide +kernel
theorem dX9_runs_2 : decode cX9_runs 2 = .ok (.putfield 519, 3) := by decide +kernel
theorem dX9_runs_5 : decode cX9_runs 5 = .ok (.aload_n 0, 1) := by decide +kernel
theorem dX9_runs_6 : decode cX9_runs 6 = .ok (.iconst 0, 1) := by decide +kernel
theorem dX9_runs_7 : decode cX9_runs 7 = .ok (.putfield 516, 3) := by decide +kernel
theorem dX9_runs_10 : decode cX9_runs 10 = .ok (.aload_n 0, 1) := by decide +kernel
theorem dX9_runs_11 : decode cX9_runs 11 = .ok (.iconst 0, 1) := by decide +kernel
theorem dX9_runs_12 : decode cX9_runs 12 = .ok (.putfield 532, 3) := by decide +kernel
theorem dX9_runs_15 : decode cX9_runs 15 = .ok (.aload_n 0, 1) := by decide +kernel
theorem dX9_runs_16 : decode cX9_runs 16 = .ok (.iconst 0, 1) := by decide +kernel
theorem dX9_runs_17 : decode cX9_runs 17 = .ok (.putfield 535, 3) := by decide +kernel
theorem dX9_runs_20 : decode cX9_runs 20 = .ok (.aload_n 0, 1) := by decide +kernel
theorem dX9_runs_21 : decode cX9_runs 21 = .ok (.iload_n 1, 1) := by decide +kernel
theorem dX9_runs_22 : decode cX9_runs 22 = .ok (.putfield 513, 3) := by decide +kernel
theorem dX9_runs_25 : decode cX9_runs 25 = .ok (.aload_n 0, 1) := by decide +kernel
theorem dX9_runs_26 : decode cX9_runs 26 = .ok (.aload_n 0, 1) := by decide +kernel
theorem dX9_runs_27 : decode cX9_runs 27 = .ok (.getfield 116, 3) := by decide +kernel
theorem dX9_runs_30 : decode cX9_runs 30 = .ok (.bipush 20, 2) := by decide +kernel
theorem dX9_runs_32 : decode cX9_runs 32 = .ok (.aload_n 0, 1) := by decide +kernel
theorem dX9_runs_33 : decode cX9_runs 33 = .ok (.getfield 307, 3) := by decide +kernel
theorem dX9_runs_36 : decode cX9_runs 36 = .ok (.imul, 1) := by decide +kernel
theorem dX9_runs_37 : decode cX9_runs 37 = .ok (.iload_n 1, 1) := by decide +kernel
theorem dX9_runs_38 : decode cX9_runs 38 = .ok (.iadd, 1) := by decide +kernel
theorem dX9_runs_39 : decode cX9_runs 39 = .ok (.iaload, 1) := by decide +kernel
theorem dX9_runs_40 : decode cX9_runs 40 = .ok (.iconst (-1), 1) := by decide +kernel
theorem dX9_runs_41 : decode cX9_runs 41 = .ok (.iconst 0, 1) := by decide +kernel
theorem dX9_runs_42 : decode cX9_runs 42 = .ok (.invokevirtual 509, 3) := by decide +kernel
theorem dX9_runs_45 : decode cX9_runs 45 = .ok (.ireturn, 1) := by decide +kernel
theorem dX9_demand_0 : decode cX9_demand 0 = .ok (.aload_n 0, 1) := by decide +kernel
theorem dX9_demand_1 : decode cX9_demand 1 = .ok (.iconst 0, 1) := by decide +kernel
theorem dX9_demand_2 : decode cX9_demand 2 = .ok (.putfield 1, 3) := by decide +kernel
theorem dX9_demand_5 : decode cX9_demand 5 = .ok (.aload_n 0, 1) := by decide +kernel
theorem dX9_demand_6 : decode cX9_demand 6 = .ok (.iload_n 1, 1) := by decide +kernel
theorem dX9_demand_7 : decode cX9_demand 7 = .ok (.iload_n 2, 1) := by decide +kernel
theorem dX9_demand_8 : decode cX9_demand 8 = .ok (.invokevirtual 566, 3) := by decide +kernel
theorem dX9_demand_11 : decode cX9_demand 11 = .ok (.ifCond .ne 5, 3) := by decide +kernel
theorem dX9_demand_14 : decode cX9_demand 14 = .ok (.iconst 4, 1) := by decide +kernel
theorem dX9_demand_15 : decode cX9_demand 15 = .ok (.ireturn, 1) := by decide +kernel
theorem dX9_demand_16 : decode cX9_demand 16 = .ok (.aload_n 0, 1) := by decide +kernel
theorem dX9_demand_17 : decode cX9_demand 17 = .ok (.getfield 460, 3) := by decide +kernel
theorem dX9_demand_20 : decode cX9_demand 20 = .ok (.ifCond .eq 5, 3) := by decide +kernel
theorem dX9_demand_23 : decode cX9_demand 23 = .ok (.iconst 5, 1) := by decide +kernel
theorem dX9_demand_24 : decode cX9_demand 24 = .ok (.ireturn, 1) := by decide +kernel
theorem dX9_demand_25 : decode cX9_demand 25 = .ok (.aload_n 0, 1) := by decide +kernel
theorem dX9_demand_26 : decode cX9_demand 26 = .ok (.iload_n 1, 1) := by decide +kernel
theorem dX9_demand_27 : decode cX9_demand 27 = .ok (.iload_n 2, 1) := by decide +kernel
theorem dX9_demand_28 : decode cX9_demand 28 = .ok (.invokevirtual 570, 3) := by decide +kernel
theorem dX9_demand_31 : decode cX9_demand 31 = .ok (.istore_n 3, 1) := by decide +kernel
theorem dX9_demand_32 : decode cX9_demand 32 = .ok (.aload_n 0, 1) := by decide +kernel
theorem dX9_demand_33 : decode cX9_demand 33 = .ok (.aload_n 0, 1) := by decide +kernel
theorem dX9_demand_34 : decode cX9_demand 34 = .ok (.getfield 516, 3) := by decide +kernel
theorem dX9_demand_37 : decode cX9_demand 37 = .ok (.putfield 464, 3) := by decide +kernel
theorem dX9_demand_40 : decode cX9_demand 40 = .ok (.aload_n 0, 1) := by decide +kernel
theorem dX9_demand_41 : decode cX9_demand 41 = .ok (.iload_n 3, 1) := by decide +kernel
theorem dX9_demand_42 : decode cX9_demand 42 = .ok (.iconst 1, 1) := by decide +kernel
theorem dX9_demand_43 : decode cX9_demand 43 = .ok (.if_icmp .ne 10, 3) := by decide +kernel
theorem dX9_demand_46 : decode cX9_demand 46 = .ok (.aload_n 0, 1) := by decide +kernel
theorem dX9_demand_47 : decode cX9_demand 47 = .ok (.getfield 491, 3) := by decide +kernel
theorem dX9_demand_50 : decode cX9_demand 50 = .ok (.goto 4, 3) := by decide +kernel
theorem dX9_demand_53 : decode cX9_demand 53 = .ok (.iconst 0, 1) := by decide +kernel
theorem dX9_demand_54 : decode cX9_demand 54 = .ok (.putfield 482, 3) := by decide +kernel
theorem dX9_demand_57 : decode cX9_demand 57 = .ok (.aload_n 0, 1) := by decide +kernel
theorem dX9_demand_58 : decode cX9_demand 58 = .ok (.iload_n 3, 1) := by decide +kernel
theorem dX9_demand_59 : decode cX9_demand 59 = .ok (.iconst 1, 1) := by decide +kernel
theorem dX9_demand_60 : decode cX9_demand 60 = .ok (.if_icmp .ne 10, 3) := by decide +kernel
theorem dX9_demand_63 : decode cX9_demand 63 = .ok (.aload_n 0, 1) := by decide +kernel
theorem dX9_demand_64 : decode cX9_demand 64 = .ok (.getfield 494, 3) := by decide +kernel
theorem dX9_demand_67 : decode cX9_demand 67 = .ok (.goto 4, 3) := by decide +kernel
theorem dX9_demand_70 : decode cX9_demand 70 = .ok (.iconst 0, 1) := by decide +kernel
theorem dX9_demand_71 : decode cX9_demand 71 = .ok (.putfield 485, 3) := by decide +kernel
theorem dX9_demand_74 : decode cX9_demand 74 = .ok (.iload_n 3, 1) := by decide +kernel
theorem dX9_demand_75 : decode cX9_demand 75 = .ok (.ifCond .ne 7, 3) := by decide +kernel
theorem dX9_demand_78 : decode cX9_demand 78 = .ok (.iconst 0, 1) := by decide +kernel
theorem dX9_demand_79 : decode cX9_demand 79 = .ok (.goto 40, 3) := by decide +kernel
theorem dX9_demand_82 : decode cX9_demand 82 = .ok (.iload_n 3, 1) := by decide +kernel
theorem dX9_demand_83 : decode cX9_demand 83 = .ok (.iconst 2, 1) := by decide +kernel
theorem dX9_demand_84 : decode cX9_demand 84 = .ok (.if_icmp .ne 8, 3) := by decide +kernel
theorem dX9_demand_87 : decode cX9_demand 87 = .ok (.bipush 6, 2) := by decide +kernel
theorem dX9_demand_89 : decode cX9_demand 89 = .ok (.goto 30, 3) := by decide +kernel
theorem dX9_demand_92 : decode cX9_demand 92 = .ok (.aload_n 0, 1) := by decide +kernel
theorem dX9_demand_93 : decode cX9_demand 93 = .ok (.getfield 491, 3) := by decide +kernel
theorem dX9_demand_96 : decode cX9_demand 96 = .ok (.bipush 20, 2) := by decide +kernel
theorem dX9_demand_98 : decode cX9_demand 98 = .ok (.if_icmp .ne 7, 3) := by decide +kernel
theorem dX9_demand_101 : decode cX9_demand 101 = .ok (.iconst 1, 1) := by decide +kernel
theorem dX9_demand_102 : decode cX9_demand 102 = .ok (.goto 17, 3) := by decide +kernel
theorem dX9_demand_105 : decode cX9_demand 105 = .ok (.aload_n 0, 1) := by decide +kernel
theorem dX9_demand_106 : decode cX9_demand 106 = .ok (.getfield 491, 3) := by decide +kernel
theorem dX9_demand_109 : decode cX9_demand 109 = .ok (.bipush 21, 2) := by decide +kernel
theorem dX9_demand_111 : decode cX9_demand 111 = .ok (.if_icmp .ne 7, 3) := by decide +kernel
theorem dX9_demand_114 : decode cX9_demand 114 = .ok (.iconst 2, 1) := by decide +kernel
theorem dX9_demand_115 : decode cX9_demand 115 = .ok (.goto 4, 3) := by decide +kernel
theorem dX9_demand_118 : decode cX9_demand 118 = .ok (.iconst 3, 1) := by decide +kernel
theorem dX9_demand_119 : decode cX9_demand 119 = .ok (.ireturn, 1) := by decide +kernel
theorem dX9_ended_0 : decode cX9_ended 0 = .ok (.aload_n 0, 1) := by decide +kernel
theorem dX9_ended_1 : decode cX9_ended 1 = .ok (.iconst 0, 1) := by decide +kernel
theorem dX9_ended_2 : decode cX9_ended 2 = .ok (.putfield 1, 3) := by decide +kernel
theorem dX9_ended_5 : decode cX9_ended 5 = .ok (.iload_n 1, 1) := by decide +kernel
theorem dX9_ended_6 : decode cX9_ended 6 = .ok (.ifCond .ne 10, 3) := by decide +kernel
theorem dX9_ended_9 : decode cX9_ended 9 = .ok (.aload_n 0, 1) := by decide +kernel
theorem dX9_ended_10 : decode cX9_ended 10 = .ok (.getfield 482, 3) := by decide +kernel
theorem dX9_ended_13 : decode cX9_ended 13 = .ok (.goto 16, 3) := by decide +kernel
theorem dX9_ended_16 : decode cX9_ended 16 = .ok (.iload_n 1, 1) := by decide +kernel
theorem dX9_ended_17 : decode cX9_ended 17 = .ok (.iconst 1, 1) := by decide +kernel
theorem dX9_ended_18 : decode cX9_ended 18 = .ok (.if_icmp .ne 10, 3) := by decide +kernel
theorem dX9_ended_21 : decode cX9_ended 21 = .ok (.aload_n 0, 1) := by decide +kernel
theorem dX9_ended_22 : decode cX9_ended 22 = .ok (.getfield 485, 3) := by decide +kernel
theorem dX9_ended_25 : decode cX9_ended 25 = .ok (.goto 4, 3) := by decide +kernel
theorem dX9_ended_28 : decode cX9_ended 28 = .ok (.iconst 0, 1) := by decide +kernel
theorem dX9_ended_29 : decode cX9_ended 29 = .ok (.ireturn, 1) := by decide +kernel
theorem dX9_plan_0 : decode cX9_plan 0 = .ok (.aload_n 0, 1) := by decide +kernel
theorem dX9_plan_1 : decode cX9_plan 1 = .ok (.iconst 0, 1) := by decide +kernel
theorem dX9_plan_2 : decode cX9_plan 2 = .ok (.putfield 1, 3) := by decide +kernel
theorem dX9_plan_5 : decode cX9_plan 5 = .ok (.iconst 0, 1) := by decide +kernel
theorem dX9_plan_6 : decode cX9_plan 6 = .ok (.istore_n 3, 1) := by decide +kernel
theorem dX9_plan_7 : decode cX9_plan 7 = .ok (.iconst 0, 1) := by decide +kernel
theorem dX9_plan_8 : decode cX9_plan 8 = .ok (.istore 4, 2) := by decide +kernel
theorem dX9_plan_10 : decode cX9_plan 10 = .ok (.iload 4, 2) := by decide +kernel
theorem dX9_plan_12 : decode cX9_plan 12 = .ok (.aload_n 0, 1) := by decide +kernel
theorem dX9_plan_13 : decode cX9_plan 13 = .ok (.getfield 467, 3) := by decide +kernel
theorem dX9_plan_16 : decode cX9_plan 16 = .ok (.if_icmp .ge 41, 3) := by decide +kernel
theorem dX9_plan_19 : decode cX9_plan 19 = .ok (.iload_n 3, 1) := by decide +kernel
theorem dX9_plan_20 : decode cX9_plan 20 = .ok (.ifCond .ne 25, 3) := by decide +kernel
theorem dX9_plan_23 : decode cX9_plan 23 = .ok (.aload_n 0, 1) := by decide +kernel
theorem dX9_plan_24 : decode cX9_plan 24 = .ok (.getfield 173, 3) := by decide +kernel
theorem dX9_plan_27 : decode cX9_plan 27 = .ok (.iload 4, 2) := by decide +kernel
theorem dX9_plan_29 : decode cX9_plan 29 = .ok (.iaload, 1) := by decide +kernel
theorem dX9_plan_30 : decode cX9_plan 30 = .ok (.iload_n 1, 1) := by decide +kernel
theorem dX9_plan_31 : decode cX9_plan 31 = .ok (.if_icmp .ne 18, 3) := by decide +kernel
theorem dX9_plan_34 : decode cX9_plan 34 = .ok (.aload_n 0, 1) := by decide +kernel
theorem dX9_plan_35 : decode cX9_plan 35 = .ok (.getfield 176, 3) := by decide +kernel
theorem dX9_plan_38 : decode cX9_plan 38 = .ok (.iload 4, 2) := by decide +kernel
theorem dX9_plan_40 : decode cX9_plan 40 = .ok (.iaload, 1) := by decide +kernel
theorem dX9_plan_41 : decode cX9_plan 41 = .ok (.iload_n 2, 1) := by decide +kernel
theorem dX9_plan_42 : decode cX9_plan 42 = .ok (.if_icmp .ne 7, 3) := by decide +kernel
theorem dX9_plan_45 : decode cX9_plan 45 = .ok (.iconst 1, 1) := by decide +kernel
theorem dX9_plan_46 : decode cX9_plan 46 = .ok (.goto 4, 3) := by decide +kernel
theorem dX9_plan_49 : decode cX9_plan 49 = .ok (.iconst 0, 1) := by decide +kernel
theorem dX9_plan_50 : decode cX9_plan 50 = .ok (.istore_n 3, 1) := by decide +kernel
theorem dX9_plan_51 : decode cX9_plan 51 = .ok (.iinc 4 1, 3) := by decide +kernel
theorem dX9_plan_54 : decode cX9_plan 54 = .ok (.goto (-44), 3) := by decide +kernel
theorem dX9_plan_57 : decode cX9_plan 57 = .ok (.iload_n 3, 1) := by decide +kernel
theorem dX9_plan_58 : decode cX9_plan 58 = .ok (.ifCond .eq 5, 3) := by decide +kernel
theorem dX9_plan_61 : decode cX9_plan 61 = .ok (.iconst 1, 1) := by decide +kernel
theorem dX9_plan_62 : decode cX9_plan 62 = .ok (.ireturn, 1) := by decide +kernel
theorem dX9_plan_63 : decode cX9_plan 63 = .ok (.aload_n 0, 1) := by decide +kernel
theorem dX9_plan_64 : decode cX9_plan 64 = .ok (.iload_n 1, 1) := by decide +kernel
theorem dX9_plan_65 : decode cX9_plan 65 = .ok (.invokevirtual 573, 3) := by decide +kernel
theorem dX9_plan_68 : decode cX9_plan 68 = .ok (.ifCond .eq 22, 3) := by decide +kernel
theorem dX9_plan_71 : decode cX9_plan 71 = .ok (.iload_n 2, 1) := by decide +kernel
theorem dX9_plan_72 : decode cX9_plan 72 = .ok (.ifCond .lt 18, 3) := by decide +kernel
theorem dX9_plan_75 : decode cX9_plan 75 = .ok (.iload_n 2, 1) := by decide +kernel
theorem dX9_plan_76 : decode cX9_plan 76 = .ok (.bipush 30, 2) := by decide +kernel
theorem dX9_plan_78 : decode cX9_plan 78 = .ok (.if_icmp .gt 12, 3) := by decide +kernel
theorem dX9_plan_81 : decode cX9_plan 81 = .ok (.aload_n 0, 1) := by decide +kernel
theorem dX9_plan_82 : decode cX9_plan 82 = .ok (.getfield 467, 3) := by decide +kernel
theorem dX9_plan_85 : decode cX9_plan 85 = .ok (.bipush 40, 2) := by decide +kernel
theorem dX9_plan_87 : decode cX9_plan 87 = .ok (.if_icmp .ne 5, 3) := by decide +kernel
theorem dX9_plan_90 : decode cX9_plan 90 = .ok (.iconst 0, 1) := by decide +kernel
theorem dX9_plan_91 : decode cX9_plan 91 = .ok (.ireturn, 1) := by decide +kernel
theorem dX9_plan_92 : decode cX9_plan 92 = .ok (.aload_n 0, 1) := by decide +kernel
theorem dX9_plan_93 : decode cX9_plan 93 = .ok (.getfield 173, 3) := by decide +kernel
theorem dX9_plan_96 : decode cX9_plan 96 = .ok (.aload_n 0, 1) := by decide +kernel
theorem dX9_plan_97 : decode cX9_plan 97 = .ok (.getfield 467, 3) := by decide +kernel
theorem dX9_plan_100 : decode cX9_plan 100 = .ok (.iload_n 1, 1) := by decide +kernel
theorem dX9_plan_101 : decode cX9_plan 101 = .ok (.iastore, 1) := by decide +kernel
theorem dX9_plan_102 : decode cX9_plan 102 = .ok (.aload_n 0, 1) := by decide +kernel
theorem dX9_plan_103 : decode cX9_plan 103 = .ok (.getfield 176, 3) := by decide +kernel
theorem dX9_plan_106 : decode cX9_plan 106 = .ok (.aload_n 0, 1) := by decide +kernel
theorem dX9_plan_107 : decode cX9_plan 107 = .ok (.getfield 467, 3) := by decide +kernel
theorem dX9_plan_110 : decode cX9_plan 110 = .ok (.iload_n 2, 1) := by decide +kernel
theorem dX9_plan_111 : decode cX9_plan 111 = .ok (.iastore, 1) := by decide +kernel
theorem dX9_plan_112 : decode cX9_plan 112 = .ok (.aload_n 0, 1) := by decide +kernel
theorem dX9_plan_113 : decode cX9_plan 113 = .ok (.dup, 1) := by decide +kernel
theorem dX9_plan_114 : decode cX9_plan 114 = .ok (.getfield 467, 3) := by decide +kernel
theorem dX9_plan_117 : decode cX9_plan 117 = .ok (.iconst 1, 1) := by decide +kernel
theorem dX9_plan_118 : decode cX9_plan 118 = .ok (.iadd, 1) := by decide +kernel
theorem dX9_plan_119 : decode cX9_plan 119 = .ok (.putfield 467, 3) := by decide +kernel
theorem dX9_plan_122 : decode cX9_plan 122 = .ok (.iconst 1, 1) := by decide +kernel
theorem dX9_plan_123 : decode cX9_plan 123 = .ok (.ireturn, 1) := by decide +kernel
theorem dX9_clear_0 : decode cX9_clear 0 = .ok (.aload_n 0, 1) := by decide +kernel
theorem dX9_clear_1 : decode cX9_clear 1 = .ok (.iconst 0, 1) := by decide +kernel
theorem dX9_clear_2 : decode cX9_clear 2 = .ok (.putfield 1, 3) := by decide +kernel
theorem dX9_clear_5 : decode cX9_clear 5 = .ok (.aload_n 0, 1) := by decide +kernel
theorem dX9_clear_6 : decode cX9_clear 6 = .ok (.iconst 0, 1) := by decide +kernel
theorem dX9_clear_7 : decode cX9_clear 7 = .ok (.putfield 467, 3) := by decide +kernel
theorem dX9_clear_10 : decode cX9_clear 10 = .ok (.return_, 1) := by decide +kernel
theorem dX9_lean_0 : decode cX9_lean 0 = .ok (.aload_n 0, 1) := by decide +kernel
theorem dX9_lean_1 : decode cX9_lean 1 = .ok (.getfield 107, 3) := by decide +kernel
theorem dX9_lean_4 : decode cX9_lean 4 = .ok (.bipush 24, 2) := by decide +kernel
theorem dX9_lean_6 : decode cX9_lean 6 = .ok (.bipush 24, 2) := by decide +kernel
theorem dX9_lean_8 : decode cX9_lean 8 = .ok (.aload_n 0, 1) := by decide +kernel
theorem dX9_lean_9 : decode cX9_lean 9 = .ok (.getfield 307, 3) := by decide +kernel
theorem dX9_lean_12 : decode cX9_lean 12 = .ok (.imul, 1) := by decide +kernel
theorem dX9_lean_13 : decode cX9_lean 13 = .ok (.iload_n 1, 1) := by decide +kernel
theorem dX9_lean_14 : decode cX9_lean 14 = .ok (.iadd, 1) := by decide +kernel
theorem dX9_lean_15 : decode cX9_lean 15 = .ok (.imul, 1) := by decide +kernel
theorem dX9_lean_16 : decode cX9_lean 16 = .ok (.iload_n 2, 1) := by decide +kernel
theorem dX9_lean_17 : decode cX9_lean 17 = .ok (.iadd, 1) := by decide +kernel
theorem dX9_lean_18 : decode cX9_lean 18 = .ok (.baload, 1) := by decide +kernel
theorem dX9_lean_19 : decode cX9_lean 19 = .ok (.ireturn, 1) := by decide +kernel
theorem dX9_heal_0 : decode cX9_heal 0 = .ok (.aload_n 0, 1) := by decide +kernel
theorem dX9_heal_1 : decode cX9_heal 1 = .ok (.iconst 0, 1) := by decide +kernel
theorem dX9_heal_2 : decode cX9_heal 2 = .ok (.putfield 1, 3) := by decide +kernel
theorem dX9_heal_5 : decode cX9_heal 5 = .ok (.aload_n 0, 1) := by decide +kernel
theorem dX9_heal_6 : decode cX9_heal 6 = .ok (.iload_n 1, 1) := by decide +kernel
theorem dX9_heal_7 : decode cX9_heal 7 = .ok (.invokevirtual 573, 3) := by decide +kernel
theorem dX9_heal_10 : decode cX9_heal 10 = .ok (.ifCond .eq 10, 3) := by decide +kernel
theorem dX9_heal_13 : decode cX9_heal 13 = .ok (.aload_n 0, 1) := by decide +kernel
theorem dX9_heal_14 : decode cX9_heal 14 = .ok (.getfield 460, 3) := by decide +kernel
theorem dX9_heal_17 : decode cX9_heal 17 = .ok (.ifCond .eq 5, 3) := by decide +kernel
theorem dX9_heal_20 : decode cX9_heal 20 = .ok (.iconst (-1), 1) := by decide +kernel
theorem dX9_heal_21 : decode cX9_heal 21 = .ok (.ireturn, 1) := by decide +kernel
theorem dX9_heal_22 : decode cX9_heal 22 = .ok (.iconst 0, 1) := by decide +kernel
theorem dX9_heal_23 : decode cX9_heal 23 = .ok (.istore_n 2, 1) := by decide +kernel
theorem dX9_heal_24 : decode cX9_heal 24 = .ok (.iconst 0, 1) := by decide +kernel
theorem dX9_heal_25 : decode cX9_heal 25 = .ok (.istore_n 3, 1) := by decide +kernel
theorem dX9_heal_26 : decode cX9_heal 26 = .ok (.iload_n 3, 1) := by decide +kernel
theorem dX9_heal_27 : decode cX9_heal 27 = .ok (.aload_n 0, 1) := by decide +kernel
theorem dX9_heal_28 : decode cX9_heal 28 = .ok (.getfield 58, 3) := by decide +kernel
theorem dX9_heal_31 : decode cX9_heal 31 = .ok (.aload_n 0, 1) := by decide +kernel
theorem dX9_heal_32 : decode cX9_heal 32 = .ok (.getfield 307, 3) := by decide +kernel
theorem dX9_heal_35 : decode cX9_heal 35 = .ok (.iaload, 1) := by decide +kernel
theorem dX9_heal_36 : decode cX9_heal 36 = .ok (.if_icmp .ge 44, 3) := by decide +kernel
theorem dX9_heal_39 : decode cX9_heal 39 = .ok (.iload_n 2, 1) := by decide +kernel
theorem dX9_heal_40 : decode cX9_heal 40 = .ok (.ifCond .ne 28, 3) := by decide +kernel
theorem dX9_heal_43 : decode cX9_heal 43 = .ok (.iload_n 3, 1) := by decide +kernel
theorem dX9_heal_44 : decode cX9_heal 44 = .ok (.iload_n 1, 1) := by decide +kernel
theorem dX9_heal_45 : decode cX9_heal 45 = .ok (.if_icmp .eq 12, 3) := by decide +kernel
theorem dX9_heal_48 : decode cX9_heal 48 = .ok (.aload_n 0, 1) := by decide +kernel
theorem dX9_heal_49 : decode cX9_heal 49 = .ok (.iload_n 3, 1) := by decide +kernel
theorem dX9_heal_50 : decode cX9_heal 50 = .ok (.iload_n 1, 1) := by decide +kernel
theorem dX9_heal_51 : decode cX9_heal 51 = .ok (.invokevirtual 576, 3) := by decide +kernel
theorem dX9_heal_54 : decode cX9_heal 54 = .ok (.ifCond .eq 18, 3) := by decide +kernel
theorem dX9_heal_57 : decode cX9_heal 57 = .ok (.aload_n 0, 1) := by decide +kernel
theorem dX9_heal_58 : decode cX9_heal 58 = .ok (.getfield 149, 3) := by decide +kernel
theorem dX9_heal_61 : decode cX9_heal 61 = .ok (.iload_n 3, 1) := by decide +kernel
theorem dX9_heal_62 : decode cX9_heal 62 = .ok (.iaload, 1) := by decide +kernel
theorem dX9_heal_63 : decode cX9_heal 63 = .ok (.bipush 30, 2) := by decide +kernel
theorem dX9_heal_65 : decode cX9_heal 65 = .ok (.if_icmp .ne 7, 3) := by decide +kernel
theorem dX9_heal_68 : decode cX9_heal 68 = .ok (.iconst 1, 1) := by decide +kernel
theorem dX9_heal_69 : decode cX9_heal 69 = .ok (.goto 4, 3) := by decide +kernel
theorem dX9_heal_72 : decode cX9_heal 72 = .ok (.iconst 0, 1) := by decide +kernel
theorem dX9_heal_73 : decode cX9_heal 73 = .ok (.istore_n 2, 1) := by decide +kernel
theorem dX9_heal_74 : decode cX9_heal 74 = .ok (.iinc 3 1, 3) := by decide +kernel
theorem dX9_heal_77 : decode cX9_heal 77 = .ok (.goto (-51), 3) := by decide +kernel
theorem dX9_heal_80 : decode cX9_heal 80 = .ok (.iload_n 2, 1) := by decide +kernel
theorem dX9_heal_81 : decode cX9_heal 81 = .ok (.ifCond .eq 5, 3) := by decide +kernel
theorem dX9_heal_84 : decode cX9_heal 84 = .ok (.iconst (-1), 1) := by decide +kernel
theorem dX9_heal_85 : decode cX9_heal 85 = .ok (.ireturn, 1) := by decide +kernel
theorem dX9_heal_86 : decode cX9_heal 86 = .ok (.iconst 0, 1) := by decide +kernel
theorem dX9_heal_87 : decode cX9_heal 87 = .ok (.istore_n 3, 1) := by decide +kernel
theorem dX9_heal_88 : decode cX9_heal 88 = .ok (.iconst 0, 1) := by decide +kernel
theorem dX9_heal_89 : decode cX9_heal 89 = .ok (.istore 4, 2) := by decide +kernel
theorem dX9_heal_91 : decode cX9_heal 91 = .ok (.iload 4, 2) := by decide +kernel
theorem dX9_heal_93 : decode cX9_heal 93 = .ok (.aload_n 0, 1) := by decide +kernel
theorem dX9_heal_94 : decode cX9_heal 94 = .ok (.getfield 58, 3) := by decide +kernel
theorem dX9_heal_97 : decode cX9_heal 97 = .ok (.aload_n 0, 1) := by decide +kernel
theorem dX9_heal_98 : decode cX9_heal 98 = .ok (.getfield 307, 3) := by decide +kernel
theorem dX9_heal_101 : decode cX9_heal 101 = .ok (.iaload, 1) := by decide +kernel
theorem dX9_heal_102 : decode cX9_heal 102 = .ok (.if_icmp .ge 101, 3) := by decide +kernel
theorem dX9_heal_105 : decode cX9_heal 105 = .ok (.iload 4, 2) := by decide +kernel
theorem dX9_heal_107 : decode cX9_heal 107 = .ok (.iload_n 1, 1) := by decide +kernel
theorem dX9_heal_108 : decode cX9_heal 108 = .ok (.if_icmp .eq 13, 3) := by decide +kernel
theorem dX9_heal_111 : decode cX9_heal 111 = .ok (.aload_n 0, 1) := by decide +kernel
theorem dX9_heal_112 : decode cX9_heal 112 = .ok (.iload 4, 2) := by decide +kernel
theorem dX9_heal_114 : decode cX9_heal 114 = .ok (.iload_n 1, 1) := by decide +kernel
theorem dX9_heal_115 : decode cX9_heal 115 = .ok (.invokevirtual 576, 3) := by decide +kernel
theorem dX9_heal_118 : decode cX9_heal 118 = .ok (.ifCond .eq 79, 3) := by decide +kernel
theorem dX9_heal_121 : decode cX9_heal 121 = .ok (.aload_n 0, 1) := by decide +kernel
theorem dX9_heal_122 : decode cX9_heal 122 = .ok (.getfield 149, 3) := by decide +kernel
theorem dX9_heal_125 : decode cX9_heal 125 = .ok (.iload 4, 2) := by decide +kernel
theorem dX9_heal_127 : decode cX9_heal 127 = .ok (.dup2, 1) := by decide +kernel
theorem dX9_heal_128 : decode cX9_heal 128 = .ok (.iaload, 1) := by decide +kernel
theorem dX9_heal_129 : decode cX9_heal 129 = .ok (.iconst 1, 1) := by decide +kernel
theorem dX9_heal_130 : decode cX9_heal 130 = .ok (.iadd, 1) := by decide +kernel
theorem dX9_heal_131 : decode cX9_heal 131 = .ok (.iastore, 1) := by decide +kernel
theorem dX9_heal_132 : decode cX9_heal 132 = .ok (.aload_n 0, 1) := by decide +kernel
theorem dX9_heal_133 : decode cX9_heal 133 = .ok (.getfield 146, 3) := by decide +kernel
theorem dX9_heal_136 : decode cX9_heal 136 = .ok (.iload 4, 2) := by decide +kernel
theorem dX9_heal_138 : decode cX9_heal 138 = .ok (.iconst 0, 1) := by decide +kernel
theorem dX9_heal_139 : decode cX9_heal 139 = .ok (.iastore, 1) := by decide +kernel
theorem dX9_heal_140 : decode cX9_heal 140 = .ok (.aload_n 0, 1) := by decide +kernel
theorem dX9_heal_141 : decode cX9_heal 141 = .ok (.getfield 155, 3) := by decide +kernel
theorem dX9_heal_144 : decode cX9_heal 144 = .ok (.iload 4, 2) := by decide +kernel
theorem dX9_heal_146 : decode cX9_heal 146 = .ok (.iconst 0, 1) := by decide +kernel
theorem dX9_heal_147 : decode cX9_heal 147 = .ok (.iastore, 1) := by decide +kernel
theorem dX9_heal_148 : decode cX9_heal 148 = .ok (.aload_n 0, 1) := by decide +kernel
theorem dX9_heal_149 : decode cX9_heal 149 = .ok (.getfield 158, 3) := by decide +kernel
theorem dX9_heal_152 : decode cX9_heal 152 = .ok (.iload 4, 2) := by decide +kernel
theorem dX9_heal_154 : decode cX9_heal 154 = .ok (.iconst 0, 1) := by decide +kernel
theorem dX9_heal_155 : decode cX9_heal 155 = .ok (.iastore, 1) := by decide +kernel
theorem dX9_heal_156 : decode cX9_heal 156 = .ok (.aload_n 0, 1) := by decide +kernel
theorem dX9_heal_157 : decode cX9_heal 157 = .ok (.getfield 164, 3) := by decide +kernel
theorem dX9_heal_160 : decode cX9_heal 160 = .ok (.iload 4, 2) := by decide +kernel
theorem dX9_heal_162 : decode cX9_heal 162 = .ok (.iconst 0, 1) := by decide +kernel
theorem dX9_heal_163 : decode cX9_heal 163 = .ok (.iastore, 1) := by decide +kernel
theorem dX9_heal_164 : decode cX9_heal 164 = .ok (.iconst 0, 1) := by decide +kernel
theorem dX9_heal_165 : decode cX9_heal 165 = .ok (.istore 5, 2) := by decide +kernel
theorem dX9_heal_167 : decode cX9_heal 167 = .ok (.iload 5, 2) := by decide +kernel
theorem dX9_heal_169 : decode cX9_heal 169 = .ok (.bipush 8, 2) := by decide +kernel
theorem dX9_heal_171 : decode cX9_heal 171 = .ok (.if_icmp .ge 23, 3) := by decide +kernel
theorem dX9_heal_174 : decode cX9_heal 174 = .ok (.aload_n 0, 1) := by decide +kernel
theorem dX9_heal_175 : decode cX9_heal 175 = .ok (.getfield 152, 3) := by decide +kernel
theorem dX9_heal_178 : decode cX9_heal 178 = .ok (.bipush 8, 2) := by decide +kernel
theorem dX9_heal_180 : decode cX9_heal 180 = .ok (.iload 4, 2) := by decide +kernel
theorem dX9_heal_182 : decode cX9_heal 182 = .ok (.imul, 1) := by decide +kernel
theorem dX9_heal_183 : decode cX9_heal 183 = .ok (.iload 5, 2) := by decide +kernel
theorem dX9_heal_185 : decode cX9_heal 185 = .ok (.iadd, 1) := by decide +kernel
theorem dX9_heal_186 : decode cX9_heal 186 = .ok (.iconst 0, 1) := by decide +kernel
theorem dX9_heal_187 : decode cX9_heal 187 = .ok (.iastore, 1) := by decide +kernel
theorem dX9_heal_188 : decode cX9_heal 188 = .ok (.iinc 5 1, 3) := by decide +kernel
theorem dX9_heal_191 : decode cX9_heal 191 = .ok (.goto (-24), 3) := by decide +kernel
theorem dX9_heal_194 : decode cX9_heal 194 = .ok (.iinc 3 1, 3) := by decide +kernel
theorem dX9_heal_197 : decode cX9_heal 197 = .ok (.iinc 4 1, 3) := by decide +kernel
theorem dX9_heal_200 : decode cX9_heal 200 = .ok (.goto (-109), 3) := by decide +kernel
theorem dX9_heal_203 : decode cX9_heal 203 = .ok (.iload_n 3, 1) := by decide +kernel
theorem dX9_heal_204 : decode cX9_heal 204 = .ok (.ireturn, 1) := by decide +kernel
theorem dX9_close_0 : decode cX9_close 0 = .ok (.aload_n 0, 1) := by decide +kernel
theorem dX9_close_1 : decode cX9_close 1 = .ok (.iconst 0, 1) := by decide +kernel
theorem dX9_close_2 : decode cX9_close 2 = .ok (.putfield 1, 3) := by decide +kernel
theorem dX9_close_5 : decode cX9_close 5 = .ok (.aload_n 0, 1) := by decide +kernel
theorem dX9_close_6 : decode cX9_close 6 = .ok (.getfield 460, 3) := by decide +kernel
theorem dX9_close_9 : decode cX9_close 9 = .ok (.ifCond .eq 5, 3) := by decide +kernel
theorem dX9_close_12 : decode cX9_close 12 = .ok (.iconst (-1), 1) := by decide +kernel
theorem dX9_close_13 : decode cX9_close 13 = .ok (.ireturn, 1) := by decide +kernel
theorem dX9_close_14 : decode cX9_close 14 = .ok (.iconst 0, 1) := by decide +kernel
theorem dX9_close_15 : decode cX9_close 15 = .ok (.istore_n 1, 1) := by decide +kernel
theorem dX9_close_16 : decode cX9_close 16 = .ok (.aload_n 0, 1) := by decide +kernel
theorem dX9_close_17 : decode cX9_close 17 = .ok (.getfield 470, 3) := by decide +kernel
theorem dX9_close_20 : decode cX9_close 20 = .ok (.iconst 1, 1) := by decide +kernel
theorem dX9_close_21 : decode cX9_close 21 = .ok (.isub, 1) := by decide +kernel
theorem dX9_close_22 : decode cX9_close 22 = .ok (.istore_n 2, 1) := by decide +kernel
theorem dX9_close_23 : decode cX9_close 23 = .ok (.iload_n 2, 1) := by decide +kernel
theorem dX9_close_24 : decode cX9_close 24 = .ok (.ifCond .lt 49, 3) := by decide +kernel
theorem dX9_close_27 : decode cX9_close 27 = .ok (.aload_n 0, 1) := by decide +kernel
theorem dX9_close_28 : decode cX9_close 28 = .ok (.getfield 179, 3) := by decide +kernel
theorem dX9_close_31 : decode cX9_close 31 = .ok (.iload_n 2, 1) := by decide +kernel
theorem dX9_close_32 : decode cX9_close 32 = .ok (.iaload, 1) := by decide +kernel
theorem dX9_close_33 : decode cX9_close 33 = .ok (.istore_n 3, 1) := by decide +kernel
theorem dX9_close_34 : decode cX9_close 34 = .ok (.aload_n 0, 1) := by decide +kernel
theorem dX9_close_35 : decode cX9_close 35 = .ok (.getfield 146, 3) := by decide +kernel
theorem dX9_close_38 : decode cX9_close 38 = .ok (.iload_n 3, 1) := by decide +kernel
theorem dX9_close_39 : decode cX9_close 39 = .ok (.iaload, 1) := by decide +kernel
theorem dX9_close_40 : decode cX9_close 40 = .ok (.iconst 2, 1) := by decide +kernel
theorem dX9_close_41 : decode cX9_close 41 = .ok (.if_icmp .ne 26, 3) := by decide +kernel
theorem dX9_close_44 : decode cX9_close 44 = .ok (.aload_n 0, 1) := by decide +kernel
theorem dX9_close_45 : decode cX9_close 45 = .ok (.getfield 182, 3) := by decide +kernel
theorem dX9_close_48 : decode cX9_close 48 = .ok (.iload_n 2, 1) := by decide +kernel
theorem dX9_close_49 : decode cX9_close 49 = .ok (.iaload, 1) := by decide +kernel
theorem dX9_close_50 : decode cX9_close 50 = .ok (.aload_n 0, 1) := by decide +kernel
theorem dX9_close_51 : decode cX9_close 51 = .ok (.getfield 149, 3) := by decide +kernel
theorem dX9_close_54 : decode cX9_close 54 = .ok (.iload_n 3, 1) := by decide +kernel
theorem dX9_close_55 : decode cX9_close 55 = .ok (.iaload, 1) := by decide +kernel
theorem dX9_close_56 : decode cX9_close 56 = .ok (.if_icmp .ne 11, 3) := by decide +kernel
theorem dX9_close_59 : decode cX9_close 59 = .ok (.aload_n 0, 1) := by decide +kernel
theorem dX9_close_60 : decode cX9_close 60 = .ok (.iload_n 3, 1) := by decide +kernel
theorem dX9_close_61 : decode cX9_close 61 = .ok (.invokevirtual 579, 3) := by decide +kernel
theorem dX9_close_64 : decode cX9_close 64 = .ok (.iinc 1 1, 3) := by decide +kernel
theorem dX9_close_67 : decode cX9_close 67 = .ok (.iinc 2 (-1), 3) := by decide +kernel
theorem dX9_close_70 : decode cX9_close 70 = .ok (.goto (-47), 3) := by decide +kernel
theorem dX9_close_73 : decode cX9_close 73 = .ok (.aload_n 0, 1) := by decide +kernel
theorem dX9_close_74 : decode cX9_close 74 = .ok (.iconst 1, 1) := by decide +kernel
theorem dX9_close_75 : decode cX9_close 75 = .ok (.putfield 460, 3) := by decide +kernel
theorem dX9_close_78 : decode cX9_close 78 = .ok (.iload_n 1, 1) := by decide +kernel
theorem dX9_close_79 : decode cX9_close 79 = .ok (.ireturn, 1) := by decide +kernel
theorem dX9_closes_0 : decode cX9_closes 0 = .ok (.iconst 0, 1) := by decide +kernel
theorem dX9_closes_1 : decode cX9_closes 1 = .ok (.istore_n 2, 1) := by decide +kernel
theorem dX9_closes_2 : decode cX9_closes 2 = .ok (.bipush 24, 2) := by decide +kernel
theorem dX9_closes_4 : decode cX9_closes 4 = .ok (.aload_n 0, 1) := by decide +kernel
theorem dX9_closes_5 : decode cX9_closes 5 = .ok (.getfield 307, 3) := by decide +kernel
theorem dX9_closes_8 : decode cX9_closes 8 = .ok (.imul, 1) := by decide +kernel
theorem dX9_closes_9 : decode cX9_closes 9 = .ok (.iload_n 1, 1) := by decide +kernel
theorem dX9_closes_10 : decode cX9_closes 10 = .ok (.iadd, 1) := by decide +kernel
theorem dX9_closes_11 : decode cX9_closes 11 = .ok (.istore_n 3, 1) := by decide +kernel
theorem dX9_closes_12 : decode cX9_closes 12 = .ok (.aload_n 0, 1) := by decide +kernel
theorem dX9_closes_13 : decode cX9_closes 13 = .ok (.getfield 104, 3) := by decide +kernel
theorem dX9_closes_16 : decode cX9_closes 16 = .ok (.iload_n 3, 1) := by decide +kernel
theorem dX9_closes_17 : decode cX9_closes 17 = .ok (.iaload, 1) := by decide +kernel
theorem dX9_closes_18 : decode cX9_closes 18 = .ok (.ifCond .lt 38, 3) := by decide +kernel
theorem dX9_closes_21 : decode cX9_closes 21 = .ok (.aload_n 0, 1) := by decide +kernel
theorem dX9_closes_22 : decode cX9_closes 22 = .ok (.sipush 2000, 3) := by decide +kernel
theorem dX9_closes_25 : decode cX9_closes 25 = .ok (.putfield 519, 3) := by decide +kernel
theorem dX9_closes_28 : decode cX9_closes 28 = .ok (.aload_n 0, 1) := by decide +kernel
theorem dX9_closes_29 : decode cX9_closes 29 = .ok (.iconst 0, 1) := by decide +kernel
theorem dX9_closes_30 : decode cX9_closes 30 = .ok (.putfield 516, 3) := by decide +kernel
theorem dX9_closes_33 : decode cX9_closes 33 = .ok (.aload_n 0, 1) := by decide +kernel
theorem dX9_closes_34 : decode cX9_closes 34 = .ok (.iconst 0, 1) := by decide +kernel
theorem dX9_closes_35 : decode cX9_closes 35 = .ok (.putfield 532, 3) := by decide +kernel
theorem dX9_closes_38 : decode cX9_closes 38 = .ok (.aload_n 0, 1) := by decide +kernel
theorem dX9_closes_39 : decode cX9_closes 39 = .ok (.iconst 0, 1) := by decide +kernel
theorem dX9_closes_40 : decode cX9_closes 40 = .ok (.putfield 535, 3) := by decide +kernel
theorem dX9_closes_43 : decode cX9_closes 43 = .ok (.aload_n 0, 1) := by decide +kernel
theorem dX9_closes_44 : decode cX9_closes 44 = .ok (.aload_n 0, 1) := by decide +kernel
theorem dX9_closes_45 : decode cX9_closes 45 = .ok (.getfield 104, 3) := by decide +kernel
theorem dX9_closes_48 : decode cX9_closes 48 = .ok (.iload_n 3, 1) := by decide +kernel
theorem dX9_closes_49 : decode cX9_closes 49 = .ok (.iaload, 1) := by decide +kernel
theorem dX9_closes_50 : decode cX9_closes 50 = .ok (.iload_n 1, 1) := by decide +kernel
theorem dX9_closes_51 : decode cX9_closes 51 = .ok (.iconst 1, 1) := by decide +kernel
theorem dX9_closes_52 : decode cX9_closes 52 = .ok (.invokevirtual 509, 3) := by decide +kernel
theorem dX9_closes_55 : decode cX9_closes 55 = .ok (.istore_n 2, 1) := by decide +kernel
theorem dX9_closes_56 : decode cX9_closes 56 = .ok (.aload_n 0, 1) := by decide +kernel
theorem dX9_closes_57 : decode cX9_closes 57 = .ok (.getfield 146, 3) := by decide +kernel
theorem dX9_closes_60 : decode cX9_closes 60 = .ok (.iload_n 1, 1) := by decide +kernel
theorem dX9_closes_61 : decode cX9_closes 61 = .ok (.iconst 4, 1) := by decide +kernel
theorem dX9_closes_62 : decode cX9_closes 62 = .ok (.iastore, 1) := by decide +kernel
theorem dX9_closes_63 : decode cX9_closes 63 = .ok (.aload_n 0, 1) := by decide +kernel
theorem dX9_closes_64 : decode cX9_closes 64 = .ok (.getfield 209, 3) := by decide +kernel
theorem dX9_closes_67 : decode cX9_closes 67 = .ok (.aload_n 0, 1) := by decide +kernel
theorem dX9_closes_68 : decode cX9_closes 68 = .ok (.getfield 479, 3) := by decide +kernel
theorem dX9_closes_71 : decode cX9_closes 71 = .ok (.iload_n 1, 1) := by decide +kernel
theorem dX9_closes_72 : decode cX9_closes 72 = .ok (.iastore, 1) := by decide +kernel
theorem dX9_closes_73 : decode cX9_closes 73 = .ok (.aload_n 0, 1) := by decide +kernel
theorem dX9_closes_74 : decode cX9_closes 74 = .ok (.getfield 212, 3) := by decide +kernel
theorem dX9_closes_77 : decode cX9_closes 77 = .ok (.aload_n 0, 1) := by decide +kernel
theorem dX9_closes_78 : decode cX9_closes 78 = .ok (.getfield 479, 3) := by decide +kernel
theorem dX9_closes_81 : decode cX9_closes 81 = .ok (.iload_n 2, 1) := by decide +kernel
theorem dX9_closes_82 : decode cX9_closes 82 = .ok (.ifCond .ne 7, 3) := by decide +kernel
theorem dX9_closes_85 : decode cX9_closes 85 = .ok (.iconst 0, 1) := by decide +kernel
theorem dX9_closes_86 : decode cX9_closes 86 = .ok (.goto 17, 3) := by decide +kernel
theorem dX9_closes_89 : decode cX9_closes 89 = .ok (.iload_n 2, 1) := by decide +kernel
theorem dX9_closes_90 : decode cX9_closes 90 = .ok (.iconst 2, 1) := by decide +kernel
theorem dX9_closes_91 : decode cX9_closes 91 = .ok (.if_icmp .ne 8, 3) := by decide +kernel
theorem dX9_closes_94 : decode cX9_closes 94 = .ok (.bipush 22, 2) := by decide +kernel
theorem dX9_closes_96 : decode cX9_closes 96 = .ok (.goto 7, 3) := by decide +kernel
theorem dX9_closes_99 : decode cX9_closes 99 = .ok (.aload_n 0, 1) := by decide +kernel
theorem dX9_closes_100 : decode cX9_closes 100 = .ok (.getfield 491, 3) := by decide +kernel
theorem dX9_closes_103 : decode cX9_closes 103 = .ok (.iastore, 1) := by decide +kernel
theorem dX9_closes_104 : decode cX9_closes 104 = .ok (.aload_n 0, 1) := by decide +kernel
theorem dX9_closes_105 : decode cX9_closes 105 = .ok (.dup, 1) := by decide +kernel
theorem dX9_closes_106 : decode cX9_closes 106 = .ok (.getfield 479, 3) := by decide +kernel
theorem dX9_closes_109 : decode cX9_closes 109 = .ok (.iconst 1, 1) := by decide +kernel
theorem dX9_closes_110 : decode cX9_closes 110 = .ok (.iadd, 1) := by decide +kernel
theorem dX9_closes_111 : decode cX9_closes 111 = .ok (.putfield 479, 3) := by decide +kernel
theorem dX9_closes_114 : decode cX9_closes 114 = .ok (.return_, 1) := by decide +kernel
theorem dX9_beat_0 : decode cX9_beat 0 = .ok (.aload_n 0, 1) := by decide +kernel
theorem dX9_beat_1 : decode cX9_beat 1 = .ok (.iconst 0, 1) := by decide +kernel
theorem dX9_beat_2 : decode cX9_beat 2 = .ok (.putfield 1, 3) := by decide +kernel
theorem dX9_beat_5 : decode cX9_beat 5 = .ok (.iload_n 1, 1) := by decide +kernel
theorem dX9_beat_6 : decode cX9_beat 6 = .ok (.ifCond .lt 10, 3) := by decide +kernel
theorem dX9_beat_9 : decode cX9_beat 9 = .ok (.iload_n 1, 1) := by decide +kernel
theorem dX9_beat_10 : decode cX9_beat 10 = .ok (.sipush 1000, 3) := by decide +kernel
theorem dX9_beat_13 : decode cX9_beat 13 = .ok (.if_icmp .le 5, 3) := by decide +kernel
theorem dX9_beat_16 : decode cX9_beat 16 = .ok (.iconst (-1), 1) := by decide +kernel
theorem dX9_beat_17 : decode cX9_beat 17 = .ok (.ireturn, 1) := by decide +kernel
theorem dX9_beat_18 : decode cX9_beat 18 = .ok (.iconst 0, 1) := by decide +kernel
theorem dX9_beat_19 : decode cX9_beat 19 = .ok (.istore_n 2, 1) := by decide +kernel
theorem dX9_beat_20 : decode cX9_beat 20 = .ok (.iload_n 2, 1) := by decide +kernel
theorem dX9_beat_21 : decode cX9_beat 21 = .ok (.iload_n 1, 1) := by decide +kernel
theorem dX9_beat_22 : decode cX9_beat 22 = .ok (.if_icmp .ge 108, 3) := by decide +kernel
theorem dX9_beat_25 : decode cX9_beat 25 = .ok (.aload_n 0, 1) := by decide +kernel
theorem dX9_beat_26 : decode cX9_beat 26 = .ok (.dup, 1) := by decide +kernel
theorem dX9_beat_27 : decode cX9_beat 27 = .ok (.getfield 457, 3) := by decide +kernel
theorem dX9_beat_30 : decode cX9_beat 30 = .ok (.iconst 1, 1) := by decide +kernel
theorem dX9_beat_31 : decode cX9_beat 31 = .ok (.iadd, 1) := by decide +kernel
theorem dX9_beat_32 : decode cX9_beat 32 = .ok (.putfield 457, 3) := by decide +kernel
theorem dX9_beat_35 : decode cX9_beat 35 = .ok (.iconst 0, 1) := by decide +kernel
theorem dX9_beat_36 : decode cX9_beat 36 = .ok (.istore_n 3, 1) := by decide +kernel
theorem dX9_beat_37 : decode cX9_beat 37 = .ok (.iload_n 3, 1) := by decide +kernel
theorem dX9_beat_38 : decode cX9_beat 38 = .ok (.aload_n 0, 1) := by decide +kernel
theorem dX9_beat_39 : decode cX9_beat 39 = .ok (.getfield 43, 3) := by decide +kernel
theorem dX9_beat_42 : decode cX9_beat 42 = .ok (.aload_n 0, 1) := by decide +kernel
theorem dX9_beat_43 : decode cX9_beat 43 = .ok (.getfield 307, 3) := by decide +kernel
theorem dX9_beat_46 : decode cX9_beat 46 = .ok (.iaload, 1) := by decide +kernel
theorem dX9_beat_47 : decode cX9_beat 47 = .ok (.if_icmp .ge 77, 3) := by decide +kernel
theorem dX9_beat_50 : decode cX9_beat 50 = .ok (.aload_n 0, 1) := by decide +kernel
theorem dX9_beat_51 : decode cX9_beat 51 = .ok (.getfield 55, 3) := by decide +kernel
theorem dX9_beat_54 : decode cX9_beat 54 = .ok (.bipush 24, 2) := by decide +kernel
theorem dX9_beat_56 : decode cX9_beat 56 = .ok (.aload_n 0, 1) := by decide +kernel
theorem dX9_beat_57 : decode cX9_beat 57 = .ok (.getfield 307, 3) := by decide +kernel
theorem dX9_beat_60 : decode cX9_beat 60 = .ok (.imul, 1) := by decide +kernel
theorem dX9_beat_61 : decode cX9_beat 61 = .ok (.iload_n 3, 1) := by decide +kernel
theorem dX9_beat_62 : decode cX9_beat 62 = .ok (.iadd, 1) := by decide +kernel
theorem dX9_beat_63 : decode cX9_beat 63 = .ok (.iaload, 1) := by decide +kernel
theorem dX9_beat_64 : decode cX9_beat 64 = .ok (.istore 4, 2) := by decide +kernel
theorem dX9_beat_66 : decode cX9_beat 66 = .ok (.aload_n 0, 1) := by decide +kernel
theorem dX9_beat_67 : decode cX9_beat 67 = .ok (.getfield 170, 3) := by decide +kernel
theorem dX9_beat_70 : decode cX9_beat 70 = .ok (.iload_n 3, 1) := by decide +kernel
theorem dX9_beat_71 : decode cX9_beat 71 = .ok (.iaload, 1) := by decide +kernel
theorem dX9_beat_72 : decode cX9_beat 72 = .ok (.aload_n 0, 1) := by decide +kernel
theorem dX9_beat_73 : decode cX9_beat 73 = .ok (.getfield 167, 3) := by decide +kernel
theorem dX9_beat_76 : decode cX9_beat 76 = .ok (.iload_n 3, 1) := by decide +kernel
theorem dX9_beat_77 : decode cX9_beat 77 = .ok (.iaload, 1) := by decide +kernel
theorem dX9_beat_78 : decode cX9_beat 78 = .ok (.isub, 1) := by decide +kernel
theorem dX9_beat_79 : decode cX9_beat 79 = .ok (.istore 5, 2) := by decide +kernel
theorem dX9_beat_81 : decode cX9_beat 81 = .ok (.aload_n 0, 1) := by decide +kernel
theorem dX9_beat_82 : decode cX9_beat 82 = .ok (.getfield 167, 3) := by decide +kernel
theorem dX9_beat_85 : decode cX9_beat 85 = .ok (.iload_n 3, 1) := by decide +kernel
theorem dX9_beat_86 : decode cX9_beat 86 = .ok (.dup2, 1) := by decide +kernel
theorem dX9_beat_87 : decode cX9_beat 87 = .ok (.iaload, 1) := by decide +kernel
theorem dX9_beat_88 : decode cX9_beat 88 = .ok (.iload 5, 2) := by decide +kernel
theorem dX9_beat_90 : decode cX9_beat 90 = .ok (.iload 4, 2) := by decide +kernel
theorem dX9_beat_92 : decode cX9_beat 92 = .ok (.if_icmp .le 8, 3) := by decide +kernel
theorem dX9_beat_95 : decode cX9_beat 95 = .ok (.iload 4, 2) := by decide +kernel
theorem dX9_beat_97 : decode cX9_beat 97 = .ok (.goto 19, 3) := by decide +kernel
theorem dX9_beat_100 : decode cX9_beat 100 = .ok (.iload 5, 2) := by decide +kernel
theorem dX9_beat_102 : decode cX9_beat 102 = .ok (.iload 4, 2) := by decide +kernel
theorem dX9_beat_104 : decode cX9_beat 104 = .ok (.ineg, 1) := by decide +kernel
theorem dX9_beat_105 : decode cX9_beat 105 = .ok (.if_icmp .ge 9, 3) := by decide +kernel
theorem dX9_beat_108 : decode cX9_beat 108 = .ok (.iload 4, 2) := by decide +kernel
theorem dX9_beat_110 : decode cX9_beat 110 = .ok (.ineg, 1) := by decide +kernel
theorem dX9_beat_111 : decode cX9_beat 111 = .ok (.goto 5, 3) := by decide +kernel
theorem dX9_beat_114 : decode cX9_beat 114 = .ok (.iload 5, 2) := by decide +kernel
theorem dX9_beat_116 : decode cX9_beat 116 = .ok (.iadd, 1) := by decide +kernel
theorem dX9_beat_117 : decode cX9_beat 117 = .ok (.iastore, 1) := by decide +kernel
theorem dX9_beat_118 : decode cX9_beat 118 = .ok (.iinc 3 1, 3) := by decide +kernel
theorem dX9_beat_121 : decode cX9_beat 121 = .ok (.goto (-84), 3) := by decide +kernel
theorem dX9_beat_124 : decode cX9_beat 124 = .ok (.iinc 2 1, 3) := by decide +kernel
theorem dX9_beat_127 : decode cX9_beat 127 = .ok (.goto (-107), 3) := by decide +kernel
theorem dX9_beat_130 : decode cX9_beat 130 = .ok (.aload_n 0, 1) := by decide +kernel
theorem dX9_beat_131 : decode cX9_beat 131 = .ok (.getfield 457, 3) := by decide +kernel
theorem dX9_beat_134 : decode cX9_beat 134 = .ok (.ireturn, 1) := by decide +kernel
theorem dX9_swapAll_0 : decode cX9_swapAll 0 = .ok (.iconst 0, 1) := by decide +kernel
theorem dX9_swapAll_1 : decode cX9_swapAll 1 = .ok (.istore_n 2, 1) := by decide +kernel
theorem dX9_swapAll_2 : decode cX9_swapAll 2 = .ok (.iload_n 2, 1) := by decide +kernel
theorem dX9_swapAll_3 : decode cX9_swapAll 3 = .ok (.bipush 24, 2) := by decide +kernel
theorem dX9_swapAll_5 : decode cX9_swapAll 5 = .ok (.if_icmp .ge 136, 3) := by decide +kernel
theorem dX9_swapAll_8 : decode cX9_swapAll 8 = .ok (.iload_n 1, 1) := by decide +kernel
theorem dX9_swapAll_9 : decode cX9_swapAll 9 = .ok (.ifCond .eq 66, 3) := by decide +kernel
theorem dX9_swapAll_12 : decode cX9_swapAll 12 = .ok (.aload_n 0, 1) := by decide +kernel
theorem dX9_swapAll_13 : decode cX9_swapAll 13 = .ok (.getfield 146, 3) := by decide +kernel
theorem dX9_swapAll_16 : decode cX9_swapAll 16 = .ok (.iload_n 2, 1) := by decide +kernel
theorem dX9_swapAll_17 : decode cX9_swapAll 17 = .ok (.aload_n 0, 1) := by decide +kernel
theorem dX9_swapAll_18 : decode cX9_swapAll 18 = .ok (.getfield 227, 3) := by decide +kernel
theorem dX9_swapAll_21 : decode cX9_swapAll 21 = .ok (.iload_n 2, 1) := by decide +kernel
theorem dX9_swapAll_22 : decode cX9_swapAll 22 = .ok (.iaload, 1) := by decide +kernel
theorem dX9_swapAll_23 : decode cX9_swapAll 23 = .ok (.iastore, 1) := by decide +kernel
theorem dX9_swapAll_24 : decode cX9_swapAll 24 = .ok (.aload_n 0, 1) := by decide +kernel
theorem dX9_swapAll_25 : decode cX9_swapAll 25 = .ok (.getfield 155, 3) := by decide +kernel
theorem dX9_swapAll_28 : decode cX9_swapAll 28 = .ok (.iload_n 2, 1) := by decide +kernel
theorem dX9_swapAll_29 : decode cX9_swapAll 29 = .ok (.aload_n 0, 1) := by decide +kernel
theorem dX9_swapAll_30 : decode cX9_swapAll 30 = .ok (.getfield 233, 3) := by decide +kernel
theorem dX9_swapAll_33 : decode cX9_swapAll 33 = .ok (.iload_n 2, 1) := by decide +kernel
theorem dX9_swapAll_34 : decode cX9_swapAll 34 = .ok (.iaload, 1) := by decide +kernel
theorem dX9_swapAll_35 : decode cX9_swapAll 35 = .ok (.iastore, 1) := by decide +kernel
theorem dX9_swapAll_36 : decode cX9_swapAll 36 = .ok (.aload_n 0, 1) := by decide +kernel
theorem dX9_swapAll_37 : decode cX9_swapAll 37 = .ok (.getfield 158, 3) := by decide +kernel
theorem dX9_swapAll_40 : decode cX9_swapAll 40 = .ok (.iload_n 2, 1) := by decide +kernel
theorem dX9_swapAll_41 : decode cX9_swapAll 41 = .ok (.aload_n 0, 1) := by decide +kernel
theorem dX9_swapAll_42 : decode cX9_swapAll 42 = .ok (.getfield 236, 3) := by decide +kernel
theorem dX9_swapAll_45 : decode cX9_swapAll 45 = .ok (.iload_n 2, 1) := by decide +kernel
theorem dX9_swapAll_46 : decode cX9_swapAll 46 = .ok (.iaload, 1) := by decide +kernel
theorem dX9_swapAll_47 : decode cX9_swapAll 47 = .ok (.iastore, 1) := by decide +kernel
theorem dX9_swapAll_48 : decode cX9_swapAll 48 = .ok (.aload_n 0, 1) := by decide +kernel
theorem dX9_swapAll_49 : decode cX9_swapAll 49 = .ok (.getfield 164, 3) := by decide +kernel
theorem dX9_swapAll_52 : decode cX9_swapAll 52 = .ok (.iload_n 2, 1) := by decide +kernel
theorem dX9_swapAll_53 : decode cX9_swapAll 53 = .ok (.aload_n 0, 1) := by decide +kernel
theorem dX9_swapAll_54 : decode cX9_swapAll 54 = .ok (.getfield 239, 3) := by decide +kernel
theorem dX9_swapAll_57 : decode cX9_swapAll 57 = .ok (.iload_n 2, 1) := by decide +kernel
theorem dX9_swapAll_58 : decode cX9_swapAll 58 = .ok (.iaload, 1) := by decide +kernel
theorem dX9_swapAll_59 : decode cX9_swapAll 59 = .ok (.iastore, 1) := by decide +kernel
theorem dX9_swapAll_60 : decode cX9_swapAll 60 = .ok (.aload_n 0, 1) := by decide +kernel
theorem dX9_swapAll_61 : decode cX9_swapAll 61 = .ok (.getfield 170, 3) := by decide +kernel
theorem dX9_swapAll_64 : decode cX9_swapAll 64 = .ok (.iload_n 2, 1) := by decide +kernel
theorem dX9_swapAll_65 : decode cX9_swapAll 65 = .ok (.aload_n 0, 1) := by decide +kernel
theorem dX9_swapAll_66 : decode cX9_swapAll 66 = .ok (.getfield 242, 3) := by decide +kernel
theorem dX9_swapAll_69 : decode cX9_swapAll 69 = .ok (.iload_n 2, 1) := by decide +kernel
theorem dX9_swapAll_70 : decode cX9_swapAll 70 = .ok (.iaload, 1) := by decide +kernel
theorem dX9_swapAll_71 : decode cX9_swapAll 71 = .ok (.iastore, 1) := by decide +kernel
theorem dX9_swapAll_72 : decode cX9_swapAll 72 = .ok (.goto 63, 3) := by decide +kernel
theorem dX9_swapAll_75 : decode cX9_swapAll 75 = .ok (.aload_n 0, 1) := by decide +kernel
theorem dX9_swapAll_76 : decode cX9_swapAll 76 = .ok (.getfield 227, 3) := by decide +kernel
theorem dX9_swapAll_79 : decode cX9_swapAll 79 = .ok (.iload_n 2, 1) := by decide +kernel
theorem dX9_swapAll_80 : decode cX9_swapAll 80 = .ok (.aload_n 0, 1) := by decide +kernel
theorem dX9_swapAll_81 : decode cX9_swapAll 81 = .ok (.getfield 146, 3) := by decide +kernel
theorem dX9_swapAll_84 : decode cX9_swapAll 84 = .ok (.iload_n 2, 1) := by decide +kernel
theorem dX9_swapAll_85 : decode cX9_swapAll 85 = .ok (.iaload, 1) := by decide +kernel
theorem dX9_swapAll_86 : decode cX9_swapAll 86 = .ok (.iastore, 1) := by decide +kernel
theorem dX9_swapAll_87 : decode cX9_swapAll 87 = .ok (.aload_n 0, 1) := by decide +kernel
theorem dX9_swapAll_88 : decode cX9_swapAll 88 = .ok (.getfield 233, 3) := by decide +kernel
theorem dX9_swapAll_91 : decode cX9_swapAll 91 = .ok (.iload_n 2, 1) := by decide +kernel
theorem dX9_swapAll_92 : decode cX9_swapAll 92 = .ok (.aload_n 0, 1) := by decide +kernel
theorem dX9_swapAll_93 : decode cX9_swapAll 93 = .ok (.getfield 155, 3) := by decide +kernel
theorem dX9_swapAll_96 : decode cX9_swapAll 96 = .ok (.iload_n 2, 1) := by decide +kernel
theorem dX9_swapAll_97 : decode cX9_swapAll 97 = .ok (.iaload, 1) := by decide +kernel
theorem dX9_swapAll_98 : decode cX9_swapAll 98 = .ok (.iastore, 1) := by decide +kernel
theorem dX9_swapAll_99 : decode cX9_swapAll 99 = .ok (.aload_n 0, 1) := by decide +kernel
theorem dX9_swapAll_100 : decode cX9_swapAll 100 = .ok (.getfield 236, 3) := by decide +kernel
theorem dX9_swapAll_103 : decode cX9_swapAll 103 = .ok (.iload_n 2, 1) := by decide +kernel
theorem dX9_swapAll_104 : decode cX9_swapAll 104 = .ok (.aload_n 0, 1) := by decide +kernel
theorem dX9_swapAll_105 : decode cX9_swapAll 105 = .ok (.getfield 158, 3) := by decide +kernel
theorem dX9_swapAll_108 : decode cX9_swapAll 108 = .ok (.iload_n 2, 1) := by decide +kernel
theorem dX9_swapAll_109 : decode cX9_swapAll 109 = .ok (.iaload, 1) := by decide +kernel
theorem dX9_swapAll_110 : decode cX9_swapAll 110 = .ok (.iastore, 1) := by decide +kernel
theorem dX9_swapAll_111 : decode cX9_swapAll 111 = .ok (.aload_n 0, 1) := by decide +kernel
theorem dX9_swapAll_112 : decode cX9_swapAll 112 = .ok (.getfield 239, 3) := by decide +kernel
theorem dX9_swapAll_115 : decode cX9_swapAll 115 = .ok (.iload_n 2, 1) := by decide +kernel
theorem dX9_swapAll_116 : decode cX9_swapAll 116 = .ok (.aload_n 0, 1) := by decide +kernel
theorem dX9_swapAll_117 : decode cX9_swapAll 117 = .ok (.getfield 164, 3) := by decide +kernel
theorem dX9_swapAll_120 : decode cX9_swapAll 120 = .ok (.iload_n 2, 1) := by decide +kernel
theorem dX9_swapAll_121 : decode cX9_swapAll 121 = .ok (.iaload, 1) := by decide +kernel
theorem dX9_swapAll_122 : decode cX9_swapAll 122 = .ok (.iastore, 1) := by decide +kernel
theorem dX9_swapAll_123 : decode cX9_swapAll 123 = .ok (.aload_n 0, 1) := by decide +kernel
theorem dX9_swapAll_124 : decode cX9_swapAll 124 = .ok (.getfield 242, 3) := by decide +kernel
theorem dX9_swapAll_127 : decode cX9_swapAll 127 = .ok (.iload_n 2, 1) := by decide +kernel
theorem dX9_swapAll_128 : decode cX9_swapAll 128 = .ok (.aload_n 0, 1) := by decide +kernel
theorem dX9_swapAll_129 : decode cX9_swapAll 129 = .ok (.getfield 170, 3) := by decide +kernel
theorem dX9_swapAll_132 : decode cX9_swapAll 132 = .ok (.iload_n 2, 1) := by decide +kernel
theorem dX9_swapAll_133 : decode cX9_swapAll 133 = .ok (.iaload, 1) := by decide +kernel
theorem dX9_swapAll_134 : decode cX9_swapAll 134 = .ok (.iastore, 1) := by decide +kernel
theorem dX9_swapAll_135 : decode cX9_swapAll 135 = .ok (.iinc 2 1, 3) := by decide +kernel
theorem dX9_swapAll_138 : decode cX9_swapAll 138 = .ok (.goto (-136), 3) := by decide +kernel
theorem dX9_swapAll_141 : decode cX9_swapAll 141 = .ok (.iconst 0, 1) := by decide +kernel
theorem dX9_swapAll_142 : decode cX9_swapAll 142 = .ok (.istore_n 2, 1) := by decide +kernel
theorem dX9_swapAll_143 : decode cX9_swapAll 143 = .ok (.iload_n 2, 1) := by decide +kernel
theorem dX9_swapAll_144 : decode cX9_swapAll 144 = .ok (.sipush 192, 3) := by decide +kernel
theorem dX9_swapAll_147 : decode cX9_swapAll 147 = .ok (.if_icmp .ge 40, 3) := by decide +kernel
theorem dX9_swapAll_150 : decode cX9_swapAll 150 = .ok (.iload_n 1, 1) := by decide +kernel
theorem dX9_swapAll_151 : decode cX9_swapAll 151 = .ok (.ifCond .eq 18, 3) := by decide +kernel
theorem dX9_swapAll_154 : decode cX9_swapAll 154 = .ok (.aload_n 0, 1) := by decide +kernel
theorem dX9_swapAll_155 : decode cX9_swapAll 155 = .ok (.getfield 152, 3) := by decide +kernel
theorem dX9_swapAll_158 : decode cX9_swapAll 158 = .ok (.iload_n 2, 1) := by decide +kernel
theorem dX9_swapAll_159 : decode cX9_swapAll 159 = .ok (.aload_n 0, 1) := by decide +kernel
theorem dX9_swapAll_160 : decode cX9_swapAll 160 = .ok (.getfield 230, 3) := by decide +kernel
theorem dX9_swapAll_163 : decode cX9_swapAll 163 = .ok (.iload_n 2, 1) := by decide +kernel
theorem dX9_swapAll_164 : decode cX9_swapAll 164 = .ok (.iaload, 1) := by decide +kernel
theorem dX9_swapAll_165 : decode cX9_swapAll 165 = .ok (.iastore, 1) := by decide +kernel
theorem dX9_swapAll_166 : decode cX9_swapAll 166 = .ok (.goto 15, 3) := by decide +kernel
theorem dX9_swapAll_169 : decode cX9_swapAll 169 = .ok (.aload_n 0, 1) := by decide +kernel
theorem dX9_swapAll_170 : decode cX9_swapAll 170 = .ok (.getfield 230, 3) := by decide +kernel
theorem dX9_swapAll_173 : decode cX9_swapAll 173 = .ok (.iload_n 2, 1) := by decide +kernel
theorem dX9_swapAll_174 : decode cX9_swapAll 174 = .ok (.aload_n 0, 1) := by decide +kernel
theorem dX9_swapAll_175 : decode cX9_swapAll 175 = .ok (.getfield 152, 3) := by decide +kernel
theorem dX9_swapAll_178 : decode cX9_swapAll 178 = .ok (.iload_n 2, 1) := by decide +kernel
theorem dX9_swapAll_179 : decode cX9_swapAll 179 = .ok (.iaload, 1) := by decide +kernel
theorem dX9_swapAll_180 : decode cX9_swapAll 180 = .ok (.iastore, 1) := by decide +kernel
theorem dX9_swapAll_181 : decode cX9_swapAll 181 = .ok (.iinc 2 1, 3) := by decide +kernel
theorem dX9_swapAll_184 : decode cX9_swapAll 184 = .ok (.goto (-41), 3) := by decide +kernel
theorem dX9_swapAll_187 : decode cX9_swapAll 187 = .ok (.return_, 1) := by decide +kernel
theorem dX9_foresee_0 : decode cX9_foresee 0 = .ok (.aload_n 0, 1) := by decide +kernel
theorem dX9_foresee_1 : decode cX9_foresee 1 = .ok (.iconst 0, 1) := by decide +kernel
theorem dX9_foresee_2 : decode cX9_foresee 2 = .ok (.putfield 1, 3) := by decide +kernel
theorem dX9_foresee_5 : decode cX9_foresee 5 = .ok (.aload_n 0, 1) := by decide +kernel
theorem dX9_foresee_6 : decode cX9_foresee 6 = .ok (.iload_n 1, 1) := by decide +kernel
theorem dX9_foresee_7 : decode cX9_foresee 7 = .ok (.iload_n 2, 1) := by decide +kernel
theorem dX9_foresee_8 : decode cX9_foresee 8 = .ok (.invokevirtual 566, 3) := by decide +kernel
theorem dX9_foresee_11 : decode cX9_foresee 11 = .ok (.ifCond .eq 10, 3) := by decide +kernel
theorem dX9_foresee_14 : decode cX9_foresee 14 = .ok (.aload_n 0, 1) := by decide +kernel
theorem dX9_foresee_15 : decode cX9_foresee 15 = .ok (.getfield 460, 3) := by decide +kernel
theorem dX9_foresee_18 : decode cX9_foresee 18 = .ok (.ifCond .eq 5, 3) := by decide +kernel
theorem dX9_foresee_21 : decode cX9_foresee 21 = .ok (.iconst (-1), 1) := by decide +kernel
theorem dX9_foresee_22 : decode cX9_foresee 22 = .ok (.ireturn, 1) := by decide +kernel
theorem dX9_foresee_23 : decode cX9_foresee 23 = .ok (.aload_n 0, 1) := by decide +kernel
theorem dX9_foresee_24 : decode cX9_foresee 24 = .ok (.getfield 470, 3) := by decide +kernel
theorem dX9_foresee_27 : decode cX9_foresee 27 = .ok (.istore_n 3, 1) := by decide +kernel
theorem dX9_foresee_28 : decode cX9_foresee 28 = .ok (.aload_n 0, 1) := by decide +kernel
theorem dX9_foresee_29 : decode cX9_foresee 29 = .ok (.getfield 473, 3) := by decide +kernel
theorem dX9_foresee_32 : decode cX9_foresee 32 = .ok (.istore 4, 2) := by decide +kernel
theorem dX9_foresee_34 : decode cX9_foresee 34 = .ok (.aload_n 0, 1) := by decide +kernel
theorem dX9_foresee_35 : decode cX9_foresee 35 = .ok (.getfield 476, 3) := by decide +kernel
theorem dX9_foresee_38 : decode cX9_foresee 38 = .ok (.istore 5, 2) := by decide +kernel
theorem dX9_foresee_40 : decode cX9_foresee 40 = .ok (.aload_n 0, 1) := by decide +kernel
theorem dX9_foresee_41 : decode cX9_foresee 41 = .ok (.iconst 0, 1) := by decide +kernel
theorem dX9_foresee_42 : decode cX9_foresee 42 = .ok (.invokevirtual 582, 3) := by decide +kernel
theorem dX9_foresee_45 : decode cX9_foresee 45 = .ok (.aload_n 0, 1) := by decide +kernel
theorem dX9_foresee_46 : decode cX9_foresee 46 = .ok (.iload_n 1, 1) := by decide +kernel
theorem dX9_foresee_47 : decode cX9_foresee 47 = .ok (.iload_n 2, 1) := by decide +kernel
theorem dX9_foresee_48 : decode cX9_foresee 48 = .ok (.invokevirtual 570, 3) := by decide +kernel
theorem dX9_foresee_51 : decode cX9_foresee 51 = .ok (.istore 6, 2) := by decide +kernel
theorem dX9_foresee_53 : decode cX9_foresee 53 = .ok (.aload_n 0, 1) := by decide +kernel
theorem dX9_foresee_54 : decode cX9_foresee 54 = .ok (.iconst 0, 1) := by decide +kernel
theorem dX9_foresee_55 : decode cX9_foresee 55 = .ok (.putfield 488, 3) := by decide +kernel
theorem dX9_foresee_58 : decode cX9_foresee 58 = .ok (.iload_n 3, 1) := by decide +kernel
theorem dX9_foresee_59 : decode cX9_foresee 59 = .ok (.istore 7, 2) := by decide +kernel
theorem dX9_foresee_61 : decode cX9_foresee 61 = .ok (.iload 7, 2) := by decide +kernel
theorem dX9_foresee_63 : decode cX9_foresee 63 = .ok (.aload_n 0, 1) := by decide +kernel
theorem dX9_foresee_64 : decode cX9_foresee 64 = .ok (.getfield 470, 3) := by decide +kernel
theorem dX9_foresee_67 : decode cX9_foresee 67 = .ok (.if_icmp .ge 35, 3) := by decide +kernel
theorem dX9_foresee_70 : decode cX9_foresee 70 = .ok (.aload_n 0, 1) := by decide +kernel
theorem dX9_foresee_71 : decode cX9_foresee 71 = .ok (.getfield 224, 3) := by decide +kernel
theorem dX9_foresee_74 : decode cX9_foresee 74 = .ok (.aload_n 0, 1) := by decide +kernel
theorem dX9_foresee_75 : decode cX9_foresee 75 = .ok (.getfield 488, 3) := by decide +kernel
theorem dX9_foresee_78 : decode cX9_foresee 78 = .ok (.aload_n 0, 1) := by decide +kernel
theorem dX9_foresee_79 : decode cX9_foresee 79 = .ok (.getfield 179, 3) := by decide +kernel
theorem dX9_foresee_82 : decode cX9_foresee 82 = .ok (.iload 7, 2) := by decide +kernel
theorem dX9_foresee_84 : decode cX9_foresee 84 = .ok (.iaload, 1) := by decide +kernel
theorem dX9_foresee_85 : decode cX9_foresee 85 = .ok (.iastore, 1) := by decide +kernel
theorem dX9_foresee_86 : decode cX9_foresee 86 = .ok (.aload_n 0, 1) := by decide +kernel
theorem dX9_foresee_87 : decode cX9_foresee 87 = .ok (.dup, 1) := by decide +kernel
theorem dX9_foresee_88 : decode cX9_foresee 88 = .ok (.getfield 488, 3) := by decide +kernel
theorem dX9_foresee_91 : decode cX9_foresee 91 = .ok (.iconst 1, 1) := by decide +kernel
theorem dX9_foresee_92 : decode cX9_foresee 92 = .ok (.iadd, 1) := by decide +kernel
theorem dX9_foresee_93 : decode cX9_foresee 93 = .ok (.putfield 488, 3) := by decide +kernel
theorem dX9_foresee_96 : decode cX9_foresee 96 = .ok (.iinc 7 1, 3) := by decide +kernel
theorem dX9_foresee_99 : decode cX9_foresee 99 = .ok (.goto (-38), 3) := by decide +kernel
theorem dX9_foresee_102 : decode cX9_foresee 102 = .ok (.aload_n 0, 1) := by decide +kernel
theorem dX9_foresee_103 : decode cX9_foresee 103 = .ok (.iconst 1, 1) := by decide +kernel
theorem dX9_foresee_104 : decode cX9_foresee 104 = .ok (.invokevirtual 582, 3) := by decide +kernel
theorem dX9_foresee_107 : decode cX9_foresee 107 = .ok (.aload_n 0, 1) := by decide +kernel
theorem dX9_foresee_108 : decode cX9_foresee 108 = .ok (.iload_n 3, 1) := by decide +kernel
theorem dX9_foresee_109 : decode cX9_foresee 109 = .ok (.putfield 470, 3) := by decide +kernel
theorem dX9_foresee_112 : decode cX9_foresee 112 = .ok (.aload_n 0, 1) := by decide +kernel
theorem dX9_foresee_113 : decode cX9_foresee 113 = .ok (.iload 4, 2) := by decide +kernel
theorem dX9_foresee_115 : decode cX9_foresee 115 = .ok (.putfield 473, 3) := by decide +kernel
theorem dX9_foresee_118 : decode cX9_foresee 118 = .ok (.aload_n 0, 1) := by decide +kernel
theorem dX9_foresee_119 : decode cX9_foresee 119 = .ok (.iload 5, 2) := by decide +kernel
theorem dX9_foresee_121 : decode cX9_foresee 121 = .ok (.putfield 476, 3) := by decide +kernel
theorem dX9_foresee_124 : decode cX9_foresee 124 = .ok (.aload_n 0, 1) := by decide +kernel
theorem dX9_foresee_125 : decode cX9_foresee 125 = .ok (.getfield 488, 3) := by decide +kernel
theorem dX9_foresee_128 : decode cX9_foresee 128 = .ok (.ireturn, 1) := by decide +kernel
theorem dX9_foreseen_0 : decode cX9_foreseen 0 = .ok (.aload_n 0, 1) := by decide +kernel
theorem dX9_foreseen_1 : decode cX9_foreseen 1 = .ok (.iconst 0, 1) := by decide +kernel
theorem dX9_foreseen_2 : decode cX9_foreseen 2 = .ok (.putfield 1, 3) := by decide +kernel
theorem dX9_foreseen_5 : decode cX9_foreseen 5 = .ok (.iload_n 1, 1) := by decide +kernel
theorem dX9_foreseen_6 : decode cX9_foreseen 6 = .ok (.ifCond .lt 11, 3) := by decide +kernel
theorem dX9_foreseen_9 : decode cX9_foreseen 9 = .ok (.iload_n 1, 1) := by decide +kernel
theorem dX9_foreseen_10 : decode cX9_foreseen 10 = .ok (.aload_n 0, 1) := by decide +kernel
theorem dX9_foreseen_11 : decode cX9_foreseen 11 = .ok (.getfield 488, 3) := by decide +kernel
theorem dX9_foreseen_14 : decode cX9_foreseen 14 = .ok (.if_icmp .lt 7, 3) := by decide +kernel
theorem dX9_foreseen_17 : decode cX9_foreseen 17 = .ok (.iconst (-1), 1) := by decide +kernel
theorem dX9_foreseen_18 : decode cX9_foreseen 18 = .ok (.goto 9, 3) := by decide +kernel
theorem dX9_foreseen_21 : decode cX9_foreseen 21 = .ok (.aload_n 0, 1) := by decide +kernel
theorem dX9_foreseen_22 : decode cX9_foreseen 22 = .ok (.getfield 224, 3) := by decide +kernel
theorem dX9_foreseen_25 : decode cX9_foreseen 25 = .ok (.iload_n 1, 1) := by decide +kernel
theorem dX9_foreseen_26 : decode cX9_foreseen 26 = .ok (.iaload, 1) := by decide +kernel
theorem dX9_foreseen_27 : decode cX9_foreseen 27 = .ok (.ireturn, 1) := by decide +kernel
theorem dX9_named_0 : decode cX9_named 0 = .ok (.aload_n 0, 1) := by decide +kernel
theorem dX9_named_1 : decode cX9_named 1 = .ok (.iconst 0, 1) := by decide +kernel
theorem dX9_named_2 : decode cX9_named 2 = .ok (.putfield 1, 3) := by decide +kernel
theorem dX9_named_5 : decode cX9_named 5 = .ok (.aload_n 0, 1) := by decide +kernel
theorem dX9_named_6 : decode cX9_named 6 = .ok (.invokevirtual 304, 3) := by decide +kernel
theorem dX9_named_9 : decode cX9_named 9 = .ok (.aload_n 0, 1) := by decide +kernel
theorem dX9_named_10 : decode cX9_named 10 = .ok (.getfield 24, 3) := by decide +kernel
theorem dX9_named_13 : decode cX9_named 13 = .ok (.iconst 0, 1) := by decide +kernel
theorem dX9_named_14 : decode cX9_named 14 = .ok (.iaload, 1) := by decide +kernel
theorem dX9_named_15 : decode cX9_named 15 = .ok (.iconst 1, 1) := by decide +kernel
theorem dX9_named_16 : decode cX9_named 16 = .ok (.if_icmp .ne 12, 3) := by decide +kernel
theorem dX9_named_19 : decode cX9_named 19 = .ok (.aload_n 0, 1) := by decide +kernel
theorem dX9_named_20 : decode cX9_named 20 = .ok (.getfield 24, 3) := by decide +kernel
theorem dX9_named_23 : decode cX9_named 23 = .ok (.iconst 1, 1) := by decide +kernel
theorem dX9_named_24 : decode cX9_named 24 = .ok (.iaload, 1) := by decide +kernel
theorem dX9_named_25 : decode cX9_named 25 = .ok (.ifCond .eq 5, 3) := by decide +kernel
theorem dX9_named_28 : decode cX9_named 28 = .ok (.iconst (-1), 1) := by decide +kernel
theorem dX9_named_29 : decode cX9_named 29 = .ok (.ireturn, 1) := by decide +kernel
theorem dX9_named_30 : decode cX9_named 30 = .ok (.iload_n 1, 1) := by decide +kernel
theorem dX9_named_31 : decode cX9_named 31 = .ok (.ifCond .ne 36, 3) := by decide +kernel
theorem dX9_named_34 : decode cX9_named 34 = .ok (.aload_n 0, 1) := by decide +kernel
theorem dX9_named_35 : decode cX9_named 35 = .ok (.aload_n 0, 1) := by decide +kernel
theorem dX9_named_36 : decode cX9_named 36 = .ok (.getfield 46, 3) := by decide +kernel
theorem dX9_named_39 : decode cX9_named 39 = .ok (.bipush 24, 2) := by decide +kernel
theorem dX9_named_41 : decode cX9_named 41 = .ok (.aload_n 0, 1) := by decide +kernel
theorem dX9_named_42 : decode cX9_named 42 = .ok (.getfield 307, 3) := by decide +kernel
theorem dX9_named_45 : decode cX9_named 45 = .ok (.imul, 1) := by decide +kernel
theorem dX9_named_46 : decode cX9_named 46 = .ok (.aload_n 0, 1) := by decide +kernel
theorem dX9_named_47 : decode cX9_named 47 = .ok (.getfield 43, 3) := by decide +kernel
theorem dX9_named_50 : decode cX9_named 50 = .ok (.aload_n 0, 1) := by decide +kernel
theorem dX9_named_51 : decode cX9_named 51 = .ok (.getfield 307, 3) := by decide +kernel
theorem dX9_named_54 : decode cX9_named 54 = .ok (.iaload, 1) := by decide +kernel
theorem dX9_named_55 : decode cX9_named 55 = .ok (.aload_n 0, 1) := by decide +kernel
theorem dX9_named_56 : decode cX9_named 56 = .ok (.getfield 30, 3) := by decide +kernel
theorem dX9_named_59 : decode cX9_named 59 = .ok (.iconst 0, 1) := by decide +kernel
theorem dX9_named_60 : decode cX9_named 60 = .ok (.laload, 1) := by decide +kernel
theorem dX9_named_61 : decode cX9_named 61 = .ok (.invokevirtual 300, 3) := by decide +kernel
theorem dX9_named_64 : decode cX9_named 64 = .ok (.goto 80, 3) := by decide +kernel
theorem dX9_named_67 : decode cX9_named 67 = .ok (.iload_n 1, 1) := by decide +kernel
theorem dX9_named_68 : decode cX9_named 68 = .ok (.iconst 1, 1) := by decide +kernel
theorem dX9_named_69 : decode cX9_named 69 = .ok (.if_icmp .ne 36, 3) := by decide +kernel
theorem dX9_named_72 : decode cX9_named 72 = .ok (.aload_n 0, 1) := by decide +kernel
theorem dX9_named_73 : decode cX9_named 73 = .ok (.aload_n 0, 1) := by decide +kernel
theorem dX9_named_74 : decode cX9_named 74 = .ok (.getfield 61, 3) := by decide +kernel
theorem dX9_named_77 : decode cX9_named 77 = .ok (.bipush 24, 2) := by decide +kernel
theorem dX9_named_79 : decode cX9_named 79 = .ok (.aload_n 0, 1) := by decide +kernel
theorem dX9_named_80 : decode cX9_named 80 = .ok (.getfield 307, 3) := by decide +kernel
theorem dX9_named_83 : decode cX9_named 83 = .ok (.imul, 1) := by decide +kernel
theorem dX9_named_84 : decode cX9_named 84 = .ok (.aload_n 0, 1) := by decide +kernel
theorem dX9_named_85 : decode cX9_named 85 = .ok (.getfield 58, 3) := by decide +kernel
theorem dX9_named_88 : decode cX9_named 88 = .ok (.aload_n 0, 1) := by decide +kernel
theorem dX9_named_89 : decode cX9_named 89 = .ok (.getfield 307, 3) := by decide +kernel
theorem dX9_named_92 : decode cX9_named 92 = .ok (.iaload, 1) := by decide +kernel
theorem dX9_named_93 : decode cX9_named 93 = .ok (.aload_n 0, 1) := by decide +kernel
theorem dX9_named_94 : decode cX9_named 94 = .ok (.getfield 30, 3) := by decide +kernel
theorem dX9_named_97 : decode cX9_named 97 = .ok (.iconst 0, 1) := by decide +kernel
theorem dX9_named_98 : decode cX9_named 98 = .ok (.laload, 1) := by decide +kernel
theorem dX9_named_99 : decode cX9_named 99 = .ok (.invokevirtual 300, 3) := by decide +kernel
theorem dX9_named_102 : decode cX9_named 102 = .ok (.goto 42, 3) := by decide +kernel
theorem dX9_named_105 : decode cX9_named 105 = .ok (.iload_n 1, 1) := by decide +kernel
theorem dX9_named_106 : decode cX9_named 106 = .ok (.iconst 2, 1) := by decide +kernel
theorem dX9_named_107 : decode cX9_named 107 = .ok (.if_icmp .ne 36, 3) := by decide +kernel
theorem dX9_named_110 : decode cX9_named 110 = .ok (.aload_n 0, 1) := by decide +kernel
theorem dX9_named_111 : decode cX9_named 111 = .ok (.aload_n 0, 1) := by decide +kernel
theorem dX9_named_112 : decode cX9_named 112 = .ok (.getfield 113, 3) := by decide +kernel
theorem dX9_named_115 : decode cX9_named 115 = .ok (.bipush 20, 2) := by decide +kernel
theorem dX9_named_117 : decode cX9_named 117 = .ok (.aload_n 0, 1) := by decide +kernel
theorem dX9_named_118 : decode cX9_named 118 = .ok (.getfield 307, 3) := by decide +kernel
theorem dX9_named_121 : decode cX9_named 121 = .ok (.imul, 1) := by decide +kernel
theorem dX9_named_122 : decode cX9_named 122 = .ok (.aload_n 0, 1) := by decide +kernel
theorem dX9_named_123 : decode cX9_named 123 = .ok (.getfield 110, 3) := by decide +kernel
theorem dX9_named_126 : decode cX9_named 126 = .ok (.aload_n 0, 1) := by decide +kernel
theorem dX9_named_127 : decode cX9_named 127 = .ok (.getfield 307, 3) := by decide +kernel
theorem dX9_named_130 : decode cX9_named 130 = .ok (.iaload, 1) := by decide +kernel
theorem dX9_named_131 : decode cX9_named 131 = .ok (.aload_n 0, 1) := by decide +kernel
theorem dX9_named_132 : decode cX9_named 132 = .ok (.getfield 30, 3) := by decide +kernel
theorem dX9_named_135 : decode cX9_named 135 = .ok (.iconst 0, 1) := by decide +kernel
theorem dX9_named_136 : decode cX9_named 136 = .ok (.laload, 1) := by decide +kernel
theorem dX9_named_137 : decode cX9_named 137 = .ok (.invokevirtual 300, 3) := by decide +kernel
theorem dX9_named_140 : decode cX9_named 140 = .ok (.goto 4, 3) := by decide +kernel
theorem dX9_named_143 : decode cX9_named 143 = .ok (.iconst (-1), 1) := by decide +kernel
theorem dX9_named_144 : decode cX9_named 144 = .ok (.ireturn, 1) := by decide +kernel
theorem dX9_unit_0 : decode cX9_unit 0 = .ok (.aload_n 0, 1) := by decide +kernel
theorem dX9_unit_1 : decode cX9_unit 1 = .ok (.aload_n 0, 1) := by decide +kernel
theorem dX9_unit_2 : decode cX9_unit 2 = .ok (.iload_n 1, 1) := by decide +kernel
theorem dX9_unit_3 : decode cX9_unit 3 = .ok (.invokevirtual 573, 3) := by decide +kernel
theorem dX9_unit_6 : decode cX9_unit 6 = .ok (.ifCond .eq 17, 3) := by decide +kernel
theorem dX9_unit_9 : decode cX9_unit 9 = .ok (.iload_n 2, 1) := by decide +kernel
theorem dX9_unit_10 : decode cX9_unit 10 = .ok (.ifCond .lt 13, 3) := by decide +kernel
theorem dX9_unit_13 : decode cX9_unit 13 = .ok (.iload_n 2, 1) := by decide +kernel
theorem dX9_unit_14 : decode cX9_unit 14 = .ok (.bipush 7, 2) := by decide +kernel
theorem dX9_unit_16 : decode cX9_unit 16 = .ok (.if_icmp .gt 7, 3) := by decide +kernel
theorem dX9_unit_19 : decode cX9_unit 19 = .ok (.iconst 0, 1) := by decide +kernel
theorem dX9_unit_20 : decode cX9_unit 20 = .ok (.goto 4, 3) := by decide +kernel
theorem dX9_unit_23 : decode cX9_unit 23 = .ok (.iconst 1, 1) := by decide +kernel
theorem dX9_unit_24 : decode cX9_unit 24 = .ok (.putfield 1, 3) := by decide +kernel
theorem dX9_unit_27 : decode cX9_unit 27 = .ok (.aload_n 0, 1) := by decide +kernel
theorem dX9_unit_28 : decode cX9_unit 28 = .ok (.getfield 1, 3) := by decide +kernel
theorem dX9_unit_31 : decode cX9_unit 31 = .ok (.ifCond .le 5, 3) := by decide +kernel
theorem dX9_unit_34 : decode cX9_unit 34 = .ok (.iconst 0, 1) := by decide +kernel
theorem dX9_unit_35 : decode cX9_unit 35 = .ok (.ireturn, 1) := by decide +kernel
theorem dX9_unit_36 : decode cX9_unit 36 = .ok (.bipush 24, 2) := by decide +kernel
theorem dX9_unit_38 : decode cX9_unit 38 = .ok (.aload_n 0, 1) := by decide +kernel
theorem dX9_unit_39 : decode cX9_unit 39 = .ok (.getfield 307, 3) := by decide +kernel
theorem dX9_unit_42 : decode cX9_unit 42 = .ok (.imul, 1) := by decide +kernel
theorem dX9_unit_43 : decode cX9_unit 43 = .ok (.iload_n 1, 1) := by decide +kernel
theorem dX9_unit_44 : decode cX9_unit 44 = .ok (.iadd, 1) := by decide +kernel
theorem dX9_unit_45 : decode cX9_unit 45 = .ok (.istore_n 3, 1) := by decide +kernel
theorem dX9_unit_46 : decode cX9_unit 46 = .ok (.iload_n 2, 1) := by decide +kernel
theorem dX9_unit_47 : decode cX9_unit 47 = .ok (.tableswitch 106 0 6 #[41, 48, 55, 70, 85, 92, 99], 41) := by decide +kernel
theorem dX9_unit_88 : decode cX9_unit 88 = .ok (.aload_n 0, 1) := by decide +kernel
theorem dX9_unit_89 : decode cX9_unit 89 = .ok (.getfield 146, 3) := by decide +kernel
theorem dX9_unit_92 : decode cX9_unit 92 = .ok (.iload_n 1, 1) := by decide +kernel
theorem dX9_unit_93 : decode cX9_unit 93 = .ok (.iaload, 1) := by decide +kernel
theorem dX9_unit_94 : decode cX9_unit 94 = .ok (.ireturn, 1) := by decide +kernel
theorem dX9_unit_95 : decode cX9_unit 95 = .ok (.aload_n 0, 1) := by decide +kernel
theorem dX9_unit_96 : decode cX9_unit 96 = .ok (.getfield 149, 3) := by decide +kernel
theorem dX9_unit_99 : decode cX9_unit 99 = .ok (.iload_n 1, 1) := by decide +kernel
theorem dX9_unit_100 : decode cX9_unit 100 = .ok (.iaload, 1) := by decide +kernel
theorem dX9_unit_101 : decode cX9_unit 101 = .ok (.ireturn, 1) := by decide +kernel
theorem dX9_unit_102 : decode cX9_unit 102 = .ok (.aload_n 0, 1) := by decide +kernel
theorem dX9_unit_103 : decode cX9_unit 103 = .ok (.getfield 64, 3) := by decide +kernel
theorem dX9_unit_106 : decode cX9_unit 106 = .ok (.iload_n 3, 1) := by decide +kernel
theorem dX9_unit_107 : decode cX9_unit 107 = .ok (.baload, 1) := by decide +kernel
theorem dX9_unit_108 : decode cX9_unit 108 = .ok (.ifCond .eq 7, 3) := by decide +kernel
theorem dX9_unit_111 : decode cX9_unit 111 = .ok (.iconst 1, 1) := by decide +kernel
theorem dX9_unit_112 : decode cX9_unit 112 = .ok (.goto 4, 3) := by decide +kernel
theorem dX9_unit_115 : decode cX9_unit 115 = .ok (.iconst 0, 1) := by decide +kernel
theorem dX9_unit_116 : decode cX9_unit 116 = .ok (.ireturn, 1) := by decide +kernel
theorem dX9_unit_117 : decode cX9_unit 117 = .ok (.aload_n 0, 1) := by decide +kernel
theorem dX9_unit_118 : decode cX9_unit 118 = .ok (.getfield 68, 3) := by decide +kernel
theorem dX9_unit_121 : decode cX9_unit 121 = .ok (.iload_n 3, 1) := by decide +kernel
theorem dX9_unit_122 : decode cX9_unit 122 = .ok (.baload, 1) := by decide +kernel
theorem dX9_unit_123 : decode cX9_unit 123 = .ok (.ifCond .eq 7, 3) := by decide +kernel
theorem dX9_unit_126 : decode cX9_unit 126 = .ok (.iconst 1, 1) := by decide +kernel
theorem dX9_unit_127 : decode cX9_unit 127 = .ok (.goto 4, 3) := by decide +kernel
theorem dX9_unit_130 : decode cX9_unit 130 = .ok (.iconst 0, 1) := by decide +kernel
theorem dX9_unit_131 : decode cX9_unit 131 = .ok (.ireturn, 1) := by decide +kernel
theorem dX9_unit_132 : decode cX9_unit 132 = .ok (.aload_n 0, 1) := by decide +kernel
theorem dX9_unit_133 : decode cX9_unit 133 = .ok (.getfield 71, 3) := by decide +kernel
theorem dX9_unit_136 : decode cX9_unit 136 = .ok (.iload_n 3, 1) := by decide +kernel
theorem dX9_unit_137 : decode cX9_unit 137 = .ok (.iaload, 1) := by decide +kernel
theorem dX9_unit_138 : decode cX9_unit 138 = .ok (.ireturn, 1) := by decide +kernel
theorem dX9_unit_139 : decode cX9_unit 139 = .ok (.aload_n 0, 1) := by decide +kernel
theorem dX9_unit_140 : decode cX9_unit 140 = .ok (.getfield 74, 3) := by decide +kernel
theorem dX9_unit_143 : decode cX9_unit 143 = .ok (.iload_n 3, 1) := by decide +kernel
theorem dX9_unit_144 : decode cX9_unit 144 = .ok (.iaload, 1) := by decide +kernel
theorem dX9_unit_145 : decode cX9_unit 145 = .ok (.ireturn, 1) := by decide +kernel
theorem dX9_unit_146 : decode cX9_unit 146 = .ok (.aload_n 0, 1) := by decide +kernel
theorem dX9_unit_147 : decode cX9_unit 147 = .ok (.getfield 98, 3) := by decide +kernel
theorem dX9_unit_150 : decode cX9_unit 150 = .ok (.iload_n 3, 1) := by decide +kernel
theorem dX9_unit_151 : decode cX9_unit 151 = .ok (.iaload, 1) := by decide +kernel
theorem dX9_unit_152 : decode cX9_unit 152 = .ok (.ireturn, 1) := by decide +kernel
theorem dX9_unit_153 : decode cX9_unit 153 = .ok (.aload_n 0, 1) := by decide +kernel
theorem dX9_unit_154 : decode cX9_unit 154 = .ok (.getfield 95, 3) := by decide +kernel
theorem dX9_unit_157 : decode cX9_unit 157 = .ok (.iload_n 3, 1) := by decide +kernel
theorem dX9_unit_158 : decode cX9_unit 158 = .ok (.iaload, 1) := by decide +kernel
theorem dX9_unit_159 : decode cX9_unit 159 = .ok (.ireturn, 1) := by decide +kernel
theorem dX9_read_0 : decode cX9_read 0 = .ok (.aload_n 0, 1) := by decide +kernel
theorem dX9_read_1 : decode cX9_read 1 = .ok (.aload_n 0, 1) := by decide +kernel
theorem dX9_read_2 : decode cX9_read 2 = .ok (.iload_n 1, 1) := by decide +kernel
theorem dX9_read_3 : decode cX9_read 3 = .ok (.invokevirtual 573, 3) := by decide +kernel
theorem dX9_read_6 : decode cX9_read 6 = .ok (.ifCond .eq 29, 3) := by decide +kernel
theorem dX9_read_9 : decode cX9_read 9 = .ok (.iload_n 2, 1) := by decide +kernel
theorem dX9_read_10 : decode cX9_read 10 = .ok (.ifCond .lt 25, 3) := by decide +kernel
theorem dX9_read_13 : decode cX9_read 13 = .ok (.iload_n 2, 1) := by decide +kernel
theorem dX9_read_14 : decode cX9_read 14 = .ok (.aload_n 0, 1) := by decide +kernel
theorem dX9_read_15 : decode cX9_read 15 = .ok (.getfield 98, 3) := by decide +kernel
theorem dX9_read_18 : decode cX9_read 18 = .ok (.bipush 24, 2) := by decide +kernel
theorem dX9_read_20 : decode cX9_read 20 = .ok (.aload_n 0, 1) := by decide +kernel
theorem dX9_read_21 : decode cX9_read 21 = .ok (.getfield 307, 3) := by decide +kernel
theorem dX9_read_24 : decode cX9_read 24 = .ok (.imul, 1) := by decide +kernel
theorem dX9_read_25 : decode cX9_read 25 = .ok (.iload_n 1, 1) := by decide +kernel
theorem dX9_read_26 : decode cX9_read 26 = .ok (.iadd, 1) := by decide +kernel
theorem dX9_read_27 : decode cX9_read 27 = .ok (.iaload, 1) := by decide +kernel
theorem dX9_read_28 : decode cX9_read 28 = .ok (.if_icmp .ge 7, 3) := by decide +kernel
theorem dX9_read_31 : decode cX9_read 31 = .ok (.iconst 0, 1) := by decide +kernel
theorem dX9_read_32 : decode cX9_read 32 = .ok (.goto 4, 3) := by decide +kernel
theorem dX9_read_35 : decode cX9_read 35 = .ok (.iconst 1, 1) := by decide +kernel
theorem dX9_read_36 : decode cX9_read 36 = .ok (.putfield 1, 3) := by decide +kernel
theorem dX9_read_39 : decode cX9_read 39 = .ok (.aload_n 0, 1) := by decide +kernel
theorem dX9_read_40 : decode cX9_read 40 = .ok (.getfield 1, 3) := by decide +kernel
theorem dX9_read_43 : decode cX9_read 43 = .ok (.ifCond .le 5, 3) := by decide +kernel
theorem dX9_read_46 : decode cX9_read 46 = .ok (.iconst 0, 1) := by decide +kernel
theorem dX9_read_47 : decode cX9_read 47 = .ok (.ireturn, 1) := by decide +kernel
theorem dX9_read_48 : decode cX9_read 48 = .ok (.bipush 24, 2) := by decide +kernel
theorem dX9_read_50 : decode cX9_read 50 = .ok (.aload_n 0, 1) := by decide +kernel
theorem dX9_read_51 : decode cX9_read 51 = .ok (.getfield 307, 3) := by decide +kernel
theorem dX9_read_54 : decode cX9_read 54 = .ok (.imul, 1) := by decide +kernel
theorem dX9_read_55 : decode cX9_read 55 = .ok (.iload_n 1, 1) := by decide +kernel
theorem dX9_read_56 : decode cX9_read 56 = .ok (.iadd, 1) := by decide +kernel
theorem dX9_read_57 : decode cX9_read 57 = .ok (.istore_n 3, 1) := by decide +kernel
theorem dX9_read_58 : decode cX9_read 58 = .ok (.iconst 0, 1) := by decide +kernel
theorem dX9_read_59 : decode cX9_read 59 = .ok (.istore 4, 2) := by decide +kernel
theorem dX9_read_61 : decode cX9_read 61 = .ok (.aload_n 0, 1) := by decide +kernel
theorem dX9_read_62 : decode cX9_read 62 = .ok (.getfield 86, 3) := by decide +kernel
theorem dX9_read_65 : decode cX9_read 65 = .ok (.bipush 8, 2) := by decide +kernel
theorem dX9_read_67 : decode cX9_read 67 = .ok (.iload_n 3, 1) := by decide +kernel
theorem dX9_read_68 : decode cX9_read 68 = .ok (.imul, 1) := by decide +kernel
theorem dX9_read_69 : decode cX9_read 69 = .ok (.iload 4, 2) := by decide +kernel
theorem dX9_read_71 : decode cX9_read 71 = .ok (.iadd, 1) := by decide +kernel
theorem dX9_read_72 : decode cX9_read 72 = .ok (.baload, 1) := by decide +kernel
theorem dX9_read_73 : decode cX9_read 73 = .ok (.ifCond .ne 19, 3) := by decide +kernel
theorem dX9_read_76 : decode cX9_read 76 = .ok (.aload_n 0, 1) := by decide +kernel
theorem dX9_read_77 : decode cX9_read 77 = .ok (.getfield 92, 3) := by decide +kernel
theorem dX9_read_80 : decode cX9_read 80 = .ok (.bipush 8, 2) := by decide +kernel
theorem dX9_read_82 : decode cX9_read 82 = .ok (.iload_n 3, 1) := by decide +kernel
theorem dX9_read_83 : decode cX9_read 83 = .ok (.imul, 1) := by decide +kernel
theorem dX9_read_84 : decode cX9_read 84 = .ok (.iload 4, 2) := by decide +kernel
theorem dX9_read_86 : decode cX9_read 86 = .ok (.iadd, 1) := by decide +kernel
theorem dX9_read_87 : decode cX9_read 87 = .ok (.iaload, 1) := by decide +kernel
theorem dX9_read_88 : decode cX9_read 88 = .ok (.iload_n 2, 1) := by decide +kernel
theorem dX9_read_89 : decode cX9_read 89 = .ok (.if_icmp .eq 9, 3) := by decide +kernel
theorem dX9_read_92 : decode cX9_read 92 = .ok (.iinc 4 1, 3) := by decide +kernel
theorem dX9_read_95 : decode cX9_read 95 = .ok (.goto (-34), 3) := by decide +kernel
theorem dX9_read_98 : decode cX9_read 98 = .ok (.aload_n 0, 1) := by decide +kernel
theorem dX9_read_99 : decode cX9_read 99 = .ok (.getfield 146, 3) := by decide +kernel
theorem dX9_read_102 : decode cX9_read 102 = .ok (.iload_n 1, 1) := by decide +kernel
theorem dX9_read_103 : decode cX9_read 103 = .ok (.iaload, 1) := by decide +kernel
theorem dX9_read_104 : decode cX9_read 104 = .ok (.ifCond .ne 7, 3) := by decide +kernel
theorem dX9_read_107 : decode cX9_read 107 = .ok (.iconst 0, 1) := by decide +kernel
theorem dX9_read_108 : decode cX9_read 108 = .ok (.goto 15, 3) := by decide +kernel
theorem dX9_read_111 : decode cX9_read 111 = .ok (.aload_n 0, 1) := by decide +kernel
theorem dX9_read_112 : decode cX9_read 112 = .ok (.getfield 152, 3) := by decide +kernel
theorem dX9_read_115 : decode cX9_read 115 = .ok (.bipush 8, 2) := by decide +kernel
theorem dX9_read_117 : decode cX9_read 117 = .ok (.iload_n 1, 1) := by decide +kernel
theorem dX9_read_118 : decode cX9_read 118 = .ok (.imul, 1) := by decide +kernel
theorem dX9_read_119 : decode cX9_read 119 = .ok (.iload 4, 2) := by decide +kernel
theorem dX9_read_121 : decode cX9_read 121 = .ok (.iadd, 1) := by decide +kernel
theorem dX9_read_122 : decode cX9_read 122 = .ok (.iaload, 1) := by decide +kernel
theorem dX9_read_123 : decode cX9_read 123 = .ok (.ireturn, 1) := by decide +kernel
theorem dX9_cause_0 : decode cX9_cause 0 = .ok (.aload_n 0, 1) := by decide +kernel
theorem dX9_cause_1 : decode cX9_cause 1 = .ok (.iconst 0, 1) := by decide +kernel
theorem dX9_cause_2 : decode cX9_cause 2 = .ok (.putfield 1, 3) := by decide +kernel
theorem dX9_cause_5 : decode cX9_cause 5 = .ok (.aload_n 0, 1) := by decide +kernel
theorem dX9_cause_6 : decode cX9_cause 6 = .ok (.iload_n 1, 1) := by decide +kernel
theorem dX9_cause_7 : decode cX9_cause 7 = .ok (.invokevirtual 573, 3) := by decide +kernel
theorem dX9_cause_10 : decode cX9_cause 10 = .ok (.ifCond .eq 13, 3) := by decide +kernel
theorem dX9_cause_13 : decode cX9_cause 13 = .ok (.aload_n 0, 1) := by decide +kernel
theorem dX9_cause_14 : decode cX9_cause 14 = .ok (.getfield 146, 3) := by decide +kernel
theorem dX9_cause_17 : decode cX9_cause 17 = .ok (.iload_n 1, 1) := by decide +kernel
theorem dX9_cause_18 : decode cX9_cause 18 = .ok (.iaload, 1) := by decide +kernel
theorem dX9_cause_19 : decode cX9_cause 19 = .ok (.iconst 3, 1) := by decide +kernel
theorem dX9_cause_20 : decode cX9_cause 20 = .ok (.if_icmp .eq 7, 3) := by decide +kernel
theorem dX9_cause_23 : decode cX9_cause 23 = .ok (.iconst 0, 1) := by decide +kernel
theorem dX9_cause_24 : decode cX9_cause 24 = .ok (.goto 31, 3) := by decide +kernel
theorem dX9_cause_27 : decode cX9_cause 27 = .ok (.iload_n 2, 1) := by decide +kernel
theorem dX9_cause_28 : decode cX9_cause 28 = .ok (.ifCond .ne 12, 3) := by decide +kernel
theorem dX9_cause_31 : decode cX9_cause 31 = .ok (.aload_n 0, 1) := by decide +kernel
theorem dX9_cause_32 : decode cX9_cause 32 = .ok (.getfield 155, 3) := by decide +kernel
theorem dX9_cause_35 : decode cX9_cause 35 = .ok (.iload_n 1, 1) := by decide +kernel
theorem dX9_cause_36 : decode cX9_cause 36 = .ok (.iaload, 1) := by decide +kernel
theorem dX9_cause_37 : decode cX9_cause 37 = .ok (.goto 18, 3) := by decide +kernel
theorem dX9_cause_40 : decode cX9_cause 40 = .ok (.iload_n 2, 1) := by decide +kernel
theorem dX9_cause_41 : decode cX9_cause 41 = .ok (.iconst 1, 1) := by decide +kernel
theorem dX9_cause_42 : decode cX9_cause 42 = .ok (.if_icmp .ne 12, 3) := by decide +kernel
theorem dX9_cause_45 : decode cX9_cause 45 = .ok (.aload_n 0, 1) := by decide +kernel
theorem dX9_cause_46 : decode cX9_cause 46 = .ok (.getfield 158, 3) := by decide +kernel
theorem dX9_cause_49 : decode cX9_cause 49 = .ok (.iload_n 1, 1) := by decide +kernel
theorem dX9_cause_50 : decode cX9_cause 50 = .ok (.iaload, 1) := by decide +kernel
theorem dX9_cause_51 : decode cX9_cause 51 = .ok (.goto 4, 3) := by decide +kernel
theorem dX9_cause_54 : decode cX9_cause 54 = .ok (.iconst 0, 1) := by decide +kernel
theorem dX9_cause_55 : decode cX9_cause 55 = .ok (.ireturn, 1) := by decide +kernel
theorem dX9_need_0 : decode cX9_need 0 = .ok (.aload_n 0, 1) := by decide +kernel
theorem dX9_need_1 : decode cX9_need 1 = .ok (.iconst 0, 1) := by decide +kernel
theorem dX9_need_2 : decode cX9_need 2 = .ok (.putfield 1, 3) := by decide +kernel
theorem dX9_need_5 : decode cX9_need 5 = .ok (.aload_n 0, 1) := by decide +kernel
theorem dX9_need_6 : decode cX9_need 6 = .ok (.iload_n 1, 1) := by decide +kernel
theorem dX9_need_7 : decode cX9_need 7 = .ok (.invokevirtual 573, 3) := by decide +kernel
theorem dX9_need_10 : decode cX9_need 10 = .ok (.ifCond .eq 17, 3) := by decide +kernel
theorem dX9_need_13 : decode cX9_need 13 = .ok (.iload_n 2, 1) := by decide +kernel
theorem dX9_need_14 : decode cX9_need 14 = .ok (.ifCond .lt 13, 3) := by decide +kernel
theorem dX9_need_17 : decode cX9_need 17 = .ok (.iload_n 2, 1) := by decide +kernel
theorem dX9_need_18 : decode cX9_need 18 = .ok (.aload_n 0, 1) := by decide +kernel
theorem dX9_need_19 : decode cX9_need 19 = .ok (.getfield 164, 3) := by decide +kernel
theorem dX9_need_22 : decode cX9_need 22 = .ok (.iload_n 1, 1) := by decide +kernel
theorem dX9_need_23 : decode cX9_need 23 = .ok (.iaload, 1) := by decide +kernel
theorem dX9_need_24 : decode cX9_need 24 = .ok (.if_icmp .lt 7, 3) := by decide +kernel
theorem dX9_need_27 : decode cX9_need 27 = .ok (.iconst (-1), 1) := by decide +kernel
theorem dX9_need_28 : decode cX9_need 28 = .ok (.goto 14, 3) := by decide +kernel
theorem dX9_need_31 : decode cX9_need 31 = .ok (.aload_n 0, 1) := by decide +kernel
theorem dX9_need_32 : decode cX9_need 32 = .ok (.getfield 161, 3) := by decide +kernel
theorem dX9_need_35 : decode cX9_need 35 = .ok (.bipush 24, 2) := by decide +kernel
theorem dX9_need_37 : decode cX9_need 37 = .ok (.iload_n 1, 1) := by decide +kernel
theorem dX9_need_38 : decode cX9_need 38 = .ok (.imul, 1) := by decide +kernel
theorem dX9_need_39 : decode cX9_need 39 = .ok (.iload_n 2, 1) := by decide +kernel
theorem dX9_need_40 : decode cX9_need 40 = .ok (.iadd, 1) := by decide +kernel
theorem dX9_need_41 : decode cX9_need 41 = .ok (.iaload, 1) := by decide +kernel
theorem dX9_need_42 : decode cX9_need 42 = .ok (.ireturn, 1) := by decide +kernel
theorem dX9_leans_0 : decode cX9_leans 0 = .ok (.aload_n 0, 1) := by decide +kernel
theorem dX9_leans_1 : decode cX9_leans 1 = .ok (.iconst 0, 1) := by decide +kernel
theorem dX9_leans_2 : decode cX9_leans 2 = .ok (.putfield 1, 3) := by decide +kernel
theorem dX9_leans_5 : decode cX9_leans 5 = .ok (.aload_n 0, 1) := by decide +kernel
theorem dX9_leans_6 : decode cX9_leans 6 = .ok (.iload_n 1, 1) := by decide +kernel
theorem dX9_leans_7 : decode cX9_leans 7 = .ok (.invokevirtual 573, 3) := by decide +kernel
theorem dX9_leans_10 : decode cX9_leans 10 = .ok (.ifCond .eq 11, 3) := by decide +kernel
theorem dX9_leans_13 : decode cX9_leans 13 = .ok (.aload_n 0, 1) := by decide +kernel
theorem dX9_leans_14 : decode cX9_leans 14 = .ok (.iload_n 2, 1) := by decide +kernel
theorem dX9_leans_15 : decode cX9_leans 15 = .ok (.invokevirtual 573, 3) := by decide +kernel
theorem dX9_leans_18 : decode cX9_leans 18 = .ok (.ifCond .ne 7, 3) := by decide +kernel
theorem dX9_leans_21 : decode cX9_leans 21 = .ok (.iconst (-1), 1) := by decide +kernel
theorem dX9_leans_22 : decode cX9_leans 22 = .ok (.goto 17, 3) := by decide +kernel
theorem dX9_leans_25 : decode cX9_leans 25 = .ok (.aload_n 0, 1) := by decide +kernel
theorem dX9_leans_26 : decode cX9_leans 26 = .ok (.iload_n 1, 1) := by decide +kernel
theorem dX9_leans_27 : decode cX9_leans 27 = .ok (.iload_n 2, 1) := by decide +kernel
theorem dX9_leans_28 : decode cX9_leans 28 = .ok (.invokevirtual 576, 3) := by decide +kernel
theorem dX9_leans_31 : decode cX9_leans 31 = .ok (.ifCond .eq 7, 3) := by decide +kernel
theorem dX9_leans_34 : decode cX9_leans 34 = .ok (.iconst 1, 1) := by decide +kernel
theorem dX9_leans_35 : decode cX9_leans 35 = .ok (.goto 4, 3) := by decide +kernel
theorem dX9_leans_38 : decode cX9_leans 38 = .ok (.iconst 0, 1) := by decide +kernel
theorem dX9_leans_39 : decode cX9_leans 39 = .ok (.ireturn, 1) := by decide +kernel
theorem dX9_up_0 : decode cX9_up 0 = .ok (.aload_n 0, 1) := by decide +kernel
theorem dX9_up_1 : decode cX9_up 1 = .ok (.iconst 0, 1) := by decide +kernel
theorem dX9_up_2 : decode cX9_up 2 = .ok (.putfield 1, 3) := by decide +kernel
theorem dX9_up_5 : decode cX9_up 5 = .ok (.iload_n 1, 1) := by decide +kernel
theorem dX9_up_6 : decode cX9_up 6 = .ok (.ifCond .lt 11, 3) := by decide +kernel
theorem dX9_up_9 : decode cX9_up 9 = .ok (.iload_n 1, 1) := by decide +kernel
theorem dX9_up_10 : decode cX9_up 10 = .ok (.aload_n 0, 1) := by decide +kernel
theorem dX9_up_11 : decode cX9_up 11 = .ok (.getfield 470, 3) := by decide +kernel
theorem dX9_up_14 : decode cX9_up 14 = .ok (.if_icmp .lt 5, 3) := by decide +kernel
theorem dX9_up_17 : decode cX9_up 17 = .ok (.iconst (-1), 1) := by decide +kernel
theorem dX9_up_18 : decode cX9_up 18 = .ok (.ireturn, 1) := by decide +kernel
theorem dX9_up_19 : decode cX9_up 19 = .ok (.iload_n 2, 1) := by decide +kernel
theorem dX9_up_20 : decode cX9_up 20 = .ok (.ifCond .ne 12, 3) := by decide +kernel
theorem dX9_up_23 : decode cX9_up 23 = .ok (.aload_n 0, 1) := by decide +kernel
theorem dX9_up_24 : decode cX9_up 24 = .ok (.getfield 179, 3) := by decide +kernel
theorem dX9_up_27 : decode cX9_up 27 = .ok (.iload_n 1, 1) := by decide +kernel
theorem dX9_up_28 : decode cX9_up 28 = .ok (.iaload, 1) := by decide +kernel
theorem dX9_up_29 : decode cX9_up 29 = .ok (.goto 32, 3) := by decide +kernel
theorem dX9_up_32 : decode cX9_up 32 = .ok (.iload_n 2, 1) := by decide +kernel
theorem dX9_up_33 : decode cX9_up 33 = .ok (.iconst 1, 1) := by decide +kernel
theorem dX9_up_34 : decode cX9_up 34 = .ok (.if_icmp .ne 12, 3) := by decide +kernel
theorem dX9_up_37 : decode cX9_up 37 = .ok (.aload_n 0, 1) := by decide +kernel
theorem dX9_up_38 : decode cX9_up 38 = .ok (.getfield 182, 3) := by decide +kernel
theorem dX9_up_41 : decode cX9_up 41 = .ok (.iload_n 1, 1) := by decide +kernel
theorem dX9_up_42 : decode cX9_up 42 = .ok (.iaload, 1) := by decide +kernel
theorem dX9_up_43 : decode cX9_up 43 = .ok (.goto 18, 3) := by decide +kernel
theorem dX9_up_46 : decode cX9_up 46 = .ok (.iload_n 2, 1) := by decide +kernel
theorem dX9_up_47 : decode cX9_up 47 = .ok (.iconst 2, 1) := by decide +kernel
theorem dX9_up_48 : decode cX9_up 48 = .ok (.if_icmp .ne 12, 3) := by decide +kernel
theorem dX9_up_51 : decode cX9_up 51 = .ok (.aload_n 0, 1) := by decide +kernel
theorem dX9_up_52 : decode cX9_up 52 = .ok (.getfield 185, 3) := by decide +kernel
theorem dX9_up_55 : decode cX9_up 55 = .ok (.iload_n 1, 1) := by decide +kernel
theorem dX9_up_56 : decode cX9_up 56 = .ok (.iaload, 1) := by decide +kernel
theorem dX9_up_57 : decode cX9_up 57 = .ok (.goto 4, 3) := by decide +kernel
theorem dX9_up_60 : decode cX9_up 60 = .ok (.iconst (-1), 1) := by decide +kernel
theorem dX9_up_61 : decode cX9_up 61 = .ok (.ireturn, 1) := by decide +kernel
theorem dX9_half_0 : decode cX9_half 0 = .ok (.aload_n 0, 1) := by decide +kernel
theorem dX9_half_1 : decode cX9_half 1 = .ok (.iconst 0, 1) := by decide +kernel
theorem dX9_half_2 : decode cX9_half 2 = .ok (.putfield 1, 3) := by decide +kernel
theorem dX9_half_5 : decode cX9_half 5 = .ok (.iload_n 1, 1) := by decide +kernel
theorem dX9_half_6 : decode cX9_half 6 = .ok (.ifCond .lt 18, 3) := by decide +kernel
theorem dX9_half_9 : decode cX9_half 9 = .ok (.iload_n 1, 1) := by decide +kernel
theorem dX9_half_10 : decode cX9_half 10 = .ok (.aload_n 0, 1) := by decide +kernel
theorem dX9_half_11 : decode cX9_half 11 = .ok (.getfield 473, 3) := by decide +kernel
theorem dX9_half_14 : decode cX9_half 14 = .ok (.if_icmp .ge 10, 3) := by decide +kernel
theorem dX9_half_17 : decode cX9_half 17 = .ok (.iload_n 1, 1) := by decide +kernel
theorem dX9_half_18 : decode cX9_half 18 = .ok (.sipush 200, 3) := by decide +kernel
theorem dX9_half_21 : decode cX9_half 21 = .ok (.if_icmp .lt 5, 3) := by decide +kernel
theorem dX9_half_24 : decode cX9_half 24 = .ok (.iconst (-1), 1) := by decide +kernel
theorem dX9_half_25 : decode cX9_half 25 = .ok (.ireturn, 1) := by decide +kernel
theorem dX9_half_26 : decode cX9_half 26 = .ok (.iload_n 2, 1) := by decide +kernel
theorem dX9_half_27 : decode cX9_half 27 = .ok (.ifCond .ne 12, 3) := by decide +kernel
theorem dX9_half_30 : decode cX9_half 30 = .ok (.aload_n 0, 1) := by decide +kernel
theorem dX9_half_31 : decode cX9_half 31 = .ok (.getfield 188, 3) := by decide +kernel
theorem dX9_half_34 : decode cX9_half 34 = .ok (.iload_n 1, 1) := by decide +kernel
theorem dX9_half_35 : decode cX9_half 35 = .ok (.iaload, 1) := by decide +kernel
theorem dX9_half_36 : decode cX9_half 36 = .ok (.goto 32, 3) := by decide +kernel
theorem dX9_half_39 : decode cX9_half 39 = .ok (.iload_n 2, 1) := by decide +kernel
theorem dX9_half_40 : decode cX9_half 40 = .ok (.iconst 1, 1) := by decide +kernel
theorem dX9_half_41 : decode cX9_half 41 = .ok (.if_icmp .ne 12, 3) := by decide +kernel
theorem dX9_half_44 : decode cX9_half 44 = .ok (.aload_n 0, 1) := by decide +kernel
theorem dX9_half_45 : decode cX9_half 45 = .ok (.getfield 191, 3) := by decide +kernel
theorem dX9_half_48 : decode cX9_half 48 = .ok (.iload_n 1, 1) := by decide +kernel
theorem dX9_half_49 : decode cX9_half 49 = .ok (.iaload, 1) := by decide +kernel
theorem dX9_half_50 : decode cX9_half 50 = .ok (.goto 18, 3) := by decide +kernel
theorem dX9_half_53 : decode cX9_half 53 = .ok (.iload_n 2, 1) := by decide +kernel
theorem dX9_half_54 : decode cX9_half 54 = .ok (.iconst 2, 1) := by decide +kernel
theorem dX9_half_55 : decode cX9_half 55 = .ok (.if_icmp .ne 12, 3) := by decide +kernel
theorem dX9_half_58 : decode cX9_half 58 = .ok (.aload_n 0, 1) := by decide +kernel
theorem dX9_half_59 : decode cX9_half 59 = .ok (.getfield 194, 3) := by decide +kernel
theorem dX9_half_62 : decode cX9_half 62 = .ok (.iload_n 1, 1) := by decide +kernel
theorem dX9_half_63 : decode cX9_half 63 = .ok (.iaload, 1) := by decide +kernel
theorem dX9_half_64 : decode cX9_half 64 = .ok (.goto 4, 3) := by decide +kernel
theorem dX9_half_67 : decode cX9_half 67 = .ok (.iconst (-1), 1) := by decide +kernel
theorem dX9_half_68 : decode cX9_half 68 = .ok (.ireturn, 1) := by decide +kernel
theorem dX9_order_0 : decode cX9_order 0 = .ok (.aload_n 0, 1) := by decide +kernel
theorem dX9_order_1 : decode cX9_order 1 = .ok (.iconst 0, 1) := by decide +kernel
theorem dX9_order_2 : decode cX9_order 2 = .ok (.putfield 1, 3) := by decide +kernel
theorem dX9_order_5 : decode cX9_order 5 = .ok (.iload_n 1, 1) := by decide +kernel
theorem dX9_order_6 : decode cX9_order 6 = .ok (.ifCond .lt 18, 3) := by decide +kernel
theorem dX9_order_9 : decode cX9_order 9 = .ok (.iload_n 1, 1) := by decide +kernel
theorem dX9_order_10 : decode cX9_order 10 = .ok (.aload_n 0, 1) := by decide +kernel
theorem dX9_order_11 : decode cX9_order 11 = .ok (.getfield 476, 3) := by decide +kernel
theorem dX9_order_14 : decode cX9_order 14 = .ok (.if_icmp .ge 10, 3) := by decide +kernel
theorem dX9_order_17 : decode cX9_order 17 = .ok (.iload_n 1, 1) := by decide +kernel
theorem dX9_order_18 : decode cX9_order 18 = .ok (.sipush 200, 3) := by decide +kernel
theorem dX9_order_21 : decode cX9_order 21 = .ok (.if_icmp .lt 5, 3) := by decide +kernel
theorem dX9_order_24 : decode cX9_order 24 = .ok (.iconst (-1), 1) := by decide +kernel
theorem dX9_order_25 : decode cX9_order 25 = .ok (.ireturn, 1) := by decide +kernel
theorem dX9_order_26 : decode cX9_order 26 = .ok (.iload_n 2, 1) := by decide +kernel
theorem dX9_order_27 : decode cX9_order 27 = .ok (.ifCond .ne 12, 3) := by decide +kernel
theorem dX9_order_30 : decode cX9_order 30 = .ok (.aload_n 0, 1) := by decide +kernel
theorem dX9_order_31 : decode cX9_order 31 = .ok (.getfield 197, 3) := by decide +kernel
theorem dX9_order_34 : decode cX9_order 34 = .ok (.iload_n 1, 1) := by decide +kernel
theorem dX9_order_35 : decode cX9_order 35 = .ok (.iaload, 1) := by decide +kernel
theorem dX9_order_36 : decode cX9_order 36 = .ok (.goto 54, 3) := by decide +kernel
theorem dX9_order_39 : decode cX9_order 39 = .ok (.iload_n 2, 1) := by decide +kernel
theorem dX9_order_40 : decode cX9_order 40 = .ok (.iconst 1, 1) := by decide +kernel
theorem dX9_order_41 : decode cX9_order 41 = .ok (.if_icmp .ne 12, 3) := by decide +kernel
theorem dX9_order_44 : decode cX9_order 44 = .ok (.aload_n 0, 1) := by decide +kernel
theorem dX9_order_45 : decode cX9_order 45 = .ok (.getfield 200, 3) := by decide +kernel
theorem dX9_order_48 : decode cX9_order 48 = .ok (.iload_n 1, 1) := by decide +kernel
theorem dX9_order_49 : decode cX9_order 49 = .ok (.iaload, 1) := by decide +kernel
theorem dX9_order_50 : decode cX9_order 50 = .ok (.goto 40, 3) := by decide +kernel
theorem dX9_order_53 : decode cX9_order 53 = .ok (.iload_n 2, 1) := by decide +kernel
theorem dX9_order_54 : decode cX9_order 54 = .ok (.iconst 2, 1) := by decide +kernel
theorem dX9_order_55 : decode cX9_order 55 = .ok (.if_icmp .ne 12, 3) := by decide +kernel
theorem dX9_order_58 : decode cX9_order 58 = .ok (.aload_n 0, 1) := by decide +kernel
theorem dX9_order_59 : decode cX9_order 59 = .ok (.getfield 203, 3) := by decide +kernel
theorem dX9_order_62 : decode cX9_order 62 = .ok (.iload_n 1, 1) := by decide +kernel
theorem dX9_order_63 : decode cX9_order 63 = .ok (.iaload, 1) := by decide +kernel
theorem dX9_order_64 : decode cX9_order 64 = .ok (.goto 26, 3) := by decide +kernel
theorem dX9_order_67 : decode cX9_order 67 = .ok (.iload_n 2, 1) := by decide +kernel
theorem dX9_order_68 : decode cX9_order 68 = .ok (.iconst 3, 1) := by decide +kernel
theorem dX9_order_69 : decode cX9_order 69 = .ok (.if_icmp .ne 20, 3) := by decide +kernel
theorem dX9_order_72 : decode cX9_order 72 = .ok (.aload_n 0, 1) := by decide +kernel
theorem dX9_order_73 : decode cX9_order 73 = .ok (.getfield 206, 3) := by decide +kernel
theorem dX9_order_76 : decode cX9_order 76 = .ok (.iload_n 1, 1) := by decide +kernel
theorem dX9_order_77 : decode cX9_order 77 = .ok (.baload, 1) := by decide +kernel
theorem dX9_order_78 : decode cX9_order 78 = .ok (.ifCond .eq 7, 3) := by decide +kernel
theorem dX9_order_81 : decode cX9_order 81 = .ok (.iconst 1, 1) := by decide +kernel
theorem dX9_order_82 : decode cX9_order 82 = .ok (.goto 8, 3) := by decide +kernel
theorem dX9_order_85 : decode cX9_order 85 = .ok (.iconst 0, 1) := by decide +kernel
theorem dX9_order_86 : decode cX9_order 86 = .ok (.goto 4, 3) := by decide +kernel
theorem dX9_order_89 : decode cX9_order 89 = .ok (.iconst (-1), 1) := by decide +kernel
theorem dX9_order_90 : decode cX9_order 90 = .ok (.ireturn, 1) := by decide +kernel
theorem dX9_closed_0 : decode cX9_closed 0 = .ok (.aload_n 0, 1) := by decide +kernel
theorem dX9_closed_1 : decode cX9_closed 1 = .ok (.iconst 0, 1) := by decide +kernel
theorem dX9_closed_2 : decode cX9_closed 2 = .ok (.putfield 1, 3) := by decide +kernel
theorem dX9_closed_5 : decode cX9_closed 5 = .ok (.iload_n 1, 1) := by decide +kernel
theorem dX9_closed_6 : decode cX9_closed 6 = .ok (.ifCond .lt 11, 3) := by decide +kernel
theorem dX9_closed_9 : decode cX9_closed 9 = .ok (.iload_n 1, 1) := by decide +kernel
theorem dX9_closed_10 : decode cX9_closed 10 = .ok (.aload_n 0, 1) := by decide +kernel
theorem dX9_closed_11 : decode cX9_closed 11 = .ok (.getfield 479, 3) := by decide +kernel
theorem dX9_closed_14 : decode cX9_closed 14 = .ok (.if_icmp .lt 5, 3) := by decide +kernel
theorem dX9_closed_17 : decode cX9_closed 17 = .ok (.iconst (-1), 1) := by decide +kernel
theorem dX9_closed_18 : decode cX9_closed 18 = .ok (.ireturn, 1) := by decide +kernel
theorem dX9_closed_19 : decode cX9_closed 19 = .ok (.iload_n 2, 1) := by decide +kernel
theorem dX9_closed_20 : decode cX9_closed 20 = .ok (.ifCond .ne 12, 3) := by decide +kernel
theorem dX9_closed_23 : decode cX9_closed 23 = .ok (.aload_n 0, 1) := by decide +kernel
theorem dX9_closed_24 : decode cX9_closed 24 = .ok (.getfield 209, 3) := by decide +kernel
theorem dX9_closed_27 : decode cX9_closed 27 = .ok (.iload_n 1, 1) := by decide +kernel
theorem dX9_closed_28 : decode cX9_closed 28 = .ok (.iaload, 1) := by decide +kernel
theorem dX9_closed_29 : decode cX9_closed 29 = .ok (.goto 18, 3) := by decide +kernel
theorem dX9_closed_32 : decode cX9_closed 32 = .ok (.iload_n 2, 1) := by decide +kernel
theorem dX9_closed_33 : decode cX9_closed 33 = .ok (.iconst 1, 1) := by decide +kernel
theorem dX9_closed_34 : decode cX9_closed 34 = .ok (.if_icmp .ne 12, 3) := by decide +kernel
theorem dX9_closed_37 : decode cX9_closed 37 = .ok (.aload_n 0, 1) := by decide +kernel
theorem dX9_closed_38 : decode cX9_closed 38 = .ok (.getfield 212, 3) := by decide +kernel
theorem dX9_closed_41 : decode cX9_closed 41 = .ok (.iload_n 1, 1) := by decide +kernel
theorem dX9_closed_42 : decode cX9_closed 42 = .ok (.iaload, 1) := by decide +kernel
theorem dX9_closed_43 : decode cX9_closed 43 = .ok (.goto 4, 3) := by decide +kernel
theorem dX9_closed_46 : decode cX9_closed 46 = .ok (.iconst (-1), 1) := by decide +kernel
theorem dX9_closed_47 : decode cX9_closed 47 = .ok (.ireturn, 1) := by decide +kernel
theorem dX9_device_0 : decode cX9_device 0 = .ok (.aload_n 0, 1) := by decide +kernel
theorem dX9_device_1 : decode cX9_device 1 = .ok (.iload_n 1, 1) := by decide +kernel
theorem dX9_device_2 : decode cX9_device 2 = .ok (.ifCond .lt 29, 3) := by decide +kernel
theorem dX9_device_5 : decode cX9_device 5 = .ok (.iload_n 1, 1) := by decide +kernel
theorem dX9_device_6 : decode cX9_device 6 = .ok (.aload_n 0, 1) := by decide +kernel
theorem dX9_device_7 : decode cX9_device 7 = .ok (.getfield 43, 3) := by decide +kernel
theorem dX9_device_10 : decode cX9_device 10 = .ok (.aload_n 0, 1) := by decide +kernel
theorem dX9_device_11 : decode cX9_device 11 = .ok (.getfield 307, 3) := by decide +kernel
theorem dX9_device_14 : decode cX9_device 14 = .ok (.iaload, 1) := by decide +kernel
theorem dX9_device_15 : decode cX9_device 15 = .ok (.if_icmp .ge 16, 3) := by decide +kernel
theorem dX9_device_18 : decode cX9_device 18 = .ok (.iload_n 2, 1) := by decide +kernel
theorem dX9_device_19 : decode cX9_device 19 = .ok (.ifCond .eq 8, 3) := by decide +kernel
theorem dX9_device_22 : decode cX9_device 22 = .ok (.iload_n 2, 1) := by decide +kernel
theorem dX9_device_23 : decode cX9_device 23 = .ok (.iconst 1, 1) := by decide +kernel
theorem dX9_device_24 : decode cX9_device 24 = .ok (.if_icmp .ne 7, 3) := by decide +kernel
theorem dX9_device_27 : decode cX9_device 27 = .ok (.iconst 0, 1) := by decide +kernel
theorem dX9_device_28 : decode cX9_device 28 = .ok (.goto 4, 3) := by decide +kernel
theorem dX9_device_31 : decode cX9_device 31 = .ok (.iconst 1, 1) := by decide +kernel
theorem dX9_device_32 : decode cX9_device 32 = .ok (.putfield 1, 3) := by decide +kernel
theorem dX9_device_35 : decode cX9_device 35 = .ok (.aload_n 0, 1) := by decide +kernel
theorem dX9_device_36 : decode cX9_device 36 = .ok (.getfield 1, 3) := by decide +kernel
theorem dX9_device_39 : decode cX9_device 39 = .ok (.ifCond .le 7, 3) := by decide +kernel
theorem dX9_device_42 : decode cX9_device 42 = .ok (.iconst 0, 1) := by decide +kernel
theorem dX9_device_43 : decode cX9_device 43 = .ok (.goto 22, 3) := by decide +kernel
theorem dX9_device_46 : decode cX9_device 46 = .ok (.iload_n 2, 1) := by decide +kernel
theorem dX9_device_47 : decode cX9_device 47 = .ok (.ifCond .ne 12, 3) := by decide +kernel
theorem dX9_device_50 : decode cX9_device 50 = .ok (.aload_n 0, 1) := by decide +kernel
theorem dX9_device_51 : decode cX9_device 51 = .ok (.getfield 167, 3) := by decide +kernel
theorem dX9_device_54 : decode cX9_device 54 = .ok (.iload_n 1, 1) := by decide +kernel
theorem dX9_device_55 : decode cX9_device 55 = .ok (.iaload, 1) := by decide +kernel
theorem dX9_device_56 : decode cX9_device 56 = .ok (.goto 9, 3) := by decide +kernel
theorem dX9_device_59 : decode cX9_device 59 = .ok (.aload_n 0, 1) := by decide +kernel
theorem dX9_device_60 : decode cX9_device 60 = .ok (.getfield 170, 3) := by decide +kernel
theorem dX9_device_63 : decode cX9_device 63 = .ok (.iload_n 1, 1) := by decide +kernel
theorem dX9_device_64 : decode cX9_device 64 = .ok (.iaload, 1) := by decide +kernel
theorem dX9_device_65 : decode cX9_device 65 = .ok (.ireturn, 1) := by decide +kernel
theorem dX9_count_0 : decode cX9_count 0 = .ok (.aload_n 0, 1) := by decide +kernel
theorem dX9_count_1 : decode cX9_count 1 = .ok (.iconst 0, 1) := by decide +kernel
theorem dX9_count_2 : decode cX9_count 2 = .ok (.putfield 1, 3) := by decide +kernel
theorem dX9_count_5 : decode cX9_count 5 = .ok (.iconst 0, 1) := by decide +kernel
theorem dX9_count_6 : decode cX9_count 6 = .ok (.istore_n 2, 1) := by decide +kernel
theorem dX9_count_7 : decode cX9_count 7 = .ok (.iconst 0, 1) := by decide +kernel
theorem dX9_count_8 : decode cX9_count 8 = .ok (.istore_n 3, 1) := by decide +kernel
theorem dX9_count_9 : decode cX9_count 9 = .ok (.iconst 0, 1) := by decide +kernel
theorem dX9_count_10 : decode cX9_count 10 = .ok (.istore 4, 2) := by decide +kernel
theorem dX9_count_12 : decode cX9_count 12 = .ok (.iload 4, 2) := by decide +kernel
theorem dX9_count_14 : decode cX9_count 14 = .ok (.aload_n 0, 1) := by decide +kernel
theorem dX9_count_15 : decode cX9_count 15 = .ok (.getfield 58, 3) := by decide +kernel
theorem dX9_count_18 : decode cX9_count 18 = .ok (.aload_n 0, 1) := by decide +kernel
theorem dX9_count_19 : decode cX9_count 19 = .ok (.getfield 307, 3) := by decide +kernel
theorem dX9_count_22 : decode cX9_count 22 = .ok (.iaload, 1) := by decide +kernel
theorem dX9_count_23 : decode cX9_count 23 = .ok (.if_icmp .ge 47, 3) := by decide +kernel
theorem dX9_count_26 : decode cX9_count 26 = .ok (.iload_n 2, 1) := by decide +kernel
theorem dX9_count_27 : decode cX9_count 27 = .ok (.aload_n 0, 1) := by decide +kernel
theorem dX9_count_28 : decode cX9_count 28 = .ok (.getfield 146, 3) := by decide +kernel
theorem dX9_count_31 : decode cX9_count 31 = .ok (.iload 4, 2) := by decide +kernel
theorem dX9_count_33 : decode cX9_count 33 = .ok (.iaload, 1) := by decide +kernel
theorem dX9_count_34 : decode cX9_count 34 = .ok (.iconst 2, 1) := by decide +kernel
theorem dX9_count_35 : decode cX9_count 35 = .ok (.if_icmp .ne 7, 3) := by decide +kernel
theorem dX9_count_38 : decode cX9_count 38 = .ok (.iconst 1, 1) := by decide +kernel
theorem dX9_count_39 : decode cX9_count 39 = .ok (.goto 4, 3) := by decide +kernel
theorem dX9_count_42 : decode cX9_count 42 = .ok (.iconst 0, 1) := by decide +kernel
theorem dX9_count_43 : decode cX9_count 43 = .ok (.iadd, 1) := by decide +kernel
theorem dX9_count_44 : decode cX9_count 44 = .ok (.istore_n 2, 1) := by decide +kernel
theorem dX9_count_45 : decode cX9_count 45 = .ok (.iload_n 3, 1) := by decide +kernel
theorem dX9_count_46 : decode cX9_count 46 = .ok (.aload_n 0, 1) := by decide +kernel
theorem dX9_count_47 : decode cX9_count 47 = .ok (.getfield 146, 3) := by decide +kernel
theorem dX9_count_50 : decode cX9_count 50 = .ok (.iload 4, 2) := by decide +kernel
theorem dX9_count_52 : decode cX9_count 52 = .ok (.iaload, 1) := by decide +kernel
theorem dX9_count_53 : decode cX9_count 53 = .ok (.iconst 3, 1) := by decide +kernel
theorem dX9_count_54 : decode cX9_count 54 = .ok (.if_icmp .ne 7, 3) := by decide +kernel
theorem dX9_count_57 : decode cX9_count 57 = .ok (.iconst 1, 1) := by decide +kernel
theorem dX9_count_58 : decode cX9_count 58 = .ok (.goto 4, 3) := by decide +kernel
theorem dX9_count_61 : decode cX9_count 61 = .ok (.iconst 0, 1) := by decide +kernel
theorem dX9_count_62 : decode cX9_count 62 = .ok (.iadd, 1) := by decide +kernel
theorem dX9_count_63 : decode cX9_count 63 = .ok (.istore_n 3, 1) := by decide +kernel
theorem dX9_count_64 : decode cX9_count 64 = .ok (.iinc 4 1, 3) := by decide +kernel
theorem dX9_count_67 : decode cX9_count 67 = .ok (.goto (-55), 3) := by decide +kernel
theorem dX9_count_70 : decode cX9_count 70 = .ok (.iload_n 1, 1) := by decide +kernel
theorem dX9_count_71 : decode cX9_count 71 = .ok (.tableswitch 156 0 13 #[69, 79, 89, 99, 101, 103, 108, 113, 118, 123, 128, 133, 146, 151], 69) := by decide +kernel
theorem dX9_count_140 : decode cX9_count 140 = .ok (.aload_n 0, 1) := by decide +kernel
theorem dX9_count_141 : decode cX9_count 141 = .ok (.getfield 43, 3) := by decide +kernel
theorem dX9_count_144 : decode cX9_count 144 = .ok (.aload_n 0, 1) := by decide +kernel
theorem dX9_count_145 : decode cX9_count 145 = .ok (.getfield 307, 3) := by decide +kernel
theorem dX9_count_148 : decode cX9_count 148 = .ok (.iaload, 1) := by decide +kernel
theorem dX9_count_149 : decode cX9_count 149 = .ok (.ireturn, 1) := by decide +kernel
theorem dX9_count_150 : decode cX9_count 150 = .ok (.aload_n 0, 1) := by decide +kernel
theorem dX9_count_151 : decode cX9_count 151 = .ok (.getfield 58, 3) := by decide +kernel
theorem dX9_count_154 : decode cX9_count 154 = .ok (.aload_n 0, 1) := by decide +kernel
theorem dX9_count_155 : decode cX9_count 155 = .ok (.getfield 307, 3) := by decide +kernel
theorem dX9_count_158 : decode cX9_count 158 = .ok (.iaload, 1) := by decide +kernel
theorem dX9_count_159 : decode cX9_count 159 = .ok (.ireturn, 1) := by decide +kernel
theorem dX9_count_160 : decode cX9_count 160 = .ok (.aload_n 0, 1) := by decide +kernel
theorem dX9_count_161 : decode cX9_count 161 = .ok (.getfield 110, 3) := by decide +kernel
theorem dX9_count_164 : decode cX9_count 164 = .ok (.aload_n 0, 1) := by decide +kernel
theorem dX9_count_165 : decode cX9_count 165 = .ok (.getfield 307, 3) := by decide +kernel
theorem dX9_count_168 : decode cX9_count 168 = .ok (.iaload, 1) := by decide +kernel
theorem dX9_count_169 : decode cX9_count 169 = .ok (.ireturn, 1) := by decide +kernel
theorem dX9_count_170 : decode cX9_count 170 = .ok (.iload_n 2, 1) := by decide +kernel
theorem dX9_count_171 : decode cX9_count 171 = .ok (.ireturn, 1) := by decide +kernel
theorem dX9_count_172 : decode cX9_count 172 = .ok (.iload_n 3, 1) := by decide +kernel
theorem dX9_count_173 : decode cX9_count 173 = .ok (.ireturn, 1) := by decide +kernel
theorem dX9_count_174 : decode cX9_count 174 = .ok (.aload_n 0, 1) := by decide +kernel
theorem dX9_count_175 : decode cX9_count 175 = .ok (.getfield 473, 3) := by decide +kernel
theorem dX9_count_178 : decode cX9_count 178 = .ok (.ireturn, 1) := by decide +kernel
theorem dX9_count_179 : decode cX9_count 179 = .ok (.aload_n 0, 1) := by decide +kernel
theorem dX9_count_180 : decode cX9_count 180 = .ok (.getfield 476, 3) := by decide +kernel
theorem dX9_count_183 : decode cX9_count 183 = .ok (.ireturn, 1) := by decide +kernel
theorem dX9_count_184 : decode cX9_count 184 = .ok (.aload_n 0, 1) := by decide +kernel
theorem dX9_count_185 : decode cX9_count 185 = .ok (.getfield 470, 3) := by decide +kernel
theorem dX9_count_188 : decode cX9_count 188 = .ok (.ireturn, 1) := by decide +kernel
theorem dX9_count_189 : decode cX9_count 189 = .ok (.aload_n 0, 1) := by decide +kernel
theorem dX9_count_190 : decode cX9_count 190 = .ok (.getfield 457, 3) := by decide +kernel
theorem dX9_count_193 : decode cX9_count 193 = .ok (.ireturn, 1) := by decide +kernel
theorem dX9_count_194 : decode cX9_count 194 = .ok (.aload_n 0, 1) := by decide +kernel
theorem dX9_count_195 : decode cX9_count 195 = .ok (.getfield 522, 3) := by decide +kernel
theorem dX9_count_198 : decode cX9_count 198 = .ok (.ireturn, 1) := by decide +kernel
theorem dX9_count_199 : decode cX9_count 199 = .ok (.aload_n 0, 1) := by decide +kernel
theorem dX9_count_200 : decode cX9_count 200 = .ok (.getfield 464, 3) := by decide +kernel
theorem dX9_count_203 : decode cX9_count 203 = .ok (.ireturn, 1) := by decide +kernel
theorem dX9_count_204 : decode cX9_count 204 = .ok (.aload_n 0, 1) := by decide +kernel
theorem dX9_count_205 : decode cX9_count 205 = .ok (.getfield 460, 3) := by decide +kernel
theorem dX9_count_208 : decode cX9_count 208 = .ok (.ifCond .eq 7, 3) := by decide +kernel
theorem dX9_count_211 : decode cX9_count 211 = .ok (.iconst 1, 1) := by decide +kernel
theorem dX9_count_212 : decode cX9_count 212 = .ok (.goto 4, 3) := by decide +kernel
theorem dX9_count_215 : decode cX9_count 215 = .ok (.iconst 0, 1) := by decide +kernel
theorem dX9_count_216 : decode cX9_count 216 = .ok (.ireturn, 1) := by decide +kernel
theorem dX9_count_217 : decode cX9_count 217 = .ok (.aload_n 0, 1) := by decide +kernel
theorem dX9_count_218 : decode cX9_count 218 = .ok (.getfield 467, 3) := by decide +kernel
theorem dX9_count_221 : decode cX9_count 221 = .ok (.ireturn, 1) := by decide +kernel
theorem dX9_count_222 : decode cX9_count 222 = .ok (.aload_n 0, 1) := by decide +kernel
theorem dX9_count_223 : decode cX9_count 223 = .ok (.getfield 11, 3) := by decide +kernel
theorem dX9_count_226 : decode cX9_count 226 = .ok (.ireturn, 1) := by decide +kernel
theorem dX9_count_227 : decode cX9_count 227 = .ok (.iconst (-1), 1) := by decide +kernel
theorem dX9_count_228 : decode cX9_count 228 = .ok (.ireturn, 1) := by decide +kernel
