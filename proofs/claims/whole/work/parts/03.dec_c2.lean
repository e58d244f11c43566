theorem dX4_init_96 : decode cX4_init 96 = .ok (.return_, 1) := by decide +kernel
theorem dX4_reset_0 : decode cX4_reset 0 = .ok (.iconst 0, 1) := by decide +kernel
theorem dX4_reset_1 : decode cX4_reset 1 = .ok (.istore_n 2, 1) := by decide +kernel
theorem dX4_reset_2 : decode cX4_reset 2 = .ok (.iload_n 2, 1) := by decide +kernel
theorem dX4_reset_3 : decode cX4_reset 3 = .ok (.bipush 24, 2) := by decide +kernel
theorem dX4_reset_5 : decode cX4_reset 5 = .ok (.if_icmp .ge 21, 3) := by decide +kernel
theorem dX4_reset_8 : decode cX4_reset 8 = .ok (.aload_n 0, 1) := by decide +kernel
theorem dX4_reset_9 : decode cX4_reset 9 = .ok (.iload_n 2, 1) := by decide +kernel
theorem dX4_reset_10 : decode cX4_reset 10 = .ok (.invokevirtual 49, 3) := by decide +kernel
theorem dX4_reset_13 : decode cX4_reset 13 = .ok (.aload_n 0, 1) := by decide +kernel
theorem dX4_reset_14 : decode cX4_reset 14 = .ok (.getfield 15, 3) := by decide +kernel
theorem dX4_reset_17 : decode cX4_reset 17 = .ok (.iload_n 2, 1) := by decide +kernel
theorem dX4_reset_18 : decode cX4_reset 18 = .ok (.iconst 0, 1) := by decide +kernel
theorem dX4_reset_19 : decode cX4_reset 19 = .ok (.iastore, 1) := by decide +kernel
theorem dX4_reset_20 : decode cX4_reset 20 = .ok (.iinc 2 1, 3) := by decide +kernel
theorem dX4_reset_23 : decode cX4_reset 23 = .ok (.goto (-21), 3) := by decide +kernel
theorem dX4_reset_26 : decode cX4_reset 26 = .ok (.iconst 0, 1) := by decide +kernel
theorem dX4_reset_27 : decode cX4_reset 27 = .ok (.istore_n 2, 1) := by decide +kernel
theorem dX4_reset_28 : decode cX4_reset 28 = .ok (.iload_n 2, 1) := by decide +kernel
theorem dX4_reset_29 : decode cX4_reset 29 = .ok (.aload_n 1, 1) := by decide +kernel
theorem dX4_reset_30 : decode cX4_reset 30 = .ok (.getfield 53, 3) := by decide +kernel
theorem dX4_reset_33 : decode cX4_reset 33 = .ok (.if_icmp .ge 33, 3) := by decide +kernel
theorem dX4_reset_36 : decode cX4_reset 36 = .ok (.aload_n 0, 1) := by decide +kernel
theorem dX4_reset_37 : decode cX4_reset 37 = .ok (.getfield 36, 3) := by decide +kernel
theorem dX4_reset_40 : decode cX4_reset 40 = .ok (.iload_n 2, 1) := by decide +kernel
theorem dX4_reset_41 : decode cX4_reset 41 = .ok (.aload_n 1, 1) := by decide +kernel
theorem dX4_reset_42 : decode cX4_reset 42 = .ok (.getfield 58, 3) := by decide +kernel
theorem dX4_reset_45 : decode cX4_reset 45 = .ok (.iload_n 2, 1) := by decide +kernel
theorem dX4_reset_46 : decode cX4_reset 46 = .ok (.iaload, 1) := by decide +kernel
theorem dX4_reset_47 : decode cX4_reset 47 = .ok (.iastore, 1) := by decide +kernel
theorem dX4_reset_48 : decode cX4_reset 48 = .ok (.aload_n 0, 1) := by decide +kernel
theorem dX4_reset_49 : decode cX4_reset 49 = .ok (.getfield 39, 3) := by decide +kernel
theorem dX4_reset_52 : decode cX4_reset 52 = .ok (.iload_n 2, 1) := by decide +kernel
theorem dX4_reset_53 : decode cX4_reset 53 = .ok (.aload_n 1, 1) := by decide +kernel
theorem dX4_reset_54 : decode cX4_reset 54 = .ok (.getfield 58, 3) := by decide +kernel
theorem dX4_reset_57 : decode cX4_reset 57 = .ok (.iload_n 2, 1) := by decide +kernel
theorem dX4_reset_58 : decode cX4_reset 58 = .ok (.iaload, 1) := by decide +kernel
theorem dX4_reset_59 : decode cX4_reset 59 = .ok (.iastore, 1) := by decide +kernel
theorem dX4_reset_60 : decode cX4_reset 60 = .ok (.iinc 2 1, 3) := by decide +kernel
theorem dX4_reset_63 : decode cX4_reset 63 = .ok (.goto (-35), 3) := by decide +kernel
theorem dX4_reset_66 : decode cX4_reset 66 = .ok (.aload_n 0, 1) := by decide +kernel
theorem dX4_reset_67 : decode cX4_reset 67 = .ok (.iconst 0, 1) := by decide +kernel
theorem dX4_reset_68 : decode cX4_reset 68 = .ok (.putfield 46, 3) := by decide +kernel
theorem dX4_reset_71 : decode cX4_reset 71 = .ok (.aload_n 0, 1) := by decide +kernel
theorem dX4_reset_72 : decode cX4_reset 72 = .ok (.invokevirtual 61, 3) := by decide +kernel
theorem dX4_reset_75 : decode cX4_reset 75 = .ok (.return_, 1) := by decide +kernel
theorem dX4_renew_0 : decode cX4_renew 0 = .ok (.aload_n 0, 1) := by decide +kernel
theorem dX4_renew_1 : decode cX4_renew 1 = .ok (.getfield 9, 3) := by decide +kernel
theorem dX4_renew_4 : decode cX4_renew 4 = .ok (.iload_n 1, 1) := by decide +kernel
theorem dX4_renew_5 : decode cX4_renew 5 = .ok (.iconst 0, 1) := by decide +kernel
theorem dX4_renew_6 : decode cX4_renew 6 = .ok (.iastore, 1) := by decide +kernel
theorem dX4_renew_7 : decode cX4_renew 7 = .ok (.aload_n 0, 1) := by decide +kernel
theorem dX4_renew_8 : decode cX4_renew 8 = .ok (.getfield 15, 3) := by decide +kernel
theorem dX4_renew_11 : decode cX4_renew 11 = .ok (.iload_n 1, 1) := by decide +kernel
theorem dX4_renew_12 : decode cX4_renew 12 = .ok (.dup2, 1) := by decide +kernel
theorem dX4_renew_13 : decode cX4_renew 13 = .ok (.iaload, 1) := by decide +kernel
theorem dX4_renew_14 : decode cX4_renew 14 = .ok (.iconst 1, 1) := by decide +kernel
theorem dX4_renew_15 : decode cX4_renew 15 = .ok (.iadd, 1) := by decide +kernel
theorem dX4_renew_16 : decode cX4_renew 16 = .ok (.iastore, 1) := by decide +kernel
theorem dX4_renew_17 : decode cX4_renew 17 = .ok (.aload_n 0, 1) := by decide +kernel
theorem dX4_renew_18 : decode cX4_renew 18 = .ok (.getfield 21, 3) := by decide +kernel
theorem dX4_renew_21 : decode cX4_renew 21 = .ok (.iload_n 1, 1) := by decide +kernel
theorem dX4_renew_22 : decode cX4_renew 22 = .ok (.iconst 0, 1) := by decide +kernel
theorem dX4_renew_23 : decode cX4_renew 23 = .ok (.iastore, 1) := by decide +kernel
theorem dX4_renew_24 : decode cX4_renew 24 = .ok (.aload_n 0, 1) := by decide +kernel
theorem dX4_renew_25 : decode cX4_renew 25 = .ok (.getfield 24, 3) := by decide +kernel
theorem dX4_renew_28 : decode cX4_renew 28 = .ok (.iload_n 1, 1) := by decide +kernel
theorem dX4_renew_29 : decode cX4_renew 29 = .ok (.iconst 0, 1) := by decide +kernel
theorem dX4_renew_30 : decode cX4_renew 30 = .ok (.iastore, 1) := by decide +kernel
theorem dX4_renew_31 : decode cX4_renew 31 = .ok (.aload_n 0, 1) := by decide +kernel
theorem dX4_renew_32 : decode cX4_renew 32 = .ok (.getfield 30, 3) := by decide +kernel
theorem dX4_renew_35 : decode cX4_renew 35 = .ok (.iload_n 1, 1) := by decide +kernel
theorem dX4_renew_36 : decode cX4_renew 36 = .ok (.iconst 0, 1) := by decide +kernel
theorem dX4_renew_37 : decode cX4_renew 37 = .ok (.iastore, 1) := by decide +kernel
theorem dX4_renew_38 : decode cX4_renew 38 = .ok (.aload_n 0, 1) := by decide +kernel
theorem dX4_renew_39 : decode cX4_renew 39 = .ok (.getfield 18, 3) := by decide +kernel
theorem dX4_renew_42 : decode cX4_renew 42 = .ok (.iload_n 1, 1) := by decide +kernel
theorem dX4_renew_43 : decode cX4_renew 43 = .ok (.bipush 8, 2) := by decide +kernel
theorem dX4_renew_45 : decode cX4_renew 45 = .ok (.imul, 1) := by decide +kernel
theorem dX4_renew_46 : decode cX4_renew 46 = .ok (.iload_n 1, 1) := by decide +kernel
theorem dX4_renew_47 : decode cX4_renew 47 = .ok (.iconst 1, 1) := by decide +kernel
theorem dX4_renew_48 : decode cX4_renew 48 = .ok (.iadd, 1) := by decide +kernel
theorem dX4_renew_49 : decode cX4_renew 49 = .ok (.bipush 8, 2) := by decide +kernel
theorem dX4_renew_51 : decode cX4_renew 51 = .ok (.imul, 1) := by decide +kernel
theorem dX4_renew_52 : decode cX4_renew 52 = .ok (.iconst 0, 1) := by decide +kernel
theorem dX4_renew_53 : decode cX4_renew 53 = .ok (.invokestatic 64, 3) := by decide +kernel
theorem dX4_renew_56 : decode cX4_renew 56 = .ok (.return_, 1) := by decide +kernel
theorem dX4_copy_0 : decode cX4_copy 0 = .ok (.aload_n 1, 1) := by decide +kernel
theorem dX4_copy_1 : decode cX4_copy 1 = .ok (.getfield 9, 3) := by decide +kernel
theorem dX4_copy_4 : decode cX4_copy 4 = .ok (.iconst 0, 1) := by decide +kernel
theorem dX4_copy_5 : decode cX4_copy 5 = .ok (.aload_n 0, 1) := by decide +kernel
theorem dX4_copy_6 : decode cX4_copy 6 = .ok (.getfield 9, 3) := by decide +kernel
theorem dX4_copy_9 : decode cX4_copy 9 = .ok (.iconst 0, 1) := by decide +kernel
theorem dX4_copy_10 : decode cX4_copy 10 = .ok (.aload_n 0, 1) := by decide +kernel
theorem dX4_copy_11 : decode cX4_copy 11 = .ok (.getfield 9, 3) := by decide +kernel
theorem dX4_copy_14 : decode cX4_copy 14 = .ok (.arraylength, 1) := by decide +kernel
theorem dX4_copy_15 : decode cX4_copy 15 = .ok (.invokestatic 70, 3) := by decide +kernel
theorem dX4_copy_18 : decode cX4_copy 18 = .ok (.aload_n 1, 1) := by decide +kernel
theorem dX4_copy_19 : decode cX4_copy 19 = .ok (.getfield 18, 3) := by decide +kernel
theorem dX4_copy_22 : decode cX4_copy 22 = .ok (.iconst 0, 1) := by decide +kernel
theorem dX4_copy_23 : decode cX4_copy 23 = .ok (.aload_n 0, 1) := by decide +kernel
theorem dX4_copy_24 : decode cX4_copy 24 = .ok (.getfield 18, 3) := by decide +kernel
theorem dX4_copy_27 : decode cX4_copy 27 = .ok (.iconst 0, 1) := by decide +kernel
theorem dX4_copy_28 : decode cX4_copy 28 = .ok (.aload_n 0, 1) := by decide +kernel
theorem dX4_copy_29 : decode cX4_copy 29 = .ok (.getfield 18, 3) := by decide +kernel
theorem dX4_copy_32 : decode cX4_copy 32 = .ok (.arraylength, 1) := by decide +kernel
theorem dX4_copy_33 : decode cX4_copy 33 = .ok (.invokestatic 70, 3) := by decide +kernel
theorem dX4_copy_36 : decode cX4_copy 36 = .ok (.aload_n 1, 1) := by decide +kernel
theorem dX4_copy_37 : decode cX4_copy 37 = .ok (.getfield 21, 3) := by decide +kernel
theorem dX4_copy_40 : decode cX4_copy 40 = .ok (.iconst 0, 1) := by decide +kernel
theorem dX4_copy_41 : decode cX4_copy 41 = .ok (.aload_n 0, 1) := by decide +kernel
theorem dX4_copy_42 : decode cX4_copy 42 = .ok (.getfield 21, 3) := by decide +kernel
theorem dX4_copy_45 : decode cX4_copy 45 = .ok (.iconst 0, 1) := by decide +kernel
theorem dX4_copy_46 : decode cX4_copy 46 = .ok (.aload_n 0, 1) := by decide +kernel
theorem dX4_copy_47 : decode cX4_copy 47 = .ok (.getfield 21, 3) := by decide +kernel
theorem dX4_copy_50 : decode cX4_copy 50 = .ok (.arraylength, 1) := by decide +kernel
theorem dX4_copy_51 : decode cX4_copy 51 = .ok (.invokestatic 70, 3) := by decide +kernel
theorem dX4_copy_54 : decode cX4_copy 54 = .ok (.aload_n 1, 1) := by decide +kernel
theorem dX4_copy_55 : decode cX4_copy 55 = .ok (.getfield 24, 3) := by decide +kernel
theorem dX4_copy_58 : decode cX4_copy 58 = .ok (.iconst 0, 1) := by decide +kernel
theorem dX4_copy_59 : decode cX4_copy 59 = .ok (.aload_n 0, 1) := by decide +kernel
theorem dX4_copy_60 : decode cX4_copy 60 = .ok (.getfield 24, 3) := by decide +kernel
theorem dX4_copy_63 : decode cX4_copy 63 = .ok (.iconst 0, 1) := by decide +kernel
theorem dX4_copy_64 : decode cX4_copy 64 = .ok (.aload_n 0, 1) := by decide +kernel
theorem dX4_copy_65 : decode cX4_copy 65 = .ok (.getfield 24, 3) := by decide +kernel
theorem dX4_copy_68 : decode cX4_copy 68 = .ok (.arraylength, 1) := by decide +kernel
theorem dX4_copy_69 : decode cX4_copy 69 = .ok (.invokestatic 70, 3) := by decide +kernel
theorem dX4_copy_72 : decode cX4_copy 72 = .ok (.aload_n 1, 1) := by decide +kernel
theorem dX4_copy_73 : decode cX4_copy 73 = .ok (.getfield 30, 3) := by decide +kernel
theorem dX4_copy_76 : decode cX4_copy 76 = .ok (.iconst 0, 1) := by decide +kernel
theorem dX4_copy_77 : decode cX4_copy 77 = .ok (.aload_n 0, 1) := by decide +kernel
theorem dX4_copy_78 : decode cX4_copy 78 = .ok (.getfield 30, 3) := by decide +kernel
theorem dX4_copy_81 : decode cX4_copy 81 = .ok (.iconst 0, 1) := by decide +kernel
theorem dX4_copy_82 : decode cX4_copy 82 = .ok (.aload_n 0, 1) := by decide +kernel
theorem dX4_copy_83 : decode cX4_copy 83 = .ok (.getfield 30, 3) := by decide +kernel
theorem dX4_copy_86 : decode cX4_copy 86 = .ok (.arraylength, 1) := by decide +kernel
theorem dX4_copy_87 : decode cX4_copy 87 = .ok (.invokestatic 70, 3) := by decide +kernel
theorem dX4_copy_90 : decode cX4_copy 90 = .ok (.aload_n 1, 1) := by decide +kernel
theorem dX4_copy_91 : decode cX4_copy 91 = .ok (.getfield 39, 3) := by decide +kernel
theorem dX4_copy_94 : decode cX4_copy 94 = .ok (.iconst 0, 1) := by decide +kernel
theorem dX4_copy_95 : decode cX4_copy 95 = .ok (.aload_n 0, 1) := by decide +kernel
theorem dX4_copy_96 : decode cX4_copy 96 = .ok (.getfield 39, 3) := by decide +kernel
theorem dX4_copy_99 : decode cX4_copy 99 = .ok (.iconst 0, 1) := by decide +kernel
theorem dX4_copy_100 : decode cX4_copy 100 = .ok (.aload_n 0, 1) := by decide +kernel
theorem dX4_copy_101 : decode cX4_copy 101 = .ok (.getfield 39, 3) := by decide +kernel
theorem dX4_copy_104 : decode cX4_copy 104 = .ok (.arraylength, 1) := by decide +kernel
theorem dX4_copy_105 : decode cX4_copy 105 = .ok (.invokestatic 70, 3) := by decide +kernel
theorem dX4_copy_108 : decode cX4_copy 108 = .ok (.return_, 1) := by decide +kernel
theorem dX4_unitsAt_0 : decode cX4_unitsAt 0 = .ok (.iconst 0, 1) := by decide +kernel
theorem dX4_unitsAt_1 : decode cX4_unitsAt 1 = .ok (.istore_n 2, 1) := by decide +kernel
theorem dX4_unitsAt_2 : decode cX4_unitsAt 2 = .ok (.iconst 0, 1) := by decide +kernel
theorem dX4_unitsAt_3 : decode cX4_unitsAt 3 = .ok (.istore_n 3, 1) := by decide +kernel
theorem dX4_unitsAt_4 : decode cX4_unitsAt 4 = .ok (.iload_n 3, 1) := by decide +kernel
theorem dX4_unitsAt_5 : decode cX4_unitsAt 5 = .ok (.bipush 24, 2) := by decide +kernel
theorem dX4_unitsAt_7 : decode cX4_unitsAt 7 = .ok (.if_icmp .ge 22, 3) := by decide +kernel
theorem dX4_unitsAt_10 : decode cX4_unitsAt 10 = .ok (.aload_n 0, 1) := by decide +kernel
theorem dX4_unitsAt_11 : decode cX4_unitsAt 11 = .ok (.getfield 9, 3) := by decide +kernel
theorem dX4_unitsAt_14 : decode cX4_unitsAt 14 = .ok (.iload_n 3, 1) := by decide +kernel
theorem dX4_unitsAt_15 : decode cX4_unitsAt 15 = .ok (.iaload, 1) := by decide +kernel
theorem dX4_unitsAt_16 : decode cX4_unitsAt 16 = .ok (.iload_n 1, 1) := by decide +kernel
theorem dX4_unitsAt_17 : decode cX4_unitsAt 17 = .ok (.if_icmp .ne 6, 3) := by decide +kernel
theorem dX4_unitsAt_20 : decode cX4_unitsAt 20 = .ok (.iinc 2 1, 3) := by decide +kernel
theorem dX4_unitsAt_23 : decode cX4_unitsAt 23 = .ok (.iinc 3 1, 3) := by decide +kernel
theorem dX4_unitsAt_26 : decode cX4_unitsAt 26 = .ok (.goto (-22), 3) := by decide +kernel
theorem dX4_unitsAt_29 : decode cX4_unitsAt 29 = .ok (.iload_n 2, 1) := by decide +kernel
theorem dX4_unitsAt_30 : decode cX4_unitsAt 30 = .ok (.ireturn, 1) := by decide +kernel
theorem dX4_isPlanned_0 : decode cX4_isPlanned 0 = .ok (.aload_n 0, 1) := by decide +kernel
theorem dX4_isPlanned_1 : decode cX4_isPlanned 1 = .ok (.getfield 33, 3) := by decide +kernel
theorem dX4_isPlanned_4 : decode cX4_isPlanned 4 = .ok (.iload_n 1, 1) := by decide +kernel
theorem dX4_isPlanned_5 : decode cX4_isPlanned 5 = .ok (.iaload, 1) := by decide +kernel
theorem dX4_isPlanned_6 : decode cX4_isPlanned 6 = .ok (.iload_n 2, 1) := by decide +kernel
theorem dX4_isPlanned_7 : decode cX4_isPlanned 7 = .ok (.ishr, 1) := by decide +kernel
theorem dX4_isPlanned_8 : decode cX4_isPlanned 8 = .ok (.iconst 1, 1) := by decide +kernel
theorem dX4_isPlanned_9 : decode cX4_isPlanned 9 = .ok (.iand, 1) := by decide +kernel
theorem dX4_isPlanned_10 : decode cX4_isPlanned 10 = .ok (.iconst 1, 1) := by decide +kernel
theorem dX4_isPlanned_11 : decode cX4_isPlanned 11 = .ok (.if_icmp .ne 7, 3) := by decide +kernel
theorem dX4_isPlanned_14 : decode cX4_isPlanned 14 = .ok (.iconst 1, 1) := by decide +kernel
theorem dX4_isPlanned_15 : decode cX4_isPlanned 15 = .ok (.goto 4, 3) := by decide +kernel
theorem dX4_isPlanned_18 : decode cX4_isPlanned 18 = .ok (.iconst 0, 1) := by decide +kernel
theorem dX4_isPlanned_19 : decode cX4_isPlanned 19 = .ok (.ireturn, 1) := by decide +kernel
theorem dX4_addPlan_0 : decode cX4_addPlan 0 = .ok (.aload_n 0, 1) := by decide +kernel
theorem dX4_addPlan_1 : decode cX4_addPlan 1 = .ok (.getfield 33, 3) := by decide +kernel
theorem dX4_addPlan_4 : decode cX4_addPlan 4 = .ok (.iload_n 1, 1) := by decide +kernel
theorem dX4_addPlan_5 : decode cX4_addPlan 5 = .ok (.dup2, 1) := by decide +kernel
theorem dX4_addPlan_6 : decode cX4_addPlan 6 = .ok (.iaload, 1) := by decide +kernel
theorem dX4_addPlan_7 : decode cX4_addPlan 7 = .ok (.iconst 1, 1) := by decide +kernel
theorem dX4_addPlan_8 : decode cX4_addPlan 8 = .ok (.iload_n 2, 1) := by decide +kernel
theorem dX4_addPlan_9 : decode cX4_addPlan 9 = .ok (.ishl, 1) := by decide +kernel
theorem dX4_addPlan_10 : decode cX4_addPlan 10 = .ok (.ior, 1) := by decide +kernel
theorem dX4_addPlan_11 : decode cX4_addPlan 11 = .ok (.iastore, 1) := by decide +kernel
theorem dX4_addPlan_12 : decode cX4_addPlan 12 = .ok (.aload_n 0, 1) := by decide +kernel
theorem dX4_addPlan_13 : decode cX4_addPlan 13 = .ok (.dup, 1) := by decide +kernel
theorem dX4_addPlan_14 : decode cX4_addPlan 14 = .ok (.getfield 42, 3) := by decide +kernel
theorem dX4_addPlan_17 : decode cX4_addPlan 17 = .ok (.iconst 1, 1) := by decide +kernel
theorem dX4_addPlan_18 : decode cX4_addPlan 18 = .ok (.iadd, 1) := by decide +kernel
theorem dX4_addPlan_19 : decode cX4_addPlan 19 = .ok (.putfield 42, 3) := by decide +kernel
theorem dX4_addPlan_22 : decode cX4_addPlan 22 = .ok (.return_, 1) := by decide +kernel
theorem dX4_dropPlans_0 : decode cX4_dropPlans 0 = .ok (.aload_n 0, 1) := by decide +kernel
theorem dX4_dropPlans_1 : decode cX4_dropPlans 1 = .ok (.getfield 33, 3) := by decide +kernel
theorem dX4_dropPlans_4 : decode cX4_dropPlans 4 = .ok (.iconst 0, 1) := by decide +kernel
theorem dX4_dropPlans_5 : decode cX4_dropPlans 5 = .ok (.invokestatic 76, 3) := by decide +kernel
theorem dX4_dropPlans_8 : decode cX4_dropPlans 8 = .ok (.aload_n 0, 1) := by decide +kernel
theorem dX4_dropPlans_9 : decode cX4_dropPlans 9 = .ok (.iconst 0, 1) := by decide +kernel
theorem dX4_dropPlans_10 : decode cX4_dropPlans 10 = .ok (.putfield 42, 3) := by decide +kernel
theorem dX4_dropPlans_13 : decode cX4_dropPlans 13 = .ok (.return_, 1) := by decide +kernel
theorem dX4_noteNeed_0 : decode cX4_noteNeed 0 = .ok (.iload_n 1, 1) := by decide +kernel
theorem dX4_noteNeed_1 : decode cX4_noteNeed 1 = .ok (.bipush 24, 2) := by decide +kernel
theorem dX4_noteNeed_3 : decode cX4_noteNeed 3 = .ok (.imul, 1) := by decide +kernel
theorem dX4_noteNeed_4 : decode cX4_noteNeed 4 = .ok (.istore_n 3, 1) := by decide +kernel
theorem dX4_noteNeed_5 : decode cX4_noteNeed 5 = .ok (.aload_n 0, 1) := by decide +kernel
theorem dX4_noteNeed_6 : decode cX4_noteNeed 6 = .ok (.getfield 30, 3) := by decide +kernel
theorem dX4_noteNeed_9 : decode cX4_noteNeed 9 = .ok (.iload_n 1, 1) := by decide +kernel
theorem dX4_noteNeed_10 : decode cX4_noteNeed 10 = .ok (.iaload, 1) := by decide +kernel
theorem dX4_noteNeed_11 : decode cX4_noteNeed 11 = .ok (.istore 4, 2) := by decide +kernel
theorem dX4_noteNeed_13 : decode cX4_noteNeed 13 = .ok (.iconst 0, 1) := by decide +kernel
theorem dX4_noteNeed_14 : decode cX4_noteNeed 14 = .ok (.istore 5, 2) := by decide +kernel
theorem dX4_noteNeed_16 : decode cX4_noteNeed 16 = .ok (.iload 5, 2) := by decide +kernel
theorem dX4_noteNeed_18 : decode cX4_noteNeed 18 = .ok (.iload 4, 2) := by decide +kernel
theorem dX4_noteNeed_20 : decode cX4_noteNeed 20 = .ok (.if_icmp .ge 23, 3) := by decide +kernel
theorem dX4_noteNeed_23 : decode cX4_noteNeed 23 = .ok (.aload_n 0, 1) := by decide +kernel
theorem dX4_noteNeed_24 : decode cX4_noteNeed 24 = .ok (.getfield 27, 3) := by decide +kernel
theorem dX4_noteNeed_27 : decode cX4_noteNeed 27 = .ok (.iload_n 3, 1) := by decide +kernel
theorem dX4_noteNeed_28 : decode cX4_noteNeed 28 = .ok (.iload 5, 2) := by decide +kernel
theorem dX4_noteNeed_30 : decode cX4_noteNeed 30 = .ok (.iadd, 1) := by decide +kernel
theorem dX4_noteNeed_31 : decode cX4_noteNeed 31 = .ok (.iaload, 1) := by decide +kernel
theorem dX4_noteNeed_32 : decode cX4_noteNeed 32 = .ok (.iload_n 2, 1) := by decide +kernel
theorem dX4_noteNeed_33 : decode cX4_noteNeed 33 = .ok (.if_icmp .ne 4, 3) := by decide +kernel
theorem dX4_noteNeed_36 : decode cX4_noteNeed 36 = .ok (.return_, 1) := by decide +kernel
theorem dX4_noteNeed_37 : decode cX4_noteNeed 37 = .ok (.iinc 5 1, 3) := by decide +kernel
theorem dX4_noteNeed_40 : decode cX4_noteNeed 40 = .ok (.goto (-24), 3) := by decide +kernel
theorem dX4_noteNeed_43 : decode cX4_noteNeed 43 = .ok (.iload 4, 2) := by decide +kernel
theorem dX4_noteNeed_45 : decode cX4_noteNeed 45 = .ok (.bipush 24, 2) := by decide +kernel
theorem dX4_noteNeed_47 : decode cX4_noteNeed 47 = .ok (.if_icmp .ge 23, 3) := by decide +kernel
theorem dX4_noteNeed_50 : decode cX4_noteNeed 50 = .ok (.aload_n 0, 1) := by decide +kernel
theorem dX4_noteNeed_51 : decode cX4_noteNeed 51 = .ok (.getfield 27, 3) := by decide +kernel
theorem dX4_noteNeed_54 : decode cX4_noteNeed 54 = .ok (.iload_n 3, 1) := by decide +kernel
theorem dX4_noteNeed_55 : decode cX4_noteNeed 55 = .ok (.iload 4, 2) := by decide +kernel
theorem dX4_noteNeed_57 : decode cX4_noteNeed 57 = .ok (.iadd, 1) := by decide +kernel
theorem dX4_noteNeed_58 : decode cX4_noteNeed 58 = .ok (.iload_n 2, 1) := by decide +kernel
theorem dX4_noteNeed_59 : decode cX4_noteNeed 59 = .ok (.iastore, 1) := by decide +kernel
theorem dX4_noteNeed_60 : decode cX4_noteNeed 60 = .ok (.aload_n 0, 1) := by decide +kernel
theorem dX4_noteNeed_61 : decode cX4_noteNeed 61 = .ok (.getfield 30, 3) := by decide +kernel
theorem dX4_noteNeed_64 : decode cX4_noteNeed 64 = .ok (.iload_n 1, 1) := by decide +kernel
theorem dX4_noteNeed_65 : decode cX4_noteNeed 65 = .ok (.dup2, 1) := by decide +kernel
theorem dX4_noteNeed_66 : decode cX4_noteNeed 66 = .ok (.iaload, 1) := by decide +kernel
theorem dX4_noteNeed_67 : decode cX4_noteNeed 67 = .ok (.iconst 1, 1) := by decide +kernel
theorem dX4_noteNeed_68 : decode cX4_noteNeed 68 = .ok (.iadd, 1) := by decide +kernel
theorem dX4_noteNeed_69 : decode cX4_noteNeed 69 = .ok (.iastore, 1) := by decide +kernel
theorem dX4_noteNeed_70 : decode cX4_noteNeed 70 = .ok (.return_, 1) := by decide +kernel
theorem dX4_fail_0 : decode cX4_fail 0 = .ok (.aload_n 0, 1) := by decide +kernel
theorem dX4_fail_1 : decode cX4_fail 1 = .ok (.getfield 9, 3) := by decide +kernel
theorem dX4_fail_4 : decode cX4_fail 4 = .ok (.iload_n 1, 1) := by decide +kernel
theorem dX4_fail_5 : decode cX4_fail 5 = .ok (.iconst 3, 1) := by decide +kernel
theorem dX4_fail_6 : decode cX4_fail 6 = .ok (.iastore, 1) := by decide +kernel
theorem dX4_fail_7 : decode cX4_fail 7 = .ok (.aload_n 0, 1) := by decide +kernel
theorem dX4_fail_8 : decode cX4_fail 8 = .ok (.getfield 21, 3) := by decide +kernel
theorem dX4_fail_11 : decode cX4_fail 11 = .ok (.iload_n 1, 1) := by decide +kernel
theorem dX4_fail_12 : decode cX4_fail 12 = .ok (.iload_n 2, 1) := by decide +kernel
theorem dX4_fail_13 : decode cX4_fail 13 = .ok (.iastore, 1) := by decide +kernel
theorem dX4_fail_14 : decode cX4_fail 14 = .ok (.aload_n 0, 1) := by decide +kernel
theorem dX4_fail_15 : decode cX4_fail 15 = .ok (.getfield 24, 3) := by decide +kernel
theorem dX4_fail_18 : decode cX4_fail 18 = .ok (.iload_n 1, 1) := by decide +kernel
theorem dX4_fail_19 : decode cX4_fail 19 = .ok (.iload_n 3, 1) := by decide +kernel
theorem dX4_fail_20 : decode cX4_fail 20 = .ok (.iastore, 1) := by decide +kernel
theorem dX4_fail_21 : decode cX4_fail 21 = .ok (.return_, 1) := by decide +kernel
theorem dX5_init_0 : decode cX5_init 0 = .ok (.aload_n 0, 1) := by decide +kernel
theorem dX5_init_1 : decode cX5_init 1 = .ok (.invokespecial 3, 3) := by decide +kernel
theorem dX5_init_4 : decode cX5_init 4 = .ok (.aload_n 0, 1) := by decide +kernel
theorem dX5_init_5 : decode cX5_init 5 = .ok (.iconst 0, 1) := by decide +kernel
theorem dX5_init_6 : decode cX5_init 6 = .ok (.putfield 9, 3) := by decide +kernel
theorem dX5_init_9 : decode cX5_init 9 = .ok (.aload_n 0, 1) := by decide +kernel
theorem dX5_init_10 : decode cX5_init 10 = .ok (.iconst 0, 1) := by decide +kernel
theorem dX5_init_11 : decode cX5_init 11 = .ok (.putfield 15, 3) := by decide +kernel
theorem dX5_init_14 : decode cX5_init 14 = .ok (.aload_n 0, 1) := by decide +kernel
theorem dX5_init_15 : decode cX5_init 15 = .ok (.iconst 0, 1) := by decide +kernel
theorem dX5_init_16 : decode cX5_init 16 = .ok (.putfield 18, 3) := by decide +kernel
theorem dX5_init_19 : decode cX5_init 19 = .ok (.aload_n 0, 1) := by decide +kernel
theorem dX5_init_20 : decode cX5_init 20 = .ok (.iconst 0, 1) := by decide +kernel
theorem dX5_init_21 : decode cX5_init 21 = .ok (.putfield 21, 3) := by decide +kernel
theorem dX5_init_24 : decode cX5_init 24 = .ok (.bipush 24, 2) := by decide +kernel
theorem dX5_init_26 : decode cX5_init 26 = .ok (.iload_n 1, 1) := by decide +kernel
theorem dX5_init_27 : decode cX5_init 27 = .ok (.bipush 9, 2) := by decide +kernel
theorem dX5_init_29 : decode cX5_init 29 = .ok (.idiv, 1) := by decide +kernel
theorem dX5_init_30 : decode cX5_init 30 = .ok (.iconst 1, 1) := by decide +kernel
theorem dX5_init_31 : decode cX5_init 31 = .ok (.iadd, 1) := by decide +kernel
theorem dX5_init_32 : decode cX5_init 32 = .ok (.invokestatic 24, 3) := by decide +kernel
theorem dX5_init_35 : decode cX5_init 35 = .ok (.istore_n 2, 1) := by decide +kernel
theorem dX5_init_36 : decode cX5_init 36 = .ok (.bipush 24, 2) := by decide +kernel
theorem dX5_init_38 : decode cX5_init 38 = .ok (.iload_n 1, 1) := by decide +kernel
theorem dX5_init_39 : decode cX5_init 39 = .ok (.iconst 4, 1) := by decide +kernel
theorem dX5_init_40 : decode cX5_init 40 = .ok (.idiv, 1) := by decide +kernel
theorem dX5_init_41 : decode cX5_init 41 = .ok (.iconst 1, 1) := by decide +kernel
theorem dX5_init_42 : decode cX5_init 42 = .ok (.iadd, 1) := by decide +kernel
theorem dX5_init_43 : decode cX5_init 43 = .ok (.invokestatic 24, 3) := by decide +kernel
theorem dX5_init_46 : decode cX5_init 46 = .ok (.istore_n 3, 1) := by decide +kernel
theorem dX5_init_47 : decode cX5_init 47 = .ok (.bipush 20, 2) := by decide +kernel
theorem dX5_init_49 : decode cX5_init 49 = .ok (.iload_n 1, 1) := by decide +kernel
theorem dX5_init_50 : decode cX5_init 50 = .ok (.iconst 4, 1) := by decide +kernel
theorem dX5_init_51 : decode cX5_init 51 = .ok (.idiv, 1) := by decide +kernel
theorem dX5_init_52 : decode cX5_init 52 = .ok (.iconst 1, 1) := by decide +kernel
theorem dX5_init_53 : decode cX5_init 53 = .ok (.iadd, 1) := by decide +kernel
theorem dX5_init_54 : decode cX5_init 54 = .ok (.invokestatic 24, 3) := by decide +kernel
theorem dX5_init_57 : decode cX5_init 57 = .ok (.istore 4, 2) := by decide +kernel
theorem dX5_init_59 : decode cX5_init 59 = .ok (.aload_n 0, 1) := by decide +kernel
theorem dX5_init_60 : decode cX5_init 60 = .ok (.iload_n 2, 1) := by decide +kernel
theorem dX5_init_61 : decode cX5_init 61 = .ok (.newarray .long, 2) := by decide +kernel
theorem dX5_init_63 : decode cX5_init 63 = .ok (.putfield 30, 3) := by decide +kernel
theorem dX5_init_66 : decode cX5_init 66 = .ok (.aload_n 0, 1) := by decide +kernel
theorem dX5_init_67 : decode cX5_init 67 = .ok (.iload_n 2, 1) := by decide +kernel
theorem dX5_init_68 : decode cX5_init 68 = .ok (.newarray .int, 2) := by decide +kernel
theorem dX5_init_70 : decode cX5_init 70 = .ok (.putfield 34, 3) := by decide +kernel
theorem dX5_init_73 : decode cX5_init 73 = .ok (.aload_n 0, 1) := by decide +kernel
theorem dX5_init_74 : decode cX5_init 74 = .ok (.iload_n 2, 1) := by decide +kernel
theorem dX5_init_75 : decode cX5_init 75 = .ok (.newarray .int, 2) := by decide +kernel
theorem dX5_init_77 : decode cX5_init 77 = .ok (.putfield 38, 3) := by decide +kernel
theorem dX5_init_80 : decode cX5_init 80 = .ok (.aload_n 0, 1) := by decide +kernel
theorem dX5_init_81 : decode cX5_init 81 = .ok (.iload_n 2, 1) := by decide +kernel
theorem dX5_init_82 : decode cX5_init 82 = .ok (.newarray .int, 2) := by decide +kernel
theorem dX5_init_84 : decode cX5_init 84 = .ok (.putfield 41, 3) := by decide +kernel
theorem dX5_init_87 : decode cX5_init 87 = .ok (.aload_n 0, 1) := by decide +kernel
theorem dX5_init_88 : decode cX5_init 88 = .ok (.iload_n 3, 1) := by decide +kernel
theorem dX5_init_89 : decode cX5_init 89 = .ok (.newarray .long, 2) := by decide +kernel
theorem dX5_init_91 : decode cX5_init 91 = .ok (.putfield 44, 3) := by decide +kernel
theorem dX5_init_94 : decode cX5_init 94 = .ok (.aload_n 0, 1) := by decide +kernel
theorem dX5_init_95 : decode cX5_init 95 = .ok (.iload_n 3, 1) := by decide +kernel
theorem dX5_init_96 : decode cX5_init 96 = .ok (.anewarray 47, 3) := by decide +kernel
theorem dX5_init_99 : decode cX5_init 99 = .ok (.putfield 49, 3) := by decide +kernel
theorem dX5_init_102 : decode cX5_init 102 = .ok (.aload_n 0, 1) := by decide +kernel
theorem dX5_init_103 : decode cX5_init 103 = .ok (.iload_n 3, 1) := by decide +kernel
theorem dX5_init_104 : decode cX5_init 104 = .ok (.newarray .int, 2) := by decide +kernel
theorem dX5_init_106 : decode cX5_init 106 = .ok (.putfield 53, 3) := by decide +kernel
theorem dX5_init_109 : decode cX5_init 109 = .ok (.aload_n 0, 1) := by decide +kernel
theorem dX5_init_110 : decode cX5_init 110 = .ok (.iload 4, 2) := by decide +kernel
theorem dX5_init_112 : decode cX5_init 112 = .ok (.newarray .long, 2) := by decide +kernel
theorem dX5_init_114 : decode cX5_init 114 = .ok (.putfield 56, 3) := by decide +kernel
theorem dX5_init_117 : decode cX5_init 117 = .ok (.aload_n 0, 1) := by decide +kernel
theorem dX5_init_118 : decode cX5_init 118 = .ok (.iload 4, 2) := by decide +kernel
theorem dX5_init_120 : decode cX5_init 120 = .ok (.newarray .int, 2) := by decide +kernel
theorem dX5_init_122 : decode cX5_init 122 = .ok (.putfield 59, 3) := by decide +kernel
theorem dX5_init_125 : decode cX5_init 125 = .ok (.aload_n 0, 1) := by decide +kernel
theorem dX5_init_126 : decode cX5_init 126 = .ok (.iload_n 1, 1) := by decide +kernel
theorem dX5_init_127 : decode cX5_init 127 = .ok (.iconst 2, 1) := by decide +kernel
theorem dX5_init_128 : decode cX5_init 128 = .ok (.imul, 1) := by decide +kernel
theorem dX5_init_129 : decode cX5_init 129 = .ok (.bipush 8, 2) := by decide +kernel
theorem dX5_init_131 : decode cX5_init 131 = .ok (.iadd, 1) := by decide +kernel
theorem dX5_init_132 : decode cX5_init 132 = .ok (.newarray .long, 2) := by decide +kernel
theorem dX5_init_134 : decode cX5_init 134 = .ok (.putfield 62, 3) := by decide +kernel
theorem dX5_init_137 : decode cX5_init 137 = .ok (.return_, 1) := by decide +kernel
theorem dX5_addDevice_0 : decode cX5_addDevice 0 = .ok (.aload_n 0, 1) := by decide +kernel
theorem dX5_addDevice_1 : decode cX5_addDevice 1 = .ok (.getfield 9, 3) := by decide +kernel
theorem dX5_addDevice_4 : decode cX5_addDevice 4 = .ok (.aload_n 0, 1) := by decide +kernel
theorem dX5_addDevice_5 : decode cX5_addDevice 5 = .ok (.getfield 30, 3) := by decide +kernel
theorem dX5_addDevice_8 : decode cX5_addDevice 8 = .ok (.arraylength, 1) := by decide +kernel
theorem dX5_addDevice_9 : decode cX5_addDevice 9 = .ok (.if_icmp .ge 55, 3) := by decide +kernel
theorem dX5_addDevice_12 : decode cX5_addDevice 12 = .ok (.aload_n 0, 1) := by decide +kernel
theorem dX5_addDevice_13 : decode cX5_addDevice 13 = .ok (.getfield 30, 3) := by decide +kernel
theorem dX5_addDevice_16 : decode cX5_addDevice 16 = .ok (.aload_n 0, 1) := by decide +kernel
theorem dX5_addDevice_17 : decode cX5_addDevice 17 = .ok (.getfield 9, 3) := by decide +kernel
theorem dX5_addDevice_20 : decode cX5_addDevice 20 = .ok (.lload_n 1, 1) := by decide +kernel
theorem dX5_addDevice_21 : decode cX5_addDevice 21 = .ok (.lastore, 1) := by decide +kernel
theorem dX5_addDevice_22 : decode cX5_addDevice 22 = .ok (.aload_n 0, 1) := by decide +kernel
theorem dX5_addDevice_23 : decode cX5_addDevice 23 = .ok (.getfield 34, 3) := by decide +kernel
theorem dX5_addDevice_26 : decode cX5_addDevice 26 = .ok (.aload_n 0, 1) := by decide +kernel
theorem dX5_addDevice_27 : decode cX5_addDevice 27 = .ok (.getfield 9, 3) := by decide +kernel
theorem dX5_addDevice_30 : decode cX5_addDevice 30 = .ok (.iload_n 3, 1) := by decide +kernel
theorem dX5_addDevice_31 : decode cX5_addDevice 31 = .ok (.iastore, 1) := by decide +kernel
theorem dX5_addDevice_32 : decode cX5_addDevice 32 = .ok (.aload_n 0, 1) := by decide +kernel
theorem dX5_addDevice_33 : decode cX5_addDevice 33 = .ok (.getfield 38, 3) := by decide +kernel
theorem dX5_addDevice_36 : decode cX5_addDevice 36 = .ok (.aload_n 0, 1) := by decide +kernel
theorem dX5_addDevice_37 : decode cX5_addDevice 37 = .ok (.getfield 9, 3) := by decide +kernel
theorem dX5_addDevice_40 : decode cX5_addDevice 40 = .ok (.iload 4, 2) := by decide +kernel
theorem dX5_addDevice_42 : decode cX5_addDevice 42 = .ok (.iastore, 1) := by decide +kernel
theorem dX5_addDevice_43 : decode cX5_addDevice 43 = .ok (.aload_n 0, 1) := by decide +kernel
theorem dX5_addDevice_44 : decode cX5_addDevice 44 = .ok (.getfield 41, 3) := by decide +kernel
theorem dX5_addDevice_47 : decode cX5_addDevice 47 = .ok (.aload_n 0, 1) := by decide +kernel
theorem dX5_addDevice_48 : decode cX5_addDevice 48 = .ok (.getfield 9, 3) := by decide +kernel
theorem dX5_addDevice_51 : decode cX5_addDevice 51 = .ok (.iload 5, 2) := by decide +kernel
theorem dX5_addDevice_53 : decode cX5_addDevice 53 = .ok (.iastore, 1) := by decide +kernel
theorem dX5_addDevice_54 : decode cX5_addDevice 54 = .ok (.aload_n 0, 1) := by decide +kernel
theorem dX5_addDevice_55 : decode cX5_addDevice 55 = .ok (.dup, 1) := by decide +kernel
theorem dX5_addDevice_56 : decode cX5_addDevice 56 = .ok (.getfield 9, 3) := by decide +kernel
theorem dX5_addDevice_59 : decode cX5_addDevice 59 = .ok (.iconst 1, 1) := by decide +kernel
theorem dX5_addDevice_60 : decode cX5_addDevice 60 = .ok (.iadd, 1) := by decide +kernel
theorem dX5_addDevice_61 : decode cX5_addDevice 61 = .ok (.putfield 9, 3) := by decide +kernel
theorem dX5_addDevice_64 : decode cX5_addDevice 64 = .ok (.return_, 1) := by decide +kernel
theorem dX5_addUnit_0 : decode cX5_addUnit 0 = .ok (.aload_n 0, 1) := by decide +kernel
theorem dX5_addUnit_1 : decode cX5_addUnit 1 = .ok (.getfield 15, 3) := by decide +kernel
theorem dX5_addUnit_4 : decode cX5_addUnit 4 = .ok (.aload_n 0, 1) := by decide +kernel
theorem dX5_addUnit_5 : decode cX5_addUnit 5 = .ok (.getfield 49, 3) := by decide +kernel
theorem dX5_addUnit_8 : decode cX5_addUnit 8 = .ok (.arraylength, 1) := by decide +kernel
theorem dX5_addUnit_9 : decode cX5_addUnit 9 = .ok (.if_icmp .lt 4, 3) := by decide +kernel
theorem dX5_addUnit_12 : decode cX5_addUnit 12 = .ok (.return_, 1) := by decide +kernel
theorem dX5_addUnit_13 : decode cX5_addUnit 13 = .ok (.aload_n 0, 1) := by decide +kernel
theorem dX5_addUnit_14 : decode cX5_addUnit 14 = .ok (.getfield 15, 3) := by decide +kernel
theorem dX5_addUnit_17 : decode cX5_addUnit 17 = .ok (.iconst 1, 1) := by decide +kernel
theorem dX5_addUnit_18 : decode cX5_addUnit 18 = .ok (.iadd, 1) := by decide +kernel
theorem dX5_addUnit_19 : decode cX5_addUnit 19 = .ok (.newarray .int, 2) := by decide +kernel
theorem dX5_addUnit_21 : decode cX5_addUnit 21 = .ok (.astore 4, 2) := by decide +kernel
theorem dX5_addUnit_23 : decode cX5_addUnit 23 = .ok (.aload_n 3, 1) := by decide +kernel
theorem dX5_addUnit_24 : decode cX5_addUnit 24 = .ok (.aload 4, 2) := by decide +kernel
theorem dX5_addUnit_26 : decode cX5_addUnit 26 = .ok (.aload_n 0, 1) := by decide +kernel
theorem dX5_addUnit_27 : decode cX5_addUnit 27 = .ok (.aload_n 3, 1) := by decide +kernel
theorem dX5_addUnit_28 : decode cX5_addUnit 28 = .ok (.aload 4, 2) := by decide +kernel
theorem dX5_addUnit_30 : decode cX5_addUnit 30 = .ok (.invokevirtual 65, 3) := by decide +kernel
theorem dX5_addUnit_33 : decode cX5_addUnit 33 = .ok (.invokestatic 69, 3) := by decide +kernel
theorem dX5_addUnit_36 : decode cX5_addUnit 36 = .ok (.putfield 75, 3) := by decide +kernel
theorem dX5_addUnit_39 : decode cX5_addUnit 39 = .ok (.aload_n 3, 1) := by decide +kernel
theorem dX5_addUnit_40 : decode cX5_addUnit 40 = .ok (.aload 4, 2) := by decide +kernel
theorem dX5_addUnit_42 : decode cX5_addUnit 42 = .ok (.aload_n 0, 1) := by decide +kernel
theorem dX5_addUnit_43 : decode cX5_addUnit 43 = .ok (.aload_n 3, 1) := by decide +kernel
theorem dX5_addUnit_44 : decode cX5_addUnit 44 = .ok (.aload 4, 2) := by decide +kernel
theorem dX5_addUnit_46 : decode cX5_addUnit 46 = .ok (.invokevirtual 78, 3) := by decide +kernel
theorem dX5_addUnit_49 : decode cX5_addUnit 49 = .ok (.invokestatic 69, 3) := by decide +kernel
theorem dX5_addUnit_52 : decode cX5_addUnit 52 = .ok (.putfield 81, 3) := by decide +kernel
theorem dX5_addUnit_55 : decode cX5_addUnit 55 = .ok (.aload_n 3, 1) := by decide +kernel
theorem dX5_addUnit_56 : decode cX5_addUnit 56 = .ok (.getfield 84, 3) := by decide +kernel
theorem dX5_addUnit_59 : decode cX5_addUnit 59 = .ok (.ifCond .lt 21, 3) := by decide +kernel
theorem dX5_addUnit_62 : decode cX5_addUnit 62 = .ok (.aload_n 0, 1) := by decide +kernel
theorem dX5_addUnit_63 : decode cX5_addUnit 63 = .ok (.getfield 53, 3) := by decide +kernel
theorem dX5_addUnit_66 : decode cX5_addUnit 66 = .ok (.aload_n 0, 1) := by decide +kernel
theorem dX5_addUnit_67 : decode cX5_addUnit 67 = .ok (.getfield 15, 3) := by decide +kernel
theorem dX5_addUnit_70 : decode cX5_addUnit 70 = .ok (.dup2, 1) := by decide +kernel
theorem dX5_addUnit_71 : decode cX5_addUnit 71 = .ok (.iaload, 1) := by decide +kernel
theorem dX5_addUnit_72 : decode cX5_addUnit 72 = .ok (.iconst 1, 1) := by decide +kernel
theorem dX5_addUnit_73 : decode cX5_addUnit 73 = .ok (.aload_n 3, 1) := by decide +kernel
theorem dX5_addUnit_74 : decode cX5_addUnit 74 = .ok (.getfield 84, 3) := by decide +kernel
theorem dX5_addUnit_77 : decode cX5_addUnit 77 = .ok (.ishl, 1) := by decide +kernel
theorem dX5_addUnit_78 : decode cX5_addUnit 78 = .ok (.ior, 1) := by decide +kernel
theorem dX5_addUnit_79 : decode cX5_addUnit 79 = .ok (.iastore, 1) := by decide +kernel
theorem dX5_addUnit_80 : decode cX5_addUnit 80 = .ok (.iconst 0, 1) := by decide +kernel
theorem dX5_addUnit_81 : decode cX5_addUnit 81 = .ok (.istore 5, 2) := by decide +kernel
theorem dX5_addUnit_83 : decode cX5_addUnit 83 = .ok (.iload 5, 2) := by decide +kernel
theorem dX5_addUnit_85 : decode cX5_addUnit 85 = .ok (.aload_n 3, 1) := by decide +kernel
theorem dX5_addUnit_86 : decode cX5_addUnit 86 = .ok (.getfield 87, 3) := by decide +kernel
theorem dX5_addUnit_89 : decode cX5_addUnit 89 = .ok (.if_icmp .ge 30, 3) := by decide +kernel
theorem dX5_addUnit_92 : decode cX5_addUnit 92 = .ok (.aload_n 0, 1) := by decide +kernel
theorem dX5_addUnit_93 : decode cX5_addUnit 93 = .ok (.getfield 53, 3) := by decide +kernel
theorem dX5_addUnit_96 : decode cX5_addUnit 96 = .ok (.aload_n 0, 1) := by decide +kernel
theorem dX5_addUnit_97 : decode cX5_addUnit 97 = .ok (.getfield 15, 3) := by decide +kernel
theorem dX5_addUnit_100 : decode cX5_addUnit 100 = .ok (.dup2, 1) := by decide +kernel
theorem dX5_addUnit_101 : decode cX5_addUnit 101 = .ok (.iaload, 1) := by decide +kernel
theorem dX5_addUnit_102 : decode cX5_addUnit 102 = .ok (.iconst 1, 1) := by decide +kernel
theorem dX5_addUnit_103 : decode cX5_addUnit 103 = .ok (.aload_n 3, 1) := by decide +kernel
theorem dX5_addUnit_104 : decode cX5_addUnit 104 = .ok (.getfield 90, 3) := by decide +kernel
theorem dX5_addUnit_107 : decode cX5_addUnit 107 = .ok (.iload 5, 2) := by decide +kernel
theorem dX5_addUnit_109 : decode cX5_addUnit 109 = .ok (.iaload, 1) := by decide +kernel
theorem dX5_addUnit_110 : decode cX5_addUnit 110 = .ok (.ishl, 1) := by decide +kernel
theorem dX5_addUnit_111 : decode cX5_addUnit 111 = .ok (.ior, 1) := by decide +kernel
theorem dX5_addUnit_112 : decode cX5_addUnit 112 = .ok (.iastore, 1) := by decide +kernel
theorem dX5_addUnit_113 : decode cX5_addUnit 113 = .ok (.iinc 5 1, 3) := by decide +kernel
theorem dX5_addUnit_116 : decode cX5_addUnit 116 = .ok (.goto (-33), 3) := by decide +kernel
theorem dX5_addUnit_119 : decode cX5_addUnit 119 = .ok (.aload_n 0, 1) := by decide +kernel
theorem dX5_addUnit_120 : decode cX5_addUnit 120 = .ok (.getfield 44, 3) := by decide +kernel
theorem dX5_addUnit_123 : decode cX5_addUnit 123 = .ok (.aload_n 0, 1) := by decide +kernel
theorem dX5_addUnit_124 : decode cX5_addUnit 124 = .ok (.getfield 15, 3) := by decide +kernel
theorem dX5_addUnit_127 : decode cX5_addUnit 127 = .ok (.lload_n 1, 1) := by decide +kernel
theorem dX5_addUnit_128 : decode cX5_addUnit 128 = .ok (.lastore, 1) := by decide +kernel
theorem dX5_addUnit_129 : decode cX5_addUnit 129 = .ok (.aload_n 0, 1) := by decide +kernel
theorem dX5_addUnit_130 : decode cX5_addUnit 130 = .ok (.getfield 49, 3) := by decide +kernel
theorem dX5_addUnit_133 : decode cX5_addUnit 133 = .ok (.aload_n 0, 1) := by decide +kernel
theorem dX5_addUnit_134 : decode cX5_addUnit 134 = .ok (.getfield 15, 3) := by decide +kernel
theorem dX5_addUnit_137 : decode cX5_addUnit 137 = .ok (.aload_n 3, 1) := by decide +kernel
theorem dX5_addUnit_138 : decode cX5_addUnit 138 = .ok (.aastore, 1) := by decide +kernel
theorem dX5_addUnit_139 : decode cX5_addUnit 139 = .ok (.aload_n 0, 1) := by decide +kernel
theorem dX5_addUnit_140 : decode cX5_addUnit 140 = .ok (.dup, 1) := by decide +kernel
theorem dX5_addUnit_141 : decode cX5_addUnit 141 = .ok (.getfield 15, 3) := by decide +kernel
theorem dX5_addUnit_144 : decode cX5_addUnit 144 = .ok (.iconst 1, 1) := by decide +kernel
theorem dX5_addUnit_145 : decode cX5_addUnit 145 = .ok (.iadd, 1) := by decide +kernel
theorem dX5_addUnit_146 : decode cX5_addUnit 146 = .ok (.putfield 15, 3) := by decide +kernel
theorem dX5_addUnit_149 : decode cX5_addUnit 149 = .ok (.return_, 1) := by decide +kernel
theorem dX5_fillSearch_0 : decode cX5_fillSearch 0 = .ok (.aload_n 2, 1) := by decide +kernel
theorem dX5_fillSearch_1 : decode cX5_fillSearch 1 = .ok (.iconst 0, 1) := by decide +kernel
theorem dX5_fillSearch_2 : decode cX5_fillSearch 2 = .ok (.aload_n 0, 1) := by decide +kernel
theorem dX5_fillSearch_3 : decode cX5_fillSearch 3 = .ok (.getfield 15, 3) := by decide +kernel
theorem dX5_fillSearch_6 : decode cX5_fillSearch 6 = .ok (.iastore, 1) := by decide +kernel
theorem dX5_fillSearch_7 : decode cX5_fillSearch 7 = .ok (.iconst 1, 1) := by decide +kernel
theorem dX5_fillSearch_8 : decode cX5_fillSearch 8 = .ok (.istore_n 3, 1) := by decide +kernel
theorem dX5_fillSearch_9 : decode cX5_fillSearch 9 = .ok (.iconst 0, 1) := by decide +kernel
theorem dX5_fillSearch_10 : decode cX5_fillSearch 10 = .ok (.istore 4, 2) := by decide +kernel
theorem dX5_fillSearch_12 : decode cX5_fillSearch 12 = .ok (.iload 4, 2) := by decide +kernel
theorem dX5_fillSearch_14 : decode cX5_fillSearch 14 = .ok (.aload_n 1, 1) := by decide +kernel
theorem dX5_fillSearch_15 : decode cX5_fillSearch 15 = .ok (.getfield 87, 3) := by decide +kernel
theorem dX5_fillSearch_18 : decode cX5_fillSearch 18 = .ok (.if_icmp .ge 30, 3) := by decide +kernel
theorem dX5_fillSearch_21 : decode cX5_fillSearch 21 = .ok (.aload_n 0, 1) := by decide +kernel
theorem dX5_fillSearch_22 : decode cX5_fillSearch 22 = .ok (.getfield 49, 3) := by decide +kernel
theorem dX5_fillSearch_25 : decode cX5_fillSearch 25 = .ok (.aload_n 1, 1) := by decide +kernel
theorem dX5_fillSearch_26 : decode cX5_fillSearch 26 = .ok (.getfield 90, 3) := by decide +kernel
theorem dX5_fillSearch_29 : decode cX5_fillSearch 29 = .ok (.iload 4, 2) := by decide +kernel
theorem dX5_fillSearch_31 : decode cX5_fillSearch 31 = .ok (.iaload, 1) := by decide +kernel
theorem dX5_fillSearch_32 : decode cX5_fillSearch 32 = .ok (.aaload, 1) := by decide +kernel
theorem dX5_fillSearch_33 : decode cX5_fillSearch 33 = .ok (.getfield 75, 3) := by decide +kernel
theorem dX5_fillSearch_36 : decode cX5_fillSearch 36 = .ok (.aload_n 2, 1) := by decide +kernel
theorem dX5_fillSearch_37 : decode cX5_fillSearch 37 = .ok (.iload_n 3, 1) := by decide +kernel
theorem dX5_fillSearch_38 : decode cX5_fillSearch 38 = .ok (.invokestatic 93, 3) := by decide +kernel
theorem dX5_fillSearch_41 : decode cX5_fillSearch 41 = .ok (.istore_n 3, 1) := by decide +kernel
theorem dX5_fillSearch_42 : decode cX5_fillSearch 42 = .ok (.iinc 4 1, 3) := by decide +kernel
theorem dX5_fillSearch_45 : decode cX5_fillSearch 45 = .ok (.goto (-33), 3) := by decide +kernel
theorem dX5_fillSearch_48 : decode cX5_fillSearch 48 = .ok (.aload_n 1, 1) := by decide +kernel
theorem dX5_fillSearch_49 : decode cX5_fillSearch 49 = .ok (.getfield 84, 3) := by decide +kernel
theorem dX5_fillSearch_52 : decode cX5_fillSearch 52 = .ok (.ifCond .ge 7, 3) := by decide +kernel
theorem dX5_fillSearch_55 : decode cX5_fillSearch 55 = .ok (.iload_n 3, 1) := by decide +kernel
theorem dX5_fillSearch_56 : decode cX5_fillSearch 56 = .ok (.goto 20, 3) := by decide +kernel
theorem dX5_fillSearch_59 : decode cX5_fillSearch 59 = .ok (.aload_n 0, 1) := by decide +kernel
theorem dX5_fillSearch_60 : decode cX5_fillSearch 60 = .ok (.getfield 49, 3) := by decide +kernel
theorem dX5_fillSearch_63 : decode cX5_fillSearch 63 = .ok (.aload_n 1, 1) := by decide +kernel
theorem dX5_fillSearch_64 : decode cX5_fillSearch 64 = .ok (.getfield 84, 3) := by decide +kernel
theorem dX5_fillSearch_67 : decode cX5_fillSearch 67 = .ok (.aaload, 1) := by decide +kernel
theorem dX5_fillSearch_68 : decode cX5_fillSearch 68 = .ok (.getfield 75, 3) := by decide +kernel
theorem dX5_fillSearch_71 : decode cX5_fillSearch 71 = .ok (.aload_n 2, 1) := by decide +kernel
theorem dX5_fillSearch_72 : decode cX5_fillSearch 72 = .ok (.iload_n 3, 1) := by decide +kernel
theorem dX5_fillSearch_73 : decode cX5_fillSearch 73 = .ok (.invokestatic 93, 3) := by decide +kernel
theorem dX5_fillSearch_76 : decode cX5_fillSearch 76 = .ok (.ireturn, 1) := by decide +kernel
theorem dX5_fillClimb_0 : decode cX5_fillClimb 0 = .ok (.iconst 0, 1) := by decide +kernel
theorem dX5_fillClimb_1 : decode cX5_fillClimb 1 = .ok (.istore_n 3, 1) := by decide +kernel
theorem dX5_fillClimb_2 : decode cX5_fillClimb 2 = .ok (.iconst 0, 1) := by decide +kernel
theorem dX5_fillClimb_3 : decode cX5_fillClimb 3 = .ok (.istore 4, 2) := by decide +kernel
theorem dX5_fillClimb_5 : decode cX5_fillClimb 5 = .ok (.iload 4, 2) := by decide +kernel
theorem dX5_fillClimb_7 : decode cX5_fillClimb 7 = .ok (.aload_n 1, 1) := by decide +kernel
theorem dX5_fillClimb_8 : decode cX5_fillClimb 8 = .ok (.getfield 87, 3) := by decide +kernel
theorem dX5_fillClimb_11 : decode cX5_fillClimb 11 = .ok (.if_icmp .ge 30, 3) := by decide +kernel
theorem dX5_fillClimb_14 : decode cX5_fillClimb 14 = .ok (.aload_n 0, 1) := by decide +kernel
theorem dX5_fillClimb_15 : decode cX5_fillClimb 15 = .ok (.getfield 49, 3) := by decide +kernel
theorem dX5_fillClimb_18 : decode cX5_fillClimb 18 = .ok (.aload_n 1, 1) := by decide +kernel
theorem dX5_fillClimb_19 : decode cX5_fillClimb 19 = .ok (.getfield 90, 3) := by decide +kernel
theorem dX5_fillClimb_22 : decode cX5_fillClimb 22 = .ok (.iload 4, 2) := by decide +kernel
theorem dX5_fillClimb_24 : decode cX5_fillClimb 24 = .ok (.iaload, 1) := by decide +kernel
theorem dX5_fillClimb_25 : decode cX5_fillClimb 25 = .ok (.aaload, 1) := by decide +kernel
theorem dX5_fillClimb_26 : decode cX5_fillClimb 26 = .ok (.getfield 81, 3) := by decide +kernel
theorem dX5_fillClimb_29 : decode cX5_fillClimb 29 = .ok (.aload_n 2, 1) := by decide +kernel
theorem dX5_fillClimb_30 : decode cX5_fillClimb 30 = .ok (.iload_n 3, 1) := by decide +kernel
theorem dX5_fillClimb_31 : decode cX5_fillClimb 31 = .ok (.invokestatic 93, 3) := by decide +kernel
theorem dX5_fillClimb_34 : decode cX5_fillClimb 34 = .ok (.istore_n 3, 1) := by decide +kernel
theorem dX5_fillClimb_35 : decode cX5_fillClimb 35 = .ok (.iinc 4 1, 3) := by decide +kernel
theorem dX5_fillClimb_38 : decode cX5_fillClimb 38 = .ok (.goto (-33), 3) := by decide +kernel
theorem dX5_fillClimb_41 : decode cX5_fillClimb 41 = .ok (.aload_n 1, 1) := by decide +kernel
theorem dX5_fillClimb_42 : decode cX5_fillClimb 42 = .ok (.getfield 97, 3) := by decide +kernel
theorem dX5_fillClimb_45 : decode cX5_fillClimb 45 = .ok (.ifCond .ne 19, 3) := by decide +kernel
theorem dX5_fillClimb_48 : decode cX5_fillClimb 48 = .ok (.iload_n 3, 1) := by decide +kernel
theorem dX5_fillClimb_49 : decode cX5_fillClimb 49 = .ok (.aload_n 2, 1) := by decide +kernel
theorem dX5_fillClimb_50 : decode cX5_fillClimb 50 = .ok (.arraylength, 1) := by decide +kernel
theorem dX5_fillClimb_51 : decode cX5_fillClimb 51 = .ok (.if_icmp .ge 13, 3) := by decide +kernel
theorem dX5_fillClimb_54 : decode cX5_fillClimb 54 = .ok (.aload_n 2, 1) := by decide +kernel
theorem dX5_fillClimb_55 : decode cX5_fillClimb 55 = .ok (.iload_n 3, 1) := by decide +kernel
theorem dX5_fillClimb_56 : decode cX5_fillClimb 56 = .ok (.aload_n 0, 1) := by decide +kernel
theorem dX5_fillClimb_57 : decode cX5_fillClimb 57 = .ok (.getfield 15, 3) := by decide +kernel
theorem dX5_fillClimb_60 : decode cX5_fillClimb 60 = .ok (.iastore, 1) := by decide +kernel
theorem dX5_fillClimb_61 : decode cX5_fillClimb 61 = .ok (.iinc 3 1, 3) := by decide +kernel
theorem dX5_fillClimb_64 : decode cX5_fillClimb 64 = .ok (.iload_n 3, 1) := by decide +kernel
theorem dX5_fillClimb_65 : decode cX5_fillClimb 65 = .ok (.ireturn, 1) := by decide +kernel
theorem dX5_addMissing_0 : decode cX5_addMissing 0 = .ok (.iload_n 2, 1) := by decide +kernel
theorem dX5_addMissing_1 : decode cX5_addMissing 1 = .ok (.istore_n 3, 1) := by decide +kernel
theorem dX5_addMissing_2 : decode cX5_addMissing 2 = .ok (.iconst 0, 1) := by decide +kernel
theorem dX5_addMissing_3 : decode cX5_addMissing 3 = .ok (.istore 4, 2) := by decide +kernel
theorem dX5_addMissing_5 : decode cX5_addMissing 5 = .ok (.iload 4, 2) := by decide +kernel
theorem dX5_addMissing_7 : decode cX5_addMissing 7 = .ok (.aload_n 0, 1) := by decide +kernel
theorem dX5_addMissing_8 : decode cX5_addMissing 8 = .ok (.arraylength, 1) := by decide +kernel
theorem dX5_addMissing_9 : decode cX5_addMissing 9 = .ok (.if_icmp .ge 37, 3) := by decide +kernel
theorem dX5_addMissing_12 : decode cX5_addMissing 12 = .ok (.iload_n 3, 1) := by decide +kernel
theorem dX5_addMissing_13 : decode cX5_addMissing 13 = .ok (.aload_n 1, 1) := by decide +kernel
theorem dX5_addMissing_14 : decode cX5_addMissing 14 = .ok (.arraylength, 1) := by decide +kernel
theorem dX5_addMissing_15 : decode cX5_addMissing 15 = .ok (.if_icmp .ge 25, 3) := by decide +kernel
theorem dX5_addMissing_18 : decode cX5_addMissing 18 = .ok (.aload_n 1, 1) := by decide +kernel
theorem dX5_addMissing_19 : decode cX5_addMissing 19 = .ok (.iload_n 3, 1) := by decide +kernel
theorem dX5_addMissing_20 : decode cX5_addMissing 20 = .ok (.aload_n 0, 1) := by decide +kernel
theorem dX5_addMissing_21 : decode cX5_addMissing 21 = .ok (.iload 4, 2) := by decide +kernel
theorem dX5_addMissing_23 : decode cX5_addMissing 23 = .ok (.iaload, 1) := by decide +kernel
theorem dX5_addMissing_24 : decode cX5_addMissing 24 = .ok (.invokestatic 101, 3) := by decide +kernel
theorem dX5_addMissing_27 : decode cX5_addMissing 27 = .ok (.ifCond .ne 13, 3) := by decide +kernel
theorem dX5_addMissing_30 : decode cX5_addMissing 30 = .ok (.aload_n 1, 1) := by decide +kernel
theorem dX5_addMissing_31 : decode cX5_addMissing 31 = .ok (.iload_n 3, 1) := by decide +kernel
theorem dX5_addMissing_32 : decode cX5_addMissing 32 = .ok (.aload_n 0, 1) := by decide +kernel
theorem dX5_addMissing_33 : decode cX5_addMissing 33 = .ok (.iload 4, 2) := by decide +kernel
theorem dX5_addMissing_35 : decode cX5_addMissing 35 = .ok (.iaload, 1) := by decide +kernel
theorem dX5_addMissing_36 : decode cX5_addMissing 36 = .ok (.iastore, 1) := by decide +kernel
theorem dX5_addMissing_37 : decode cX5_addMissing 37 = .ok (.iinc 3 1, 3) := by decide +kernel
theorem dX5_addMissing_40 : decode cX5_addMissing 40 = .ok (.iinc 4 1, 3) := by decide +kernel
theorem dX5_addMissing_43 : decode cX5_addMissing 43 = .ok (.goto (-38), 3) := by decide +kernel
theorem dX5_addMissing_46 : decode cX5_addMissing 46 = .ok (.iload_n 3, 1) := by decide +kernel
theorem dX5_addMissing_47 : decode cX5_addMissing 47 = .ok (.ireturn, 1) := by decide +kernel
theorem dX5_contains_0 : decode cX5_contains 0 = .ok (.iconst 0, 1) := by decide +kernel
theorem dX5_contains_1 : decode cX5_contains 1 = .ok (.istore_n 3, 1) := by decide +kernel
theorem dX5_contains_2 : decode cX5_contains 2 = .ok (.iload_n 3, 1) := by decide +kernel
theorem dX5_contains_3 : decode cX5_contains 3 = .ok (.iload_n 1, 1) := by decide +kernel
theorem dX5_contains_4 : decode cX5_contains 4 = .ok (.if_icmp .ge 24, 3) := by decide +kernel
theorem dX5_contains_7 : decode cX5_contains 7 = .ok (.iload_n 3, 1) := by decide +kernel
theorem dX5_contains_8 : decode cX5_contains 8 = .ok (.aload_n 0, 1) := by decide +kernel
theorem dX5_contains_9 : decode cX5_contains 9 = .ok (.arraylength, 1) := by decide +kernel
theorem dX5_contains_10 : decode cX5_contains 10 = .ok (.if_icmp .ge 18, 3) := by decide +kernel
theorem dX5_contains_13 : decode cX5_contains 13 = .ok (.aload_n 0, 1) := by decide +kernel
theorem dX5_contains_14 : decode cX5_contains 14 = .ok (.iload_n 3, 1) := by decide +kernel
theorem dX5_contains_15 : decode cX5_contains 15 = .ok (.iaload, 1) := by decide +kernel
theorem dX5_contains_16 : decode cX5_contains 16 = .ok (.iload_n 2, 1) := by decide +kernel
theorem dX5_contains_17 : decode cX5_contains 17 = .ok (.if_icmp .ne 5, 3) := by decide +kernel
theorem dX5_contains_20 : decode cX5_contains 20 = .ok (.iconst 1, 1) := by decide +kernel
theorem dX5_contains_21 : decode cX5_contains 21 = .ok (.ireturn, 1) := by decide +kernel
theorem dX5_contains_22 : decode cX5_contains 22 = .ok (.iinc 3 1, 3) := by decide +kernel
theorem dX5_contains_25 : decode cX5_contains 25 = .ok (.goto (-23), 3) := by decide +kernel
theorem dX5_contains_28 : decode cX5_contains 28 = .ok (.iconst 0, 1) := by decide +kernel
theorem dX5_contains_29 : decode cX5_contains 29 = .ok (.ireturn, 1) := by decide +kernel
theorem dX5_addDemand_0 : decode cX5_addDemand 0 = .ok (.aload_n 0, 1) := by decide +kernel
theorem dX5_addDemand_1 : decode cX5_addDemand 1 = .ok (.getfield 18, 3) := by decide +kernel
theorem dX5_addDemand_4 : decode cX5_addDemand 4 = .ok (.aload_n 0, 1) := by decide +kernel
theorem dX5_addDemand_5 : decode cX5_addDemand 5 = .ok (.getfield 56, 3) := by decide +kernel
theorem dX5_addDemand_8 : decode cX5_addDemand 8 = .ok (.arraylength, 1) := by decide +kernel
theorem dX5_addDemand_9 : decode cX5_addDemand 9 = .ok (.if_icmp .ge 33, 3) := by decide +kernel
theorem dX5_addDemand_12 : decode cX5_addDemand 12 = .ok (.aload_n 0, 1) := by decide +kernel
theorem dX5_addDemand_13 : decode cX5_addDemand 13 = .ok (.getfield 56, 3) := by decide +kernel
theorem dX5_addDemand_16 : decode cX5_addDemand 16 = .ok (.aload_n 0, 1) := by decide +kernel
theorem dX5_addDemand_17 : decode cX5_addDemand 17 = .ok (.getfield 18, 3) := by decide +kernel
theorem dX5_addDemand_20 : decode cX5_addDemand 20 = .ok (.lload_n 1, 1) := by decide +kernel
theorem dX5_addDemand_21 : decode cX5_addDemand 21 = .ok (.lastore, 1) := by decide +kernel
theorem dX5_addDemand_22 : decode cX5_addDemand 22 = .ok (.aload_n 0, 1) := by decide +kernel
theorem dX5_addDemand_23 : decode cX5_addDemand 23 = .ok (.getfield 59, 3) := by decide +kernel
theorem dX5_addDemand_26 : decode cX5_addDemand 26 = .ok (.aload_n 0, 1) := by decide +kernel
theorem dX5_addDemand_27 : decode cX5_addDemand 27 = .ok (.getfield 18, 3) := by decide +kernel
theorem dX5_addDemand_30 : decode cX5_addDemand 30 = .ok (.iload_n 3, 1) := by decide +kernel
theorem dX5_addDemand_31 : decode cX5_addDemand 31 = .ok (.iastore, 1) := by decide +kernel
theorem dX5_addDemand_32 : decode cX5_addDemand 32 = .ok (.aload_n 0, 1) := by decide +kernel
theorem dX5_addDemand_33 : decode cX5_addDemand 33 = .ok (.dup, 1) := by decide +kernel
theorem dX5_addDemand_34 : decode cX5_addDemand 34 = .ok (.getfield 18, 3) := by decide +kernel
theorem dX5_addDemand_37 : decode cX5_addDemand 37 = .ok (.iconst 1, 1) := by decide +kernel
theorem dX5_addDemand_38 : decode cX5_addDemand 38 = .ok (.iadd, 1) := by decide +kernel
theorem dX5_addDemand_39 : decode cX5_addDemand 39 = .ok (.putfield 18, 3) := by decide +kernel
theorem dX5_addDemand_42 : decode cX5_addDemand 42 = .ok (.return_, 1) := by decide +kernel
theorem dX5_isTold_0 : decode cX5_isTold 0 = .ok (.lload_n 1, 1) := by decide +kernel
theorem dX5_isTold_1 : decode cX5_isTold 1 = .ok (.aload_n 0, 1) := by decide +kernel
theorem dX5_isTold_2 : decode cX5_isTold 2 = .ok (.getfield 30, 3) := by decide +kernel
theorem dX5_isTold_5 : decode cX5_isTold 5 = .ok (.aload_n 0, 1) := by decide +kernel
theorem dX5_isTold_6 : decode cX5_isTold 6 = .ok (.getfield 9, 3) := by decide +kernel
theorem dX5_isTold_9 : decode cX5_isTold 9 = .ok (.invokestatic 105, 3) := by decide +kernel
theorem dX5_isTold_12 : decode cX5_isTold 12 = .ok (.ifCond .ge 33, 3) := by decide +kernel
theorem dX5_isTold_15 : decode cX5_isTold 15 = .ok (.lload_n 1, 1) := by decide +kernel
theorem dX5_isTold_16 : decode cX5_isTold 16 = .ok (.aload_n 0, 1) := by decide +kernel
theorem dX5_isTold_17 : decode cX5_isTold 17 = .ok (.getfield 44, 3) := by decide +kernel
theorem dX5_isTold_20 : decode cX5_isTold 20 = .ok (.aload_n 0, 1) := by decide +kernel
theorem dX5_isTold_21 : decode cX5_isTold 21 = .ok (.getfield 15, 3) := by decide +kernel
theorem dX5_isTold_24 : decode cX5_isTold 24 = .ok (.invokestatic 105, 3) := by decide +kernel
theorem dX5_isTold_27 : decode cX5_isTold 27 = .ok (.ifCond .ge 18, 3) := by decide +kernel
theorem dX5_isTold_30 : decode cX5_isTold 30 = .ok (.lload_n 1, 1) := by decide +kernel
theorem dX5_isTold_31 : decode cX5_isTold 31 = .ok (.aload_n 0, 1) := by decide +kernel
theorem dX5_isTold_32 : decode cX5_isTold 32 = .ok (.getfield 56, 3) := by decide +kernel
theorem dX5_isTold_35 : decode cX5_isTold 35 = .ok (.aload_n 0, 1) := by decide +kernel
theorem dX5_isTold_36 : decode cX5_isTold 36 = .ok (.getfield 18, 3) := by decide +kernel
theorem dX5_isTold_39 : decode cX5_isTold 39 = .ok (.invokestatic 105, 3) := by decide +kernel
theorem dX5_isTold_42 : decode cX5_isTold 42 = .ok (.ifCond .lt 7, 3) := by decide +kernel
theorem dX5_isTold_45 : decode cX5_isTold 45 = .ok (.iconst 1, 1) := by decide +kernel
theorem dX5_isTold_46 : decode cX5_isTold 46 = .ok (.goto 4, 3) := by decide +kernel
theorem dX5_isTold_49 : decode cX5_isTold 49 = .ok (.iconst 0, 1) := by decide +kernel
theorem dX5_isTold_50 : decode cX5_isTold 50 = .ok (.ireturn, 1) := by decide +kernel
theorem dX5_find_0 : decode cX5_find 0 = .ok (.iload_n 1, 1) := by decide +kernel
theorem dX5_find_1 : decode cX5_find 1 = .ok (.ifCond .lt 11, 3) := by decide +kernel
theorem dX5_find_4 : decode cX5_find 4 = .ok (.iload_n 1, 1) := by decide +kernel
theorem dX5_find_5 : decode cX5_find 5 = .ok (.aload_n 0, 1) := by decide +kernel
theorem dX5_find_6 : decode cX5_find 6 = .ok (.getfield 15, 3) := by decide +kernel
theorem dX5_find_9 : decode cX5_find 9 = .ok (.if_icmp .lt 5, 3) := by decide +kernel
theorem dX5_find_12 : decode cX5_find 12 = .ok (.iconst (-1), 1) := by decide +kernel
theorem dX5_find_13 : decode cX5_find 13 = .ok (.ireturn, 1) := by decide +kernel
theorem dX5_find_14 : decode cX5_find 14 = .ok (.aload_n 0, 1) := by decide +kernel
theorem dX5_find_15 : decode cX5_find 15 = .ok (.getfield 49, 3) := by decide +kernel
theorem dX5_find_18 : decode cX5_find 18 = .ok (.iload_n 1, 1) := by decide +kernel
theorem dX5_find_19 : decode cX5_find 19 = .ok (.aaload, 1) := by decide +kernel
theorem dX5_find_20 : decode cX5_find 20 = .ok (.getfield 75, 3) := by decide +kernel
theorem dX5_find_23 : decode cX5_find 23 = .ok (.astore 4, 2) := by decide +kernel
theorem dX5_find_25 : decode cX5_find 25 = .ok (.iconst 0, 1) := by decide +kernel
theorem dX5_find_26 : decode cX5_find 26 = .ok (.istore 5, 2) := by decide +kernel
theorem dX5_find_28 : decode cX5_find 28 = .ok (.iload 5, 2) := by decide +kernel
theorem dX5_find_30 : decode cX5_find 30 = .ok (.aload 4, 2) := by decide +kernel
theorem dX5_find_32 : decode cX5_find 32 = .ok (.arraylength, 1) := by decide +kernel
theorem dX5_find_33 : decode cX5_find 33 = .ok (.if_icmp .ge 65, 3) := by decide +kernel
theorem dX5_find_36 : decode cX5_find 36 = .ok (.aload_n 0, 1) := by decide +kernel
theorem dX5_find_37 : decode cX5_find 37 = .ok (.getfield 49, 3) := by decide +kernel
theorem dX5_find_40 : decode cX5_find 40 = .ok (.aload 4, 2) := by decide +kernel
theorem dX5_find_42 : decode cX5_find 42 = .ok (.iload 5, 2) := by decide +kernel
theorem dX5_find_44 : decode cX5_find 44 = .ok (.iaload, 1) := by decide +kernel
theorem dX5_find_45 : decode cX5_find 45 = .ok (.aaload, 1) := by decide +kernel
theorem dX5_find_46 : decode cX5_find 46 = .ok (.astore 6, 2) := by decide +kernel
theorem dX5_find_48 : decode cX5_find 48 = .ok (.iconst 0, 1) := by decide +kernel
theorem dX5_find_49 : decode cX5_find 49 = .ok (.istore 7, 2) := by decide +kernel
theorem dX5_find_51 : decode cX5_find 51 = .ok (.iload 7, 2) := by decide +kernel
theorem dX5_find_53 : decode cX5_find 53 = .ok (.aload 6, 2) := by decide +kernel
theorem dX5_find_55 : decode cX5_find 55 = .ok (.getfield 109, 3) := by decide +kernel
theorem dX5_find_58 : decode cX5_find 58 = .ok (.if_icmp .ge 34, 3) := by decide +kernel
theorem dX5_find_61 : decode cX5_find 61 = .ok (.aload 6, 2) := by decide +kernel
theorem dX5_find_63 : decode cX5_find 63 = .ok (.getfield 112, 3) := by decide +kernel
theorem dX5_find_66 : decode cX5_find 66 = .ok (.iload 7, 2) := by decide +kernel
theorem dX5_find_68 : decode cX5_find 68 = .ok (.laload, 1) := by decide +kernel
theorem dX5_find_69 : decode cX5_find 69 = .ok (.lload_n 2, 1) := by decide +kernel
theorem dX5_find_70 : decode cX5_find 70 = .ok (.lcmp, 1) := by decide +kernel
theorem dX5_find_71 : decode cX5_find 71 = .ok (.ifCond .ne 15, 3) := by decide +kernel
theorem dX5_find_74 : decode cX5_find 74 = .ok (.aload 4, 2) := by decide +kernel
theorem dX5_find_76 : decode cX5_find 76 = .ok (.iload 5, 2) := by decide +kernel
theorem dX5_find_78 : decode cX5_find 78 = .ok (.iaload, 1) := by decide +kernel
theorem dX5_find_79 : decode cX5_find 79 = .ok (.bipush 8, 2) := by decide +kernel
theorem dX5_find_81 : decode cX5_find 81 = .ok (.imul, 1) := by decide +kernel
theorem dX5_find_82 : decode cX5_find 82 = .ok (.iload 7, 2) := by decide +kernel
theorem dX5_find_84 : decode cX5_find 84 = .ok (.iadd, 1) := by decide +kernel
theorem dX5_find_85 : decode cX5_find 85 = .ok (.ireturn, 1) := by decide +kernel
theorem dX5_find_86 : decode cX5_find 86 = .ok (.iinc 7 1, 3) := by decide +kernel
theorem dX5_find_89 : decode cX5_find 89 = .ok (.goto (-38), 3) := by decide +kernel
theorem dX5_find_92 : decode cX5_find 92 = .ok (.iinc 5 1, 3) := by decide +kernel
theorem dX5_find_95 : decode cX5_find 95 = .ok (.goto (-67), 3) := by decide +kernel
theorem dX5_find_98 : decode cX5_find 98 = .ok (.iconst (-1), 1) := by decide +kernel
theorem dX5_find_99 : decode cX5_find 99 = .ok (.ireturn, 1) := by decide +kernel
theorem dX5_isStatic_0 : decode cX5_isStatic 0 = .ok (.aload_n 0, 1) := by decide +kernel
theorem dX5_isStatic_1 : decode cX5_isStatic 1 = .ok (.getfield 49, 3) := by decide +kernel
theorem dX5_isStatic_4 : decode cX5_isStatic 4 = .ok (.iload_n 1, 1) := by decide +kernel
theorem dX5_isStatic_5 : decode cX5_isStatic 5 = .ok (.bipush 8, 2) := by decide +kernel
theorem dX5_isStatic_7 : decode cX5_isStatic 7 = .ok (.idiv, 1) := by decide +kernel
theorem dX5_isStatic_8 : decode cX5_isStatic 8 = .ok (.aaload, 1) := by decide +kernel
theorem dX5_isStatic_9 : decode cX5_isStatic 9 = .ok (.getfield 115, 3) := by decide +kernel
theorem dX5_isStatic_12 : decode cX5_isStatic 12 = .ok (.iload_n 1, 1) := by decide +kernel
theorem dX5_isStatic_13 : decode cX5_isStatic 13 = .ok (.bipush 8, 2) := by decide +kernel
theorem dX5_isStatic_15 : decode cX5_isStatic 15 = .ok (.irem, 1) := by decide +kernel
theorem dX5_isStatic_16 : decode cX5_isStatic 16 = .ok (.baload, 1) := by decide +kernel
theorem dX5_isStatic_17 : decode cX5_isStatic 17 = .ok (.ireturn, 1) := by decide +kernel
theorem dX5_placeWord_0 : decode cX5_placeWord 0 = .ok (.iload_n 2, 1) := by decide +kernel
theorem dX5_placeWord_1 : decode cX5_placeWord 1 = .ok (.ifCond .eq 7, 3) := by decide +kernel
theorem dX5_placeWord_4 : decode cX5_placeWord 4 = .ok (.iconst 5, 1) := by decide +kernel
theorem dX5_placeWord_5 : decode cX5_placeWord 5 = .ok (.goto 16, 3) := by decide +kernel
theorem dX5_placeWord_8 : decode cX5_placeWord 8 = .ok (.aload_n 0, 1) := by decide +kernel
theorem dX5_placeWord_9 : decode cX5_placeWord 9 = .ok (.iload_n 1, 1) := by decide +kernel
theorem dX5_placeWord_10 : decode cX5_placeWord 10 = .ok (.invokevirtual 119, 3) := by decide +kernel
theorem dX5_placeWord_13 : decode cX5_placeWord 13 = .ok (.ifCond .eq 7, 3) := by decide +kernel
theorem dX5_placeWord_16 : decode cX5_placeWord 16 = .ok (.iconst 4, 1) := by decide +kernel
theorem dX5_placeWord_17 : decode cX5_placeWord 17 = .ok (.goto 4, 3) := by decide +kernel
theorem dX5_placeWord_20 : decode cX5_placeWord 20 = .ok (.iconst 3, 1) := by decide +kernel
theorem dX5_placeWord_21 : decode cX5_placeWord 21 = .ok (.istore_n 3, 1) := by decide +kernel
theorem dX5_placeWord_22 : decode cX5_placeWord 22 = .ok (.iload_n 1, 1) := by decide +kernel
theorem dX5_placeWord_23 : decode cX5_placeWord 23 = .ok (.bipush 8, 2) := by decide +kernel
theorem dX5_placeWord_25 : decode cX5_placeWord 25 = .ok (.idiv, 1) := by decide +kernel
theorem dX5_placeWord_26 : decode cX5_placeWord 26 = .ok (.istore 4, 2) := by decide +kernel
theorem dX5_placeWord_28 : decode cX5_placeWord 28 = .ok (.iload_n 3, 1) := by decide +kernel
theorem dX5_placeWord_29 : decode cX5_placeWord 29 = .ok (.iload 4, 2) := by decide +kernel
theorem dX5_placeWord_31 : decode cX5_placeWord 31 = .ok (.aload_n 0, 1) := by decide +kernel
theorem dX5_placeWord_32 : decode cX5_placeWord 32 = .ok (.getfield 49, 3) := by decide +kernel
theorem dX5_placeWord_35 : decode cX5_placeWord 35 = .ok (.iload 4, 2) := by decide +kernel
theorem dX5_placeWord_37 : decode cX5_placeWord 37 = .ok (.aaload, 1) := by decide +kernel
theorem dX5_placeWord_38 : decode cX5_placeWord 38 = .ok (.getfield 123, 3) := by decide +kernel
theorem dX5_placeWord_41 : decode cX5_placeWord 41 = .ok (.iload_n 1, 1) := by decide +kernel
theorem dX5_placeWord_42 : decode cX5_placeWord 42 = .ok (.bipush 8, 2) := by decide +kernel
theorem dX5_placeWord_44 : decode cX5_placeWord 44 = .ok (.irem, 1) := by decide +kernel
theorem dX5_placeWord_45 : decode cX5_placeWord 45 = .ok (.iaload, 1) := by decide +kernel
theorem dX5_placeWord_46 : decode cX5_placeWord 46 = .ok (.invokestatic 126, 3) := by decide +kernel
theorem dX5_placeWord_49 : decode cX5_placeWord 49 = .ok (.lreturn, 1) := by decide +kernel
theorem dX5_emit_0 : decode cX5_emit 0 = .ok (.aload_n 0, 1) := by decide +kernel
theorem dX5_emit_1 : decode cX5_emit 1 = .ok (.getfield 21, 3) := by decide +kernel
theorem dX5_emit_4 : decode cX5_emit 4 = .ok (.aload_n 0, 1) := by decide +kernel
theorem dX5_emit_5 : decode cX5_emit 5 = .ok (.getfield 62, 3) := by decide +kernel
theorem dX5_emit_8 : decode cX5_emit 8 = .ok (.arraylength, 1) := by decide +kernel
theorem dX5_emit_9 : decode cX5_emit 9 = .ok (.if_icmp .lt 24, 3) := by decide +kernel
theorem dX5_emit_12 : decode cX5_emit 12 = .ok (.aload_n 0, 1) := by decide +kernel
theorem dX5_emit_13 : decode cX5_emit 13 = .ok (.aload_n 0, 1) := by decide +kernel
theorem dX5_emit_14 : decode cX5_emit 14 = .ok (.getfield 62, 3) := by decide +kernel
theorem dX5_emit_17 : decode cX5_emit 17 = .ok (.aload_n 0, 1) := by decide +kernel
theorem dX5_emit_18 : decode cX5_emit 18 = .ok (.getfield 62, 3) := by decide +kernel
theorem dX5_emit_21 : decode cX5_emit 21 = .ok (.arraylength, 1) := by decide +kernel
theorem dX5_emit_22 : decode cX5_emit 22 = .ok (.iconst 2, 1) := by decide +kernel
theorem dX5_emit_23 : decode cX5_emit 23 = .ok (.imul, 1) := by decide +kernel
theorem dX5_emit_24 : decode cX5_emit 24 = .ok (.bipush 8, 2) := by decide +kernel
theorem dX5_emit_26 : decode cX5_emit 26 = .ok (.iadd, 1) := by decide +kernel
theorem dX5_emit_27 : decode cX5_emit 27 = .ok (.invokestatic 130, 3) := by decide +kernel
theorem dX5_emit_30 : decode cX5_emit 30 = .ok (.putfield 62, 3) := by decide +kernel
theorem dX5_emit_33 : decode cX5_emit 33 = .ok (.aload_n 0, 1) := by decide +kernel
theorem dX5_emit_34 : decode cX5_emit 34 = .ok (.getfield 62, 3) := by decide +kernel
theorem dX5_emit_37 : decode cX5_emit 37 = .ok (.aload_n 0, 1) := by decide +kernel
theorem dX5_emit_38 : decode cX5_emit 38 = .ok (.getfield 21, 3) := by decide +kernel
theorem dX5_emit_41 : decode cX5_emit 41 = .ok (.lload_n 1, 1) := by decide +kernel
theorem dX5_emit_42 : decode cX5_emit 42 = .ok (.lastore, 1) := by decide +kernel
theorem dX5_emit_43 : decode cX5_emit 43 = .ok (.aload_n 0, 1) := by decide +kernel
theorem dX5_emit_44 : decode cX5_emit 44 = .ok (.dup, 1) := by decide +kernel
theorem dX5_emit_45 : decode cX5_emit 45 = .ok (.getfield 21, 3) := by decide +kernel
theorem dX5_emit_48 : decode cX5_emit 48 = .ok (.iconst 1, 1) := by decide +kernel
theorem dX5_emit_49 : decode cX5_emit 49 = .ok (.iadd, 1) := by decide +kernel
theorem dX5_emit_50 : decode cX5_emit 50 = .ok (.putfield 21, 3) := by decide +kernel
theorem dX5_emit_53 : decode cX5_emit 53 = .ok (.aload_n 0, 1) := by decide +kernel
theorem dX5_emit_54 : decode cX5_emit 54 = .ok (.getfield 21, 3) := by decide +kernel
theorem dX5_emit_57 : decode cX5_emit 57 = .ok (.iconst 1, 1) := by decide +kernel
theorem dX5_emit_58 : decode cX5_emit 58 = .ok (.isub, 1) := by decide +kernel
theorem dX5_emit_59 : decode cX5_emit 59 = .ok (.ireturn, 1) := by decide +kernel
theorem dX5_aimHere_0 : decode cX5_aimHere 0 = .ok (.iload_n 1, 1) := by decide +kernel
theorem dX5_aimHere_1 : decode cX5_aimHere 1 = .ok (.ifCond .lt 36, 3) := by decide +kernel
theorem dX5_aimHere_4 : decode cX5_aimHere 4 = .ok (.iload_n 1, 1) := by decide +kernel
theorem dX5_aimHere_5 : decode cX5_aimHere 5 = .ok (.aload_n 0, 1) := by decide +kernel
theorem dX5_aimHere_6 : decode cX5_aimHere 6 = .ok (.getfield 21, 3) := by decide +kernel
theorem dX5_aimHere_9 : decode cX5_aimHere 9 = .ok (.if_icmp .ge 28, 3) := by decide +kernel
theorem dX5_aimHere_12 : decode cX5_aimHere 12 = .ok (.aload_n 0, 1) := by decide +kernel
theorem dX5_aimHere_13 : decode cX5_aimHere 13 = .ok (.getfield 62, 3) := by decide +kernel
theorem dX5_aimHere_16 : decode cX5_aimHere 16 = .ok (.iload_n 1, 1) := by decide +kernel
theorem dX5_aimHere_17 : decode cX5_aimHere 17 = .ok (.aload_n 0, 1) := by decide +kernel
theorem dX5_aimHere_18 : decode cX5_aimHere 18 = .ok (.getfield 62, 3) := by decide +kernel
theorem dX5_aimHere_21 : decode cX5_aimHere 21 = .ok (.iload_n 1, 1) := by decide +kernel
theorem dX5_aimHere_22 : decode cX5_aimHere 22 = .ok (.laload, 1) := by decide +kernel
theorem dX5_aimHere_23 : decode cX5_aimHere 23 = .ok (.l2i, 1) := by decide +kernel
theorem dX5_aimHere_24 : decode cX5_aimHere 24 = .ok (.sipush 255, 3) := by decide +kernel
theorem dX5_aimHere_27 : decode cX5_aimHere 27 = .ok (.iand, 1) := by decide +kernel
theorem dX5_aimHere_28 : decode cX5_aimHere 28 = .ok (.aload_n 0, 1) := by decide +kernel
theorem dX5_aimHere_29 : decode cX5_aimHere 29 = .ok (.getfield 21, 3) := by decide +kernel
theorem dX5_aimHere_32 : decode cX5_aimHere 32 = .ok (.iconst 0, 1) := by decide +kernel
theorem dX5_aimHere_33 : decode cX5_aimHere 33 = .ok (.invokestatic 126, 3) := by decide +kernel
theorem dX5_aimHere_36 : decode cX5_aimHere 36 = .ok (.lastore, 1) := by decide +kernel
theorem dX5_aimHere_37 : decode cX5_aimHere 37 = .ok (.return_, 1) := by decide +kernel
theorem dX5_word_0 : decode cX5_word 0 = .ok (.iload_n 2, 1) := by decide +kernel
theorem dX5_word_1 : decode cX5_word 1 = .ok (.i2l, 1) := by decide +kernel
theorem dX5_word_2 : decode cX5_word 2 = .ok (.bipush 32, 2) := by decide +kernel
theorem dX5_word_4 : decode cX5_word 4 = .ok (.lshl, 1) := by decide +kernel
theorem dX5_word_5 : decode cX5_word 5 = .ok (.iload_n 1, 1) := by decide +kernel
theorem dX5_word_6 : decode cX5_word 6 = .ok (.ldc 133, 2) := by decide +kernel
theorem dX5_word_8 : decode cX5_word 8 = .ok (.iand, 1) := by decide +kernel
theorem dX5_word_9 : decode cX5_word 9 = .ok (.i2l, 1) := by decide +kernel
theorem dX5_word_10 : decode cX5_word 10 = .ok (.bipush 8, 2) := by decide +kernel
theorem dX5_word_12 : decode cX5_word 12 = .ok (.lshl, 1) := by decide +kernel
theorem dX5_word_13 : decode cX5_word 13 = .ok (.lor, 1) := by decide +kernel
theorem dX5_word_14 : decode cX5_word 14 = .ok (.iload_n 0, 1) := by decide +kernel
theorem dX5_word_15 : decode cX5_word 15 = .ok (.i2l, 1) := by decide +kernel
theorem dX5_word_16 : decode cX5_word 16 = .ok (.lor, 1) := by decide +kernel
theorem dX5_word_17 : decode cX5_word 17 = .ok (.lreturn, 1) := by decide +kernel
theorem dX5_leanOn_0 : decode cX5_leanOn 0 = .ok (.iload_n 1, 1) := by decide +kernel
theorem dX5_leanOn_1 : decode cX5_leanOn 1 = .ok (.ifCond .lt 23, 3) := by decide +kernel
theorem dX5_leanOn_4 : decode cX5_leanOn 4 = .ok (.iload_n 1, 1) := by decide +kernel
theorem dX5_leanOn_5 : decode cX5_leanOn 5 = .ok (.aload_n 0, 1) := by decide +kernel
theorem dX5_leanOn_6 : decode cX5_leanOn 6 = .ok (.getfield 15, 3) := by decide +kernel
theorem dX5_leanOn_9 : decode cX5_leanOn 9 = .ok (.if_icmp .ge 15, 3) := by decide +kernel
theorem dX5_leanOn_12 : decode cX5_leanOn 12 = .ok (.aload_n 0, 1) := by decide +kernel
theorem dX5_leanOn_13 : decode cX5_leanOn 13 = .ok (.getfield 53, 3) := by decide +kernel
theorem dX5_leanOn_16 : decode cX5_leanOn 16 = .ok (.iload_n 1, 1) := by decide +kernel
theorem dX5_leanOn_17 : decode cX5_leanOn 17 = .ok (.dup2, 1) := by decide +kernel
theorem dX5_leanOn_18 : decode cX5_leanOn 18 = .ok (.iaload, 1) := by decide +kernel
theorem dX5_leanOn_19 : decode cX5_leanOn 19 = .ok (.iconst 1, 1) := by decide +kernel
theorem dX5_leanOn_20 : decode cX5_leanOn 20 = .ok (.iload_n 2, 1) := by decide +kernel
theorem dX5_leanOn_21 : decode cX5_leanOn 21 = .ok (.ishl, 1) := by decide +kernel
theorem dX5_leanOn_22 : decode cX5_leanOn 22 = .ok (.ior, 1) := by decide +kernel
theorem dX5_leanOn_23 : decode cX5_leanOn 23 = .ok (.iastore, 1) := by decide +kernel
theorem dX5_leanOn_24 : decode cX5_leanOn 24 = .ok (.return_, 1) := by decide +kernel
theorem dX5_spreadLeans_0 : decode cX5_spreadLeans 0 = .ok (.iconst 0, 1) := by decide +kernel
theorem dX5_spreadLeans_1 : decode cX5_spreadLeans 1 = .ok (.istore_n 1, 1) := by decide +kernel
theorem dX5_spreadLeans_2 : decode cX5_spreadLeans 2 = .ok (.iload_n 1, 1) := by decide +kernel
theorem dX5_spreadLeans_3 : decode cX5_spreadLeans 3 = .ok (.aload_n 0, 1) := by decide +kernel
theorem dX5_spreadLeans_4 : decode cX5_spreadLeans 4 = .ok (.getfield 15, 3) := by decide +kernel
theorem dX5_spreadLeans_7 : decode cX5_spreadLeans 7 = .ok (.if_icmp .ge 49, 3) := by decide +kernel
theorem dX5_spreadLeans_10 : decode cX5_spreadLeans 10 = .ok (.iconst 0, 1) := by decide +kernel
theorem dX5_spreadLeans_11 : decode cX5_spreadLeans 11 = .ok (.istore_n 2, 1) := by decide +kernel
theorem dX5_spreadLeans_12 : decode cX5_spreadLeans 12 = .ok (.iload_n 2, 1) := by decide +kernel
theorem dX5_spreadLeans_13 : decode cX5_spreadLeans 13 = .ok (.aload_n 0, 1) := by decide +kernel
theorem dX5_spreadLeans_14 : decode cX5_spreadLeans 14 = .ok (.getfield 15, 3) := by decide +kernel
theorem dX5_spreadLeans_17 : decode cX5_spreadLeans 17 = .ok (.if_icmp .ge 33, 3) := by decide +kernel
theorem dX5_spreadLeans_20 : decode cX5_spreadLeans 20 = .ok (.aload_n 0, 1) := by decide +kernel
theorem dX5_spreadLeans_21 : decode cX5_spreadLeans 21 = .ok (.iload_n 2, 1) := by decide +kernel
theorem dX5_spreadLeans_22 : decode cX5_spreadLeans 22 = .ok (.iload_n 1, 1) := by decide +kernel
theorem dX5_spreadLeans_23 : decode cX5_spreadLeans 23 = .ok (.invokevirtual 134, 3) := by decide +kernel
theorem dX5_spreadLeans_26 : decode cX5_spreadLeans 26 = .ok (.ifCond .eq 18, 3) := by decide +kernel
theorem dX5_spreadLeans_29 : decode cX5_spreadLeans 29 = .ok (.aload_n 0, 1) := by decide +kernel
theorem dX5_spreadLeans_30 : decode cX5_spreadLeans 30 = .ok (.getfield 53, 3) := by decide +kernel
theorem dX5_spreadLeans_33 : decode cX5_spreadLeans 33 = .ok (.iload_n 2, 1) := by decide +kernel
theorem dX5_spreadLeans_34 : decode cX5_spreadLeans 34 = .ok (.dup2, 1) := by decide +kernel
theorem dX5_spreadLeans_35 : decode cX5_spreadLeans 35 = .ok (.iaload, 1) := by decide +kernel
theorem dX5_spreadLeans_36 : decode cX5_spreadLeans 36 = .ok (.aload_n 0, 1) := by decide +kernel
theorem dX5_spreadLeans_37 : decode cX5_spreadLeans 37 = .ok (.getfield 53, 3) := by decide +kernel
theorem dX5_spreadLeans_40 : decode cX5_spreadLeans 40 = .ok (.iload_n 1, 1) := by decide +kernel
theorem dX5_spreadLeans_41 : decode cX5_spreadLeans 41 = .ok (.iaload, 1) := by decide +kernel
theorem dX5_spreadLeans_42 : decode cX5_spreadLeans 42 = .ok (.ior, 1) := by decide +kernel
theorem dX5_spreadLeans_43 : decode cX5_spreadLeans 43 = .ok (.iastore, 1) := by decide +kernel
theorem dX5_spreadLeans_44 : decode cX5_spreadLeans 44 = .ok (.iinc 2 1, 3) := by decide +kernel
theorem dX5_spreadLeans_47 : decode cX5_spreadLeans 47 = .ok (.goto (-35), 3) := by decide +kernel
theorem dX5_spreadLeans_50 : decode cX5_spreadLeans 50 = .ok (.iinc 1 1, 3) := by decide +kernel
theorem dX5_spreadLeans_53 : decode cX5_spreadLeans 53 = .ok (.goto (-51), 3) := by decide +kernel
theorem dX5_spreadLeans_56 : decode cX5_spreadLeans 56 = .ok (.return_, 1) := by decide +kernel
theorem dX5_leaning_0 : decode cX5_leaning 0 = .ok (.aload_n 0, 1) := by decide +kernel
theorem dX5_leaning_1 : decode cX5_leaning 1 = .ok (.getfield 53, 3) := by decide +kernel
theorem dX5_leaning_4 : decode cX5_leaning 4 = .ok (.iload_n 1, 1) := by decide +kernel
theorem dX5_leaning_5 : decode cX5_leaning 5 = .ok (.iaload, 1) := by decide +kernel
theorem dX5_leaning_6 : decode cX5_leaning 6 = .ok (.iload_n 2, 1) := by decide +kernel
theorem dX5_leaning_7 : decode cX5_leaning 7 = .ok (.ishr, 1) := by decide +kernel
theorem dX5_leaning_8 : decode cX5_leaning 8 = .ok (.iconst 1, 1) := by decide +kernel
theorem dX5_leaning_9 : decode cX5_leaning 9 = .ok (.iand, 1) := by decide +kernel
theorem dX5_leaning_10 : decode cX5_leaning 10 = .ok (.iconst 1, 1) := by decide +kernel
theorem dX5_leaning_11 : decode cX5_leaning 11 = .ok (.if_icmp .ne 7, 3) := by decide +kernel
theorem dX5_leaning_14 : decode cX5_leaning 14 = .ok (.iconst 1, 1) := by decide +kernel
theorem dX5_leaning_15 : decode cX5_leaning 15 = .ok (.goto 4, 3) := by decide +kernel
theorem dX5_leaning_18 : decode cX5_leaning 18 = .ok (.iconst 0, 1) := by decide +kernel
theorem dX5_leaning_19 : decode cX5_leaning 19 = .ok (.ireturn, 1) := by decide +kernel
theorem dX6_init_0 : decode cX6_init 0 = .ok (.aload_n 0, 1) := by decide +kernel
theorem dX6_init_1 : decode cX6_init 1 = .ok (.invokespecial 3, 3) := by decide +kernel
theorem dX6_init_4 : decode cX6_init 4 = .ok (.aload_n 0, 1) := by decide +kernel
theorem dX6_init_5 : decode cX6_init 5 = .ok (.sipush 4000, 3) := by decide +kernel
theorem dX6_init_8 : decode cX6_init 8 = .ok (.newarray .char, 2) := by decide +kernel
theorem dX6_init_10 : decode cX6_init 10 = .ok (.putfield 9, 3) := by decide +kernel
theorem dX6_init_13 : decode cX6_init 13 = .ok (.aload_n 0, 1) := by decide +kernel
theorem dX6_init_14 : decode cX6_init 14 = .ok (.sipush 4001, 3) := by decide +kernel
theorem dX6_init_17 : decode cX6_init 17 = .ok (.newarray .int, 2) := by decide +kernel
theorem dX6_init_19 : decode cX6_init 19 = .ok (.putfield 15, 3) := by decide +kernel
theorem dX6_init_22 : decode cX6_init 22 = .ok (.aload_n 0, 1) := by decide +kernel
theorem dX6_init_23 : decode cX6_init 23 = .ok (.sipush 4001, 3) := by decide +kernel
theorem dX6_init_26 : decode cX6_init 26 = .ok (.newarray .int, 2) := by decide +kernel
theorem dX6_init_28 : decode cX6_init 28 = .ok (.putfield 19, 3) := by decide +kernel
theorem dX6_init_31 : decode cX6_init 31 = .ok (.aload_n 0, 1) := by decide +kernel
theorem dX6_init_32 : decode cX6_init 32 = .ok (.sipush 4001, 3) := by decide +kernel
theorem dX6_init_35 : decode cX6_init 35 = .ok (.newarray .long, 2) := by decide +kernel
theorem dX6_init_37 : decode cX6_init 37 = .ok (.putfield 22, 3) := by decide +kernel
theorem dX6_init_40 : decode cX6_init 40 = .ok (.aload_n 0, 1) := by decide +kernel
theorem dX6_init_41 : decode cX6_init 41 = .ok (.bipush 25, 2) := by decide +kernel
theorem dX6_init_43 : decode cX6_init 43 = .ok (.newarray .long, 2) := by decide +kernel
theorem dX6_init_45 : decode cX6_init 45 = .ok (.putfield 26, 3) := by decide +kernel
theorem dX6_init_48 : decode cX6_init 48 = .ok (.aload_n 0, 1) := by decide +kernel
theorem dX6_init_49 : decode cX6_init 49 = .ok (.iconst 0, 1) := by decide +kernel
theorem dX6_init_50 : decode cX6_init 50 = .ok (.putfield 29, 3) := by decide +kernel
theorem dX6_init_53 : decode cX6_init 53 = .ok (.aload_n 0, 1) := by decide +kernel
theorem dX6_init_54 : decode cX6_init 54 = .ok (.iconst 0, 1) := by decide +kernel
theorem dX6_init_55 : decode cX6_init 55 = .ok (.putfield 33, 3) := by decide +kernel
theorem dX6_init_58 : decode cX6_init 58 = .ok (.iconst 0, 1) := by decide +kernel
theorem dX6_init_59 : decode cX6_init 59 = .ok (.istore_n 1, 1) := by decide +kernel
theorem dX6_init_60 : decode cX6_init 60 = .ok (.lconst 0, 1) := by decide +kernel
theorem dX6_init_61 : decode cX6_init 61 = .ok (.lstore_n 2, 1) := by decide +kernel
theorem dX6_init_62 : decode cX6_init 62 = .ok (.iconst 0, 1) := by decide +kernel
theorem dX6_init_63 : decode cX6_init 63 = .ok (.istore 4, 2) := by decide +kernel
theorem dX6_init_65 : decode cX6_init 65 = .ok (.iload 4, 2) := by decide +kernel
theorem dX6_init_67 : decode cX6_init 67 = .ok (.ldc 36, 2) := by decide +kernel
theorem dX6_init_69 : decode cX6_init 69 = .ok (.invokevirtual 38, 3) := by decide +kernel
theorem dX6_init_72 : decode cX6_init 72 = .ok (.if_icmp .ge 59, 3) := by decide +kernel
theorem dX6_init_75 : decode cX6_init 75 = .ok (.ldc 36, 2) := by decide +kernel
theorem dX6_init_77 : decode cX6_init 77 = .ok (.iload 4, 2) := by decide +kernel
theorem dX6_init_79 : decode cX6_init 79 = .ok (.invokevirtual 44, 3) := by decide +kernel
theorem dX6_init_82 : decode cX6_init 82 = .ok (.istore 5, 2) := by decide +kernel
theorem dX6_init_84 : decode cX6_init 84 = .ok (.iload 5, 2) := by decide +kernel
theorem dX6_init_86 : decode cX6_init 86 = .ok (.bipush 32, 2) := by decide +kernel
theorem dX6_init_88 : decode cX6_init 88 = .ok (.if_icmp .eq 19, 3) := by decide +kernel
theorem dX6_init_91 : decode cX6_init 91 = .ok (.lload_n 2, 1) := by decide +kernel
theorem dX6_init_92 : decode cX6_init 92 = .ok (.ldc2_w 48, 3) := by decide +kernel
theorem dX6_init_95 : decode cX6_init 95 = .ok (.lmul, 1) := by decide +kernel
theorem dX6_init_96 : decode cX6_init 96 = .ok (.iload 5, 2) := by decide +kernel
theorem dX6_init_98 : decode cX6_init 98 = .ok (.invokestatic 50, 3) := by decide +kernel
theorem dX6_init_101 : decode cX6_init 101 = .ok (.i2l, 1) := by decide +kernel
theorem dX6_init_102 : decode cX6_init 102 = .ok (.ladd, 1) := by decide +kernel
theorem dX6_init_103 : decode cX6_init 103 = .ok (.lstore_n 2, 1) := by decide +kernel
theorem dX6_init_104 : decode cX6_init 104 = .ok (.goto 21, 3) := by decide +kernel
theorem dX6_init_107 : decode cX6_init 107 = .ok (.iload_n 1, 1) := by decide +kernel
theorem dX6_init_108 : decode cX6_init 108 = .ok (.bipush 25, 2) := by decide +kernel
theorem dX6_init_110 : decode cX6_init 110 = .ok (.if_icmp .ge 15, 3) := by decide +kernel
theorem dX6_init_113 : decode cX6_init 113 = .ok (.aload_n 0, 1) := by decide +kernel
theorem dX6_init_114 : decode cX6_init 114 = .ok (.getfield 26, 3) := by decide +kernel
theorem dX6_init_117 : decode cX6_init 117 = .ok (.iload_n 1, 1) := by decide +kernel
theorem dX6_init_118 : decode cX6_init 118 = .ok (.lload_n 2, 1) := by decide +kernel
theorem dX6_init_119 : decode cX6_init 119 = .ok (.lastore, 1) := by decide +kernel
theorem dX6_init_120 : decode cX6_init 120 = .ok (.iinc 1 1, 3) := by decide +kernel
theorem dX6_init_123 : decode cX6_init 123 = .ok (.lconst 0, 1) := by decide +kernel
theorem dX6_init_124 : decode cX6_init 124 = .ok (.lstore_n 2, 1) := by decide +kernel
theorem dX6_init_125 : decode cX6_init 125 = .ok (.iinc 4 1, 3) := by decide +kernel
theorem dX6_init_128 : decode cX6_init 128 = .ok (.goto (-63), 3) := by decide +kernel
theorem dX6_init_131 : decode cX6_init 131 = .ok (.return_, 1) := by decide +kernel
theorem dX6_addBytes_0 : decode cX6_addBytes 0 = .ok (.bipush 56, 2) := by decide +kernel
theorem dX6_addBytes_2 : decode cX6_addBytes 2 = .ok (.istore_n 3, 1) := by decide +kernel
theorem dX6_addBytes_3 : decode cX6_addBytes 3 = .ok (.iload_n 3, 1) := by decide +kernel
theorem dX6_addBytes_4 : decode cX6_addBytes 4 = .ok (.ifCond .lt 84, 3) := by decide +kernel
theorem dX6_addBytes_7 : decode cX6_addBytes 7 = .ok (.lload_n 1, 1) := by decide +kernel
theorem dX6_addBytes_8 : decode cX6_addBytes 8 = .ok (.iload_n 3, 1) := by decide +kernel
theorem dX6_addBytes_9 : decode cX6_addBytes 9 = .ok (.lshr, 1) := by decide +kernel
theorem dX6_addBytes_10 : decode cX6_addBytes 10 = .ok (.l2i, 1) := by decide +kernel
theorem dX6_addBytes_11 : decode cX6_addBytes 11 = .ok (.sipush 255, 3) := by decide +kernel
theorem dX6_addBytes_14 : decode cX6_addBytes 14 = .ok (.iand, 1) := by decide +kernel
theorem dX6_addBytes_15 : decode cX6_addBytes 15 = .ok (.istore 4, 2) := by decide +kernel
theorem dX6_addBytes_17 : decode cX6_addBytes 17 = .ok (.iload 4, 2) := by decide +kernel
theorem dX6_addBytes_19 : decode cX6_addBytes 19 = .ok (.bipush 10, 2) := by decide +kernel
theorem dX6_addBytes_21 : decode cX6_addBytes 21 = .ok (.if_icmp .eq 17, 3) := by decide +kernel
theorem dX6_addBytes_24 : decode cX6_addBytes 24 = .ok (.iload 4, 2) := by decide +kernel
theorem dX6_addBytes_26 : decode cX6_addBytes 26 = .ok (.bipush 32, 2) := by decide +kernel
theorem dX6_addBytes_28 : decode cX6_addBytes 28 = .ok (.if_icmp .lt 14, 3) := by decide +kernel
theorem dX6_addBytes_31 : decode cX6_addBytes 31 = .ok (.iload 4, 2) := by decide +kernel
theorem dX6_addBytes_33 : decode cX6_addBytes 33 = .ok (.bipush 126, 2) := by decide +kernel
theorem dX6_addBytes_35 : decode cX6_addBytes 35 = .ok (.if_icmp .gt 7, 3) := by decide +kernel
theorem dX6_addBytes_38 : decode cX6_addBytes 38 = .ok (.iconst 1, 1) := by decide +kernel
theorem dX6_addBytes_39 : decode cX6_addBytes 39 = .ok (.goto 4, 3) := by decide +kernel
theorem dX6_addBytes_42 : decode cX6_addBytes 42 = .ok (.iconst 0, 1) := by decide +kernel
theorem dX6_addBytes_43 : decode cX6_addBytes 43 = .ok (.istore 5, 2) := by decide +kernel
theorem dX6_addBytes_45 : decode cX6_addBytes 45 = .ok (.iload 5, 2) := by decide +kernel
theorem dX6_addBytes_47 : decode cX6_addBytes 47 = .ok (.ifCond .eq 35, 3) := by decide +kernel
theorem dX6_addBytes_50 : decode cX6_addBytes 50 = .ok (.aload_n 0, 1) := by decide +kernel
theorem dX6_addBytes_51 : decode cX6_addBytes 51 = .ok (.getfield 29, 3) := by decide +kernel
theorem dX6_addBytes_54 : decode cX6_addBytes 54 = .ok (.sipush 4000, 3) := by decide +kernel
theorem dX6_addBytes_57 : decode cX6_addBytes 57 = .ok (.if_icmp .ge 25, 3) := by decide +kernel
theorem dX6_addBytes_60 : decode cX6_addBytes 60 = .ok (.aload_n 0, 1) := by decide +kernel
theorem dX6_addBytes_61 : decode cX6_addBytes 61 = .ok (.getfield 9, 3) := by decide +kernel
theorem dX6_addBytes_64 : decode cX6_addBytes 64 = .ok (.aload_n 0, 1) := by decide +kernel
theorem dX6_addBytes_65 : decode cX6_addBytes 65 = .ok (.getfield 29, 3) := by decide +kernel
theorem dX6_addBytes_68 : decode cX6_addBytes 68 = .ok (.iload 4, 2) := by decide +kernel
theorem dX6_addBytes_70 : decode cX6_addBytes 70 = .ok (.i2c, 1) := by decide +kernel
theorem dX6_addBytes_71 : decode cX6_addBytes 71 = .ok (.castore, 1) := by decide +kernel
theorem dX6_addBytes_72 : decode cX6_addBytes 72 = .ok (.aload_n 0, 1) := by decide +kernel
theorem dX6_addBytes_73 : decode cX6_addBytes 73 = .ok (.dup, 1) := by decide +kernel
theorem dX6_addBytes_74 : decode cX6_addBytes 74 = .ok (.getfield 29, 3) := by decide +kernel
theorem dX6_addBytes_77 : decode cX6_addBytes 77 = .ok (.iconst 1, 1) := by decide +kernel
theorem dX6_addBytes_78 : decode cX6_addBytes 78 = .ok (.iadd, 1) := by decide +kernel
theorem dX6_addBytes_79 : decode cX6_addBytes 79 = .ok (.putfield 29, 3) := by decide +kernel
theorem dX6_addBytes_82 : decode cX6_addBytes 82 = .ok (.iinc 3 (-8), 3) := by decide +kernel
theorem dX6_addBytes_85 : decode cX6_addBytes 85 = .ok (.goto (-82), 3) := by decide +kernel
theorem dX6_addBytes_88 : decode cX6_addBytes 88 = .ok (.return_, 1) := by decide +kernel
theorem dX6_empty_0 : decode cX6_empty 0 = .ok (.aload_n 0, 1) := by decide +kernel
theorem dX6_empty_1 : decode cX6_empty 1 = .ok (.iconst 0, 1) := by decide +kernel
theorem dX6_empty_2 : decode cX6_empty 2 = .ok (.putfield 29, 3) := by decide +kernel
theorem dX6_empty_5 : decode cX6_empty 5 = .ok (.return_, 1) := by decide +kernel
theorem dX6_scan_0 : decode cX6_scan 0 = .ok (.aload_n 0, 1) := by decide +kernel
theorem dX6_scan_1 : decode cX6_scan 1 = .ok (.iconst 0, 1) := by decide +kernel
theorem dX6_scan_2 : decode cX6_scan 2 = .ok (.putfield 33, 3) := by decide +kernel
theorem dX6_scan_5 : decode cX6_scan 5 = .ok (.iconst 0, 1) := by decide +kernel
theorem dX6_scan_6 : decode cX6_scan 6 = .ok (.istore_n 1, 1) := by decide +kernel
theorem dX6_scan_7 : decode cX6_scan 7 = .ok (.iconst 0, 1) := by decide +kernel
theorem dX6_scan_8 : decode cX6_scan 8 = .ok (.istore_n 2, 1) := by decide +kernel
theorem dX6_scan_9 : decode cX6_scan 9 = .ok (.iload_n 2, 1) := by decide +kernel
theorem dX6_scan_10 : decode cX6_scan 10 = .ok (.sipush 4000, 3) := by decide +kernel
theorem dX6_scan_13 : decode cX6_scan 13 = .ok (.if_icmp .ge 91, 3) := by decide +kernel
theorem dX6_scan_16 : decode cX6_scan 16 = .ok (.iload_n 1, 1) := by decide +kernel
theorem dX6_scan_17 : decode cX6_scan 17 = .ok (.aload_n 0, 1) := by decide +kernel
theorem dX6_scan_18 : decode cX6_scan 18 = .ok (.getfield 29, 3) := by decide +kernel
theorem dX6_scan_21 : decode cX6_scan 21 = .ok (.if_icmp .ge 83, 3) := by decide +kernel
theorem dX6_scan_24 : decode cX6_scan 24 = .ok (.aload_n 0, 1) := by decide +kernel
theorem dX6_scan_25 : decode cX6_scan 25 = .ok (.getfield 9, 3) := by decide +kernel
theorem dX6_scan_28 : decode cX6_scan 28 = .ok (.iload_n 1, 1) := by decide +kernel
theorem dX6_scan_29 : decode cX6_scan 29 = .ok (.caload, 1) := by decide +kernel
theorem dX6_scan_30 : decode cX6_scan 30 = .ok (.istore_n 3, 1) := by decide +kernel
theorem dX6_scan_31 : decode cX6_scan 31 = .ok (.iload_n 3, 1) := by decide +kernel
theorem dX6_scan_32 : decode cX6_scan 32 = .ok (.invokestatic 54, 3) := by decide +kernel
theorem dX6_scan_35 : decode cX6_scan 35 = .ok (.ifCond .eq 12, 3) := by decide +kernel
theorem dX6_scan_38 : decode cX6_scan 38 = .ok (.aload_n 0, 1) := by decide +kernel
theorem dX6_scan_39 : decode cX6_scan 39 = .ok (.iload_n 1, 1) := by decide +kernel
theorem dX6_scan_40 : decode cX6_scan 40 = .ok (.invokevirtual 58, 3) := by decide +kernel
theorem dX6_scan_43 : decode cX6_scan 43 = .ok (.istore_n 1, 1) := by decide +kernel
theorem dX6_scan_44 : decode cX6_scan 44 = .ok (.goto 54, 3) := by decide +kernel
theorem dX6_scan_47 : decode cX6_scan 47 = .ok (.iload_n 3, 1) := by decide +kernel
theorem dX6_scan_48 : decode cX6_scan 48 = .ok (.invokestatic 62, 3) := by decide +kernel
theorem dX6_scan_51 : decode cX6_scan 51 = .ok (.ifCond .eq 12, 3) := by decide +kernel
theorem dX6_scan_54 : decode cX6_scan 54 = .ok (.aload_n 0, 1) := by decide +kernel
theorem dX6_scan_55 : decode cX6_scan 55 = .ok (.iload_n 1, 1) := by decide +kernel
theorem dX6_scan_56 : decode cX6_scan 56 = .ok (.invokevirtual 65, 3) := by decide +kernel
theorem dX6_scan_59 : decode cX6_scan 59 = .ok (.istore_n 1, 1) := by decide +kernel
theorem dX6_scan_60 : decode cX6_scan 60 = .ok (.goto 38, 3) := by decide +kernel
theorem dX6_scan_63 : decode cX6_scan 63 = .ok (.iload_n 3, 1) := by decide +kernel
theorem dX6_scan_64 : decode cX6_scan 64 = .ok (.bipush 32, 2) := by decide +kernel
theorem dX6_scan_66 : decode cX6_scan 66 = .ok (.if_icmp .eq 29, 3) := by decide +kernel
theorem dX6_scan_69 : decode cX6_scan 69 = .ok (.iload_n 3, 1) := by decide +kernel
theorem dX6_scan_70 : decode cX6_scan 70 = .ok (.bipush 10, 2) := by decide +kernel
theorem dX6_scan_72 : decode cX6_scan 72 = .ok (.if_icmp .eq 23, 3) := by decide +kernel
theorem dX6_scan_75 : decode cX6_scan 75 = .ok (.aload_n 0, 1) := by decide +kernel
theorem dX6_scan_76 : decode cX6_scan 76 = .ok (.ldc 68, 2) := by decide +kernel
theorem dX6_scan_78 : decode cX6_scan 78 = .ok (.iload_n 3, 1) := by decide +kernel
theorem dX6_scan_79 : decode cX6_scan 79 = .ok (.invokevirtual 70, 3) := by decide +kernel
theorem dX6_scan_82 : decode cX6_scan 82 = .ok (.ifCond .lt 7, 3) := by decide +kernel
theorem dX6_scan_85 : decode cX6_scan 85 = .ok (.iload_n 3, 1) := by decide +kernel
theorem dX6_scan_86 : decode cX6_scan 86 = .ok (.goto 4, 3) := by decide +kernel
theorem dX6_scan_89 : decode cX6_scan 89 = .ok (.iconst 1, 1) := by decide +kernel
theorem dX6_scan_90 : decode cX6_scan 90 = .ok (.iload_n 1, 1) := by decide +kernel
theorem dX6_scan_91 : decode cX6_scan 91 = .ok (.lconst 0, 1) := by decide +kernel
theorem dX6_scan_92 : decode cX6_scan 92 = .ok (.invokevirtual 73, 3) := by decide +kernel
theorem dX6_scan_95 : decode cX6_scan 95 = .ok (.iinc 1 1, 3) := by decide +kernel
theorem dX6_scan_98 : decode cX6_scan 98 = .ok (.iinc 2 1, 3) := by decide +kernel
theorem dX6_scan_101 : decode cX6_scan 101 = .ok (.goto (-92), 3) := by decide +kernel
theorem dX6_scan_104 : decode cX6_scan 104 = .ok (.aload_n 0, 1) := by decide +kernel
theorem dX6_scan_105 : decode cX6_scan 105 = .ok (.iconst 0, 1) := by decide +kernel
theorem dX6_scan_106 : decode cX6_scan 106 = .ok (.aload_n 0, 1) := by decide +kernel
theorem dX6_scan_107 : decode cX6_scan 107 = .ok (.getfield 29, 3) := by decide +kernel
theorem dX6_scan_110 : decode cX6_scan 110 = .ok (.lconst 0, 1) := by decide +kernel
theorem dX6_scan_111 : decode cX6_scan 111 = .ok (.invokevirtual 73, 3) := by decide +kernel
theorem dX6_scan_114 : decode cX6_scan 114 = .ok (.return_, 1) := by decide +kernel
theorem dX6_scanWord_0 : decode cX6_scanWord 0 = .ok (.lconst 0, 1) := by decide +kernel
theorem dX6_scanWord_1 : decode cX6_scanWord 1 = .ok (.lstore_n 2, 1) := by decide +kernel
theorem dX6_scanWord_2 : decode cX6_scanWord 2 = .ok (.iload_n 1, 1) := by decide +kernel
theorem dX6_scanWord_3 : decode cX6_scanWord 3 = .ok (.istore 4, 2) := by decide +kernel
theorem dX6_scanWord_5 : decode cX6_scanWord 5 = .ok (.iload 4, 2) := by decide +kernel
theorem dX6_scanWord_7 : decode cX6_scanWord 7 = .ok (.aload_n 0, 1) := by decide +kernel
theorem dX6_scanWord_8 : decode cX6_scanWord 8 = .ok (.getfield 29, 3) := by decide +kernel
theorem dX6_scanWord_11 : decode cX6_scanWord 11 = .ok (.if_icmp .ge 53, 3) := by decide +kernel
theorem dX6_scanWord_14 : decode cX6_scanWord 14 = .ok (.aload_n 0, 1) := by decide +kernel
theorem dX6_scanWord_15 : decode cX6_scanWord 15 = .ok (.getfield 9, 3) := by decide +kernel
theorem dX6_scanWord_18 : decode cX6_scanWord 18 = .ok (.iload 4, 2) := by decide +kernel
theorem dX6_scanWord_20 : decode cX6_scanWord 20 = .ok (.caload, 1) := by decide +kernel
theorem dX6_scanWord_21 : decode cX6_scanWord 21 = .ok (.invokestatic 54, 3) := by decide +kernel
theorem dX6_scanWord_24 : decode cX6_scanWord 24 = .ok (.ifCond .ne 16, 3) := by decide +kernel
theorem dX6_scanWord_27 : decode cX6_scanWord 27 = .ok (.aload_n 0, 1) := by decide +kernel
theorem dX6_scanWord_28 : decode cX6_scanWord 28 = .ok (.getfield 9, 3) := by decide +kernel
theorem dX6_scanWord_31 : decode cX6_scanWord 31 = .ok (.iload 4, 2) := by decide +kernel
theorem dX6_scanWord_33 : decode cX6_scanWord 33 = .ok (.caload, 1) := by decide +kernel
theorem dX6_scanWord_34 : decode cX6_scanWord 34 = .ok (.invokestatic 62, 3) := by decide +kernel
theorem dX6_scanWord_37 : decode cX6_scanWord 37 = .ok (.ifCond .eq 27, 3) := by decide +kernel
theorem dX6_scanWord_40 : decode cX6_scanWord 40 = .ok (.lload_n 2, 1) := by decide +kernel
theorem dX6_scanWord_41 : decode cX6_scanWord 41 = .ok (.ldc2_w 48, 3) := by decide +kernel
theorem dX6_scanWord_44 : decode cX6_scanWord 44 = .ok (.lmul, 1) := by decide +kernel
theorem dX6_scanWord_45 : decode cX6_scanWord 45 = .ok (.aload_n 0, 1) := by decide +kernel
theorem dX6_scanWord_46 : decode cX6_scanWord 46 = .ok (.getfield 9, 3) := by decide +kernel
theorem dX6_scanWord_49 : decode cX6_scanWord 49 = .ok (.iload 4, 2) := by decide +kernel
theorem dX6_scanWord_51 : decode cX6_scanWord 51 = .ok (.caload, 1) := by decide +kernel
theorem dX6_scanWord_52 : decode cX6_scanWord 52 = .ok (.invokestatic 50, 3) := by decide +kernel
theorem dX6_scanWord_55 : decode cX6_scanWord 55 = .ok (.i2l, 1) := by decide +kernel
theorem dX6_scanWord_56 : decode cX6_scanWord 56 = .ok (.ladd, 1) := by decide +kernel
theorem dX6_scanWord_57 : decode cX6_scanWord 57 = .ok (.lstore_n 2, 1) := by decide +kernel
theorem dX6_scanWord_58 : decode cX6_scanWord 58 = .ok (.iinc 4 1, 3) := by decide +kernel
theorem dX6_scanWord_61 : decode cX6_scanWord 61 = .ok (.goto (-56), 3) := by decide +kernel
theorem dX6_scanWord_64 : decode cX6_scanWord 64 = .ok (.iload 4, 2) := by decide +kernel
theorem dX6_scanWord_66 : decode cX6_scanWord 66 = .ok (.iload_n 1, 1) := by decide +kernel
theorem dX6_scanWord_67 : decode cX6_scanWord 67 = .ok (.isub, 1) := by decide +kernel
theorem dX6_scanWord_68 : decode cX6_scanWord 68 = .ok (.bipush 12, 2) := by decide +kernel
theorem dX6_scanWord_70 : decode cX6_scanWord 70 = .ok (.if_icmp .le 13, 3) := by decide +kernel
theorem dX6_scanWord_73 : decode cX6_scanWord 73 = .ok (.aload_n 0, 1) := by decide +kernel
theorem dX6_scanWord_74 : decode cX6_scanWord 74 = .ok (.iconst 1, 1) := by decide +kernel
theorem dX6_scanWord_75 : decode cX6_scanWord 75 = .ok (.iload_n 1, 1) := by decide +kernel
theorem dX6_scanWord_76 : decode cX6_scanWord 76 = .ok (.lconst 0, 1) := by decide +kernel
theorem dX6_scanWord_77 : decode cX6_scanWord 77 = .ok (.invokevirtual 73, 3) := by decide +kernel
theorem dX6_scanWord_80 : decode cX6_scanWord 80 = .ok (.iload 4, 2) := by decide +kernel
theorem dX6_scanWord_82 : decode cX6_scanWord 82 = .ok (.ireturn, 1) := by decide +kernel
theorem dX6_scanWord_83 : decode cX6_scanWord 83 = .ok (.lload_n 2, 1) := by decide +kernel
theorem dX6_scanWord_84 : decode cX6_scanWord 84 = .ok (.aload_n 0, 1) := by decide +kernel
theorem dX6_scanWord_85 : decode cX6_scanWord 85 = .ok (.getfield 26, 3) := by decide +kernel
theorem dX6_scanWord_88 : decode cX6_scanWord 88 = .ok (.bipush 25, 2) := by decide +kernel
theorem dX6_scanWord_90 : decode cX6_scanWord 90 = .ok (.invokestatic 77, 3) := by decide +kernel
theorem dX6_scanWord_93 : decode cX6_scanWord 93 = .ok (.istore 5, 2) := by decide +kernel
theorem dX6_scanWord_95 : decode cX6_scanWord 95 = .ok (.aload_n 0, 1) := by decide +kernel
theorem dX6_scanWord_96 : decode cX6_scanWord 96 = .ok (.iload 5, 2) := by decide +kernel
theorem dX6_scanWord_98 : decode cX6_scanWord 98 = .ok (.iconst (-1), 1) := by decide +kernel
theorem dX6_scanWord_99 : decode cX6_scanWord 99 = .ok (.if_icmp .ne 7, 3) := by decide +kernel
theorem dX6_scanWord_102 : decode cX6_scanWord 102 = .ok (.iconst 2, 1) := by decide +kernel
theorem dX6_scanWord_103 : decode cX6_scanWord 103 = .ok (.goto 9, 3) := by decide +kernel
theorem dX6_scanWord_106 : decode cX6_scanWord 106 = .ok (.sipush 128, 3) := by decide +kernel
theorem dX6_scanWord_109 : decode cX6_scanWord 109 = .ok (.iload 5, 2) := by decide +kernel
theorem dX6_scanWord_111 : decode cX6_scanWord 111 = .ok (.iadd, 1) := by decide +kernel
theorem dX6_scanWord_112 : decode cX6_scanWord 112 = .ok (.iload_n 1, 1) := by decide +kernel
theorem dX6_scanWord_113 : decode cX6_scanWord 113 = .ok (.lload_n 2, 1) := by decide +kernel
theorem dX6_scanWord_114 : decode cX6_scanWord 114 = .ok (.invokevirtual 73, 3) := by decide +kernel
theorem dX6_scanWord_117 : decode cX6_scanWord 117 = .ok (.iload 4, 2) := by decide +kernel
theorem dX6_scanWord_119 : decode cX6_scanWord 119 = .ok (.ireturn, 1) := by decide +kernel
theorem dX6_scanNumber_0 : decode cX6_scanNumber 0 = .ok (.lconst 0, 1) := by decide +kernel
theorem dX6_scanNumber_1 : decode cX6_scanNumber 1 = .ok (.lstore_n 2, 1) := by decide +kernel
theorem dX6_scanNumber_2 : decode cX6_scanNumber 2 = .ok (.iload_n 1, 1) := by decide +kernel
theorem dX6_scanNumber_3 : decode cX6_scanNumber 3 = .ok (.istore 4, 2) := by decide +kernel
theorem dX6_scanNumber_5 : decode cX6_scanNumber 5 = .ok (.iload 4, 2) := by decide +kernel
theorem dX6_scanNumber_7 : decode cX6_scanNumber 7 = .ok (.aload_n 0, 1) := by decide +kernel
theorem dX6_scanNumber_8 : decode cX6_scanNumber 8 = .ok (.getfield 29, 3) := by decide +kernel
theorem dX6_scanNumber_11 : decode cX6_scanNumber 11 = .ok (.if_icmp .ge 40, 3) := by decide +kernel
theorem dX6_scanNumber_14 : decode cX6_scanNumber 14 = .ok (.aload_n 0, 1) := by decide +kernel
theorem dX6_scanNumber_15 : decode cX6_scanNumber 15 = .ok (.getfield 9, 3) := by decide +kernel
theorem dX6_scanNumber_18 : decode cX6_scanNumber 18 = .ok (.iload 4, 2) := by decide +kernel
theorem dX6_scanNumber_20 : decode cX6_scanNumber 20 = .ok (.caload, 1) := by decide +kernel
theorem dX6_scanNumber_21 : decode cX6_scanNumber 21 = .ok (.invokestatic 62, 3) := by decide +kernel
theorem dX6_scanNumber_24 : decode cX6_scanNumber 24 = .ok (.ifCond .eq 27, 3) := by decide +kernel
theorem dX6_scanNumber_27 : decode cX6_scanNumber 27 = .ok (.lload_n 2, 1) := by decide +kernel
theorem dX6_scanNumber_28 : decode cX6_scanNumber 28 = .ok (.ldc2_w 81, 3) := by decide +kernel
theorem dX6_scanNumber_31 : decode cX6_scanNumber 31 = .ok (.lmul, 1) := by decide +kernel
theorem dX6_scanNumber_32 : decode cX6_scanNumber 32 = .ok (.aload_n 0, 1) := by decide +kernel
theorem dX6_scanNumber_33 : decode cX6_scanNumber 33 = .ok (.getfield 9, 3) := by decide +kernel
theorem dX6_scanNumber_36 : decode cX6_scanNumber 36 = .ok (.iload 4, 2) := by decide +kernel
theorem dX6_scanNumber_38 : decode cX6_scanNumber 38 = .ok (.caload, 1) := by decide +kernel
theorem dX6_scanNumber_39 : decode cX6_scanNumber 39 = .ok (.bipush 48, 2) := by decide +kernel
theorem dX6_scanNumber_41 : decode cX6_scanNumber 41 = .ok (.isub, 1) := by decide +kernel
theorem dX6_scanNumber_42 : decode cX6_scanNumber 42 = .ok (.i2l, 1) := by decide +kernel
theorem dX6_scanNumber_43 : decode cX6_scanNumber 43 = .ok (.ladd, 1) := by decide +kernel
theorem dX6_scanNumber_44 : decode cX6_scanNumber 44 = .ok (.lstore_n 2, 1) := by decide +kernel
theorem dX6_scanNumber_45 : decode cX6_scanNumber 45 = .ok (.iinc 4 1, 3) := by decide +kernel
theorem dX6_scanNumber_48 : decode cX6_scanNumber 48 = .ok (.goto (-43), 3) := by decide +kernel
theorem dX6_scanNumber_51 : decode cX6_scanNumber 51 = .ok (.aload_n 0, 1) := by decide +kernel
theorem dX6_scanNumber_52 : decode cX6_scanNumber 52 = .ok (.iload 4, 2) := by decide +kernel
theorem dX6_scanNumber_54 : decode cX6_scanNumber 54 = .ok (.iload_n 1, 1) := by decide +kernel
theorem dX6_scanNumber_55 : decode cX6_scanNumber 55 = .ok (.isub, 1) := by decide +kernel
theorem dX6_scanNumber_56 : decode cX6_scanNumber 56 = .ok (.bipush 9, 2) := by decide +kernel
theorem dX6_scanNumber_58 : decode cX6_scanNumber 58 = .ok (.if_icmp .le 7, 3) := by decide +kernel
theorem dX6_scanNumber_61 : decode cX6_scanNumber 61 = .ok (.iconst 1, 1) := by decide +kernel
theorem dX6_scanNumber_62 : decode cX6_scanNumber 62 = .ok (.goto 4, 3) := by decide +kernel
theorem dX6_scanNumber_65 : decode cX6_scanNumber 65 = .ok (.iconst 3, 1) := by decide +kernel
theorem dX6_scanNumber_66 : decode cX6_scanNumber 66 = .ok (.iload_n 1, 1) := by decide +kernel
theorem dX6_scanNumber_67 : decode cX6_scanNumber 67 = .ok (.lload_n 2, 1) := by decide +kernel
theorem dX6_scanNumber_68 : decode cX6_scanNumber 68 = .ok (.invokevirtual 73, 3) := by decide +kernel
theorem dX6_scanNumber_71 : decode cX6_scanNumber 71 = .ok (.iload 4, 2) := by decide +kernel
theorem dX6_scanNumber_73 : decode cX6_scanNumber 73 = .ok (.ireturn, 1) := by decide +kernel
theorem dX6_addToken_0 : decode cX6_addToken 0 = .ok (.aload_n 0, 1) := by decide +kernel
theorem dX6_addToken_1 : decode cX6_addToken 1 = .ok (.getfield 33, 3) := by decide +kernel
theorem dX6_addToken_4 : decode cX6_addToken 4 = .ok (.aload_n 0, 1) := by decide +kernel
theorem dX6_addToken_5 : decode cX6_addToken 5 = .ok (.getfield 15, 3) := by decide +kernel
theorem dX6_addToken_8 : decode cX6_addToken 8 = .ok (.arraylength, 1) := by decide +kernel
theorem dX6_addToken_9 : decode cX6_addToken 9 = .ok (.if_icmp .ge 43, 3) := by decide +kernel
theorem dX6_addToken_12 : decode cX6_addToken 12 = .ok (.aload_n 0, 1) := by decide +kernel
theorem dX6_addToken_13 : decode cX6_addToken 13 = .ok (.getfield 15, 3) := by decide +kernel
theorem dX6_addToken_16 : decode cX6_addToken 16 = .ok (.aload_n 0, 1) := by decide +kernel
theorem dX6_addToken_17 : decode cX6_addToken 17 = .ok (.getfield 33, 3) := by decide +kernel
theorem dX6_addToken_20 : decode cX6_addToken 20 = .ok (.iload_n 1, 1) := by decide +kernel
theorem dX6_addToken_21 : decode cX6_addToken 21 = .ok (.iastore, 1) := by decide +kernel
theorem dX6_addToken_22 : decode cX6_addToken 22 = .ok (.aload_n 0, 1) := by decide +kernel
theorem dX6_addToken_23 : decode cX6_addToken 23 = .ok (.getfield 19, 3) := by decide +kernel
theorem dX6_addToken_26 : decode cX6_addToken 26 = .ok (.aload_n 0, 1) := by decide +kernel
theorem dX6_addToken_27 : decode cX6_addToken 27 = .ok (.getfield 33, 3) := by decide +kernel
theorem dX6_addToken_30 : decode cX6_addToken 30 = .ok (.iload_n 2, 1) := by decide +kernel
theorem dX6_addToken_31 : decode cX6_addToken 31 = .ok (.iastore, 1) := by decide +kernel
theorem dX6_addToken_32 : decode cX6_addToken 32 = .ok (.aload_n 0, 1) := by decide +kernel
theorem dX6_addToken_33 : decode cX6_addToken 33 = .ok (.getfield 22, 3) := by decide +kernel
theorem dX6_addToken_36 : decode cX6_addToken 36 = .ok (.aload_n 0, 1) := by decide +kernel
theorem dX6_addToken_37 : decode cX6_addToken 37 = .ok (.getfield 33, 3) := by decide +kernel
theorem dX6_addToken_40 : decode cX6_addToken 40 = .ok (.lload_n 3, 1) := by decide +kernel
theorem dX6_addToken_41 : decode cX6_addToken 41 = .ok (.lastore, 1) := by decide +kernel
theorem dX6_addToken_42 : decode cX6_addToken 42 = .ok (.aload_n 0, 1) := by decide +kernel
theorem dX6_addToken_43 : decode cX6_addToken 43 = .ok (.dup, 1) := by decide +kernel
theorem dX6_addToken_44 : decode cX6_addToken 44 = .ok (.getfield 33, 3) := by decide +kernel
theorem dX6_addToken_47 : decode cX6_addToken 47 = .ok (.iconst 1, 1) := by decide +kernel
theorem dX6_addToken_48 : decode cX6_addToken 48 = .ok (.iadd, 1) := by decide +kernel
theorem dX6_addToken_49 : decode cX6_addToken 49 = .ok (.putfield 33, 3) := by decide +kernel
theorem dX6_addToken_52 : decode cX6_addToken 52 = .ok (.return_, 1) := by decide +kernel
theorem dX6_kindAt_0 : decode cX6_kindAt 0 = .ok (.iload_n 1, 1) := by decide +kernel
theorem dX6_kindAt_1 : decode cX6_kindAt 1 = .ok (.ifCond .lt 11, 3) := by decide +kernel
theorem dX6_kindAt_4 : decode cX6_kindAt 4 = .ok (.iload_n 1, 1) := by decide +kernel
theorem dX6_kindAt_5 : decode cX6_kindAt 5 = .ok (.aload_n 0, 1) := by decide +kernel
theorem dX6_kindAt_6 : decode cX6_kindAt 6 = .ok (.getfield 33, 3) := by decide +kernel
theorem dX6_kindAt_9 : decode cX6_kindAt 9 = .ok (.if_icmp .lt 7, 3) := by decide +kernel
theorem dX6_kindAt_12 : decode cX6_kindAt 12 = .ok (.iconst 0, 1) := by decide +kernel
theorem dX6_kindAt_13 : decode cX6_kindAt 13 = .ok (.goto 9, 3) := by decide +kernel
theorem dX6_kindAt_16 : decode cX6_kindAt 16 = .ok (.aload_n 0, 1) := by decide +kernel
theorem dX6_kindAt_17 : decode cX6_kindAt 17 = .ok (.getfield 15, 3) := by decide +kernel
theorem dX6_kindAt_20 : decode cX6_kindAt 20 = .ok (.iload_n 1, 1) := by decide +kernel
theorem dX6_kindAt_21 : decode cX6_kindAt 21 = .ok (.iaload, 1) := by decide +kernel
theorem dX6_kindAt_22 : decode cX6_kindAt 22 = .ok (.ireturn, 1) := by decide +kernel
theorem dX6_valueAt_0 : decode cX6_valueAt 0 = .ok (.iload_n 1, 1) := by decide +kernel
theorem dX6_valueAt_1 : decode cX6_valueAt 1 = .ok (.ifCond .lt 11, 3) := by decide +kernel
theorem dX6_valueAt_4 : decode cX6_valueAt 4 = .ok (.iload_n 1, 1) := by decide +kernel
theorem dX6_valueAt_5 : decode cX6_valueAt 5 = .ok (.aload_n 0, 1) := by decide +kernel
theorem dX6_valueAt_6 : decode cX6_valueAt 6 = .ok (.getfield 33, 3) := by decide +kernel
theorem dX6_valueAt_9 : decode cX6_valueAt 9 = .ok (.if_icmp .lt 7, 3) := by decide +kernel
theorem dX6_valueAt_12 : decode cX6_valueAt 12 = .ok (.lconst 0, 1) := by decide +kernel
theorem dX6_valueAt_13 : decode cX6_valueAt 13 = .ok (.goto 9, 3) := by decide +kernel
theorem dX6_valueAt_16 : decode cX6_valueAt 16 = .ok (.aload_n 0, 1) := by decide +kernel
theorem dX6_valueAt_17 : decode cX6_valueAt 17 = .ok (.getfield 22, 3) := by decide +kernel
theorem dX6_valueAt_20 : decode cX6_valueAt 20 = .ok (.iload_n 1, 1) := by decide +kernel
theorem dX6_valueAt_21 : decode cX6_valueAt 21 = .ok (.laload, 1) := by decide +kernel
theorem dX6_valueAt_22 : decode cX6_valueAt 22 = .ok (.lreturn, 1) := by decide +kernel
theorem dX6_isLetter_0 : decode cX6_isLetter 0 = .ok (.iload_n 0, 1) := by decide +kernel
theorem dX6_isLetter_1 : decode cX6_isLetter 1 = .ok (.bipush 97, 2) := by decide +kernel
theorem dX6_isLetter_3 : decode cX6_isLetter 3 = .ok (.if_icmp .lt 13, 3) := by decide +kernel
theorem dX6_isLetter_6 : decode cX6_isLetter 6 = .ok (.iload_n 0, 1) := by decide +kernel
theorem dX6_isLetter_7 : decode cX6_isLetter 7 = .ok (.bipush 122, 2) := by decide +kernel
theorem dX6_isLetter_9 : decode cX6_isLetter 9 = .ok (.if_icmp .gt 7, 3) := by decide +kernel
theorem dX6_isLetter_12 : decode cX6_isLetter 12 = .ok (.iconst 1, 1) := by decide +kernel
theorem dX6_isLetter_13 : decode cX6_isLetter 13 = .ok (.goto 4, 3) := by decide +kernel
theorem dX6_isLetter_16 : decode cX6_isLetter 16 = .ok (.iconst 0, 1) := by decide +kernel
theorem dX6_isLetter_17 : decode cX6_isLetter 17 = .ok (.ireturn, 1) := by decide +kernel
theorem dX6_isDigit_0 : decode cX6_isDigit 0 = .ok (.iload_n 0, 1) := by decide +kernel
theorem dX6_isDigit_1 : decode cX6_isDigit 1 = .ok (.bipush 48, 2) := by decide +kernel
theorem dX6_isDigit_3 : decode cX6_isDigit 3 = .ok (.if_icmp .lt 13, 3) := by decide +kernel
theorem dX6_isDigit_6 : decode cX6_isDigit 6 = .ok (.iload_n 0, 1) := by decide +kernel
theorem dX6_isDigit_7 : decode cX6_isDigit 7 = .ok (.bipush 57, 2) := by decide +kernel
theorem dX6_isDigit_9 : decode cX6_isDigit 9 = .ok (.if_icmp .gt 7, 3) := by decide +kernel
theorem dX6_isDigit_12 : decode cX6_isDigit 12 = .ok (.iconst 1, 1) := by decide +kernel
theorem dX6_isDigit_13 : decode cX6_isDigit 13 = .ok (.goto 4, 3) := by decide +kernel
theorem dX6_isDigit_16 : decode cX6_isDigit 16 = .ok (.iconst 0, 1) := by decide +kernel
theorem dX6_isDigit_17 : decode cX6_isDigit 17 = .ok (.ireturn, 1) := by decide +kernel
theorem dX6_wordSign_0 : decode cX6_wordSign 0 = .ok (.iload_n 0, 1) := by decide +kernel
theorem dX6_wordSign_1 : decode cX6_wordSign 1 = .ok (.invokestatic 54, 3) := by decide +kernel
theorem dX6_wordSign_4 : decode cX6_wordSign 4 = .ok (.ifCond .eq 12, 3) := by decide +kernel
theorem dX6_wordSign_7 : decode cX6_wordSign 7 = .ok (.iload_n 0, 1) := by decide +kernel
theorem dX6_wordSign_8 : decode cX6_wordSign 8 = .ok (.bipush 97, 2) := by decide +kernel
theorem dX6_wordSign_10 : decode cX6_wordSign 10 = .ok (.isub, 1) := by decide +kernel
theorem dX6_wordSign_11 : decode cX6_wordSign 11 = .ok (.iconst 1, 1) := by decide +kernel
theorem dX6_wordSign_12 : decode cX6_wordSign 12 = .ok (.iadd, 1) := by decide +kernel
theorem dX6_wordSign_13 : decode cX6_wordSign 13 = .ok (.goto 10, 3) := by decide +kernel
theorem dX6_wordSign_16 : decode cX6_wordSign 16 = .ok (.iload_n 0, 1) := by decide +kernel
theorem dX6_wordSign_17 : decode cX6_wordSign 17 = .ok (.bipush 48, 2) := by decide +kernel
theorem dX6_wordSign_19 : decode cX6_wordSign 19 = .ok (.isub, 1) := by decide +kernel
theorem dX6_wordSign_20 : decode cX6_wordSign 20 = .ok (.bipush 27, 2) := by decide +kernel
theorem dX6_wordSign_22 : decode cX6_wordSign 22 = .ok (.iadd, 1) := by decide +kernel
theorem dX6_wordSign_23 : decode cX6_wordSign 23 = .ok (.ireturn, 1) := by decide +kernel
theorem dX7_init_0 : decode cX7_init 0 = .ok (.aload_n 0, 1) := by decide +kernel
theorem dX7_init_1 : decode cX7_init 1 = .ok (.invokespecial 3, 3) := by decide +kernel
theorem dX7_init_4 : decode cX7_init 4 = .ok (.aload_n 0, 1) := by decide +kernel
theorem dX7_init_5 : decode cX7_init 5 = .ok (.bipush 6, 2) := by decide +kernel
theorem dX7_init_7 : decode cX7_init 7 = .ok (.newarray .int, 2) := by decide +kernel
theorem dX7_init_9 : decode cX7_init 9 = .ok (.putfield 9, 3) := by decide +kernel
theorem dX7_init_12 : decode cX7_init 12 = .ok (.aload_n 0, 1) := by decide +kernel
theorem dX7_init_13 : decode cX7_init 13 = .ok (.bipush 8, 2) := by decide +kernel
theorem dX7_init_15 : decode cX7_init 15 = .ok (.newarray .long, 2) := by decide +kernel
theorem dX7_init_17 : decode cX7_init 17 = .ok (.putfield 15, 3) := by decide +kernel
theorem dX7_init_20 : decode cX7_init 20 = .ok (.aload_n 0, 1) := by decide +kernel
theorem dX7_init_21 : decode cX7_init 21 = .ok (.bipush 8, 2) := by decide +kernel
theorem dX7_init_23 : decode cX7_init 23 = .ok (.newarray .int, 2) := by decide +kernel
theorem dX7_init_25 : decode cX7_init 25 = .ok (.putfield 19, 3) := by decide +kernel
theorem dX7_init_28 : decode cX7_init 28 = .ok (.aload_n 0, 1) := by decide +kernel
theorem dX7_init_29 : decode cX7_init 29 = .ok (.bipush 8, 2) := by decide +kernel
theorem dX7_init_31 : decode cX7_init 31 = .ok (.newarray .boolean, 2) := by decide +kernel
theorem dX7_init_33 : decode cX7_init 33 = .ok (.putfield 22, 3) := by decide +kernel
theorem dX7_init_36 : decode cX7_init 36 = .ok (.aload_n 0, 1) := by decide +kernel
theorem dX7_init_37 : decode cX7_init 37 = .ok (.iconst (-1), 1) := by decide +kernel
theorem dX7_init_38 : decode cX7_init 38 = .ok (.putfield 26, 3) := by decide +kernel
theorem dX7_init_41 : decode cX7_init 41 = .ok (.aload_n 0, 1) := by decide +kernel
theorem dX7_init_42 : decode cX7_init 42 = .ok (.iconst 0, 1) := by decide +kernel
theorem dX7_init_43 : decode cX7_init 43 = .ok (.putfield 30, 3) := by decide +kernel
theorem dX7_init_46 : decode cX7_init 46 = .ok (.aload_n 0, 1) := by decide +kernel
theorem dX7_init_47 : decode cX7_init 47 = .ok (.iconst 0, 1) := by decide +kernel
theorem dX7_init_48 : decode cX7_init 48 = .ok (.putfield 33, 3) := by decide +kernel
theorem dX7_init_51 : decode cX7_init 51 = .ok (.aload_n 0, 1) := by decide +kernel
theorem dX7_init_52 : decode cX7_init 52 = .ok (.iconst 0, 1) := by decide +kernel
theorem dX7_init_53 : decode cX7_init 53 = .ok (.putfield 36, 3) := by decide +kernel
theorem dX7_init_56 : decode cX7_init 56 = .ok (.aload_n 0, 1) := by decide +kernel
theorem dX7_init_57 : decode cX7_init 57 = .ok (.iconst 0, 1) := by decide +kernel
theorem dX7_init_58 : decode cX7_init 58 = .ok (.newarray .int, 2) := by decide +kernel
theorem dX7_init_60 : decode cX7_init 60 = .ok (.putfield 39, 3) := by decide +kernel
theorem dX7_init_63 : decode cX7_init 63 = .ok (.aload_n 0, 1) := by decide +kernel
theorem dX7_init_64 : decode cX7_init 64 = .ok (.iconst 0, 1) := by decide +kernel
theorem dX7_init_65 : decode cX7_init 65 = .ok (.newarray .int, 2) := by decide +kernel
theorem dX7_init_67 : decode cX7_init 67 = .ok (.putfield 42, 3) := by decide +kernel
theorem dX7_init_70 : decode cX7_init 70 = .ok (.aload_n 0, 1) := by decide +kernel
theorem dX7_init_71 : decode cX7_init 71 = .ok (.iconst 0, 1) := by decide +kernel
theorem dX7_init_72 : decode cX7_init 72 = .ok (.putfield 45, 3) := by decide +kernel
theorem dX7_init_75 : decode cX7_init 75 = .ok (.aload_n 0, 1) := by decide +kernel
theorem dX7_init_76 : decode cX7_init 76 = .ok (.iconst (-1), 1) := by decide +kernel
theorem dX7_init_77 : decode cX7_init 77 = .ok (.putfield 48, 3) := by decide +kernel
theorem dX7_init_80 : decode cX7_init 80 = .ok (.aload_n 0, 1) := by decide +kernel
theorem dX7_init_81 : decode cX7_init 81 = .ok (.iload_n 1, 1) := by decide +kernel
theorem dX7_init_82 : decode cX7_init 82 = .ok (.putfield 51, 3) := by decide +kernel
theorem dX7_init_85 : decode cX7_init 85 = .ok (.aload_n 0, 1) := by decide +kernel
theorem dX7_init_86 : decode cX7_init 86 = .ok (.iload_n 2, 1) := by decide +kernel
theorem dX7_init_87 : decode cX7_init 87 = .ok (.putfield 55, 3) := by decide +kernel
theorem dX7_init_90 : decode cX7_init 90 = .ok (.return_, 1) := by decide +kernel
theorem dX7_hasRole_0 : decode cX7_hasRole 0 = .ok (.iconst 0, 1) := by decide +kernel
theorem dX7_hasRole_1 : decode cX7_hasRole 1 = .ok (.istore_n 2, 1) := by decide +kernel
theorem dX7_hasRole_2 : decode cX7_hasRole 2 = .ok (.iload_n 2, 1) := by decide +kernel
theorem dX7_hasRole_3 : decode cX7_hasRole 3 = .ok (.aload_n 0, 1) := by decide +kernel
theorem dX7_hasRole_4 : decode cX7_hasRole 4 = .ok (.getfield 30, 3) := by decide +kernel
theorem dX7_hasRole_7 : decode cX7_hasRole 7 = .ok (.if_icmp .ge 21, 3) := by decide +kernel
theorem dX7_hasRole_10 : decode cX7_hasRole 10 = .ok (.aload_n 0, 1) := by decide +kernel
theorem dX7_hasRole_11 : decode cX7_hasRole 11 = .ok (.getfield 9, 3) := by decide +kernel
theorem dX7_hasRole_14 : decode cX7_hasRole 14 = .ok (.iload_n 2, 1) := by decide +kernel
theorem dX7_hasRole_15 : decode cX7_hasRole 15 = .ok (.iaload, 1) := by decide +kernel
theorem dX7_hasRole_16 : decode cX7_hasRole 16 = .ok (.iload_n 1, 1) := by decide +kernel
theorem dX7_hasRole_17 : decode cX7_hasRole 17 = .ok (.if_icmp .ne 5, 3) := by decide +kernel
theorem dX7_hasRole_20 : decode cX7_hasRole 20 = .ok (.iconst 1, 1) := by decide +kernel
theorem dX7_hasRole_21 : decode cX7_hasRole 21 = .ok (.ireturn, 1) := by decide +kernel
theorem dX7_hasRole_22 : decode cX7_hasRole 22 = .ok (.iinc 2 1, 3) := by decide +kernel
theorem dX7_hasRole_25 : decode cX7_hasRole 25 = .ok (.goto (-23), 3) := by decide +kernel
theorem dX7_hasRole_28 : decode cX7_hasRole 28 = .ok (.iconst 0, 1) := by decide +kernel
theorem dX7_hasRole_29 : decode cX7_hasRole 29 = .ok (.ireturn, 1) := by decide +kernel
theorem dX7_addRole_0 : decode cX7_addRole 0 = .ok (.aload_n 0, 1) := by decide +kernel
theorem dX7_addRole_1 : decode cX7_addRole 1 = .ok (.getfield 30, 3) := by decide +kernel
theorem dX7_addRole_4 : decode cX7_addRole 4 = .ok (.bipush 6, 2) := by decide +kernel
theorem dX7_addRole_6 : decode cX7_addRole 6 = .ok (.if_icmp .ge 23, 3) := by decide +kernel
theorem dX7_addRole_9 : decode cX7_addRole 9 = .ok (.aload_n 0, 1) := by decide +kernel
theorem dX7_addRole_10 : decode cX7_addRole 10 = .ok (.getfield 9, 3) := by decide +kernel
theorem dX7_addRole_13 : decode cX7_addRole 13 = .ok (.aload_n 0, 1) := by decide +kernel
theorem dX7_addRole_14 : decode cX7_addRole 14 = .ok (.getfield 30, 3) := by decide +kernel
theorem dX7_addRole_17 : decode cX7_addRole 17 = .ok (.iload_n 1, 1) := by decide +kernel
theorem dX7_addRole_18 : decode cX7_addRole 18 = .ok (.iastore, 1) := by decide +kernel
theorem dX7_addRole_19 : decode cX7_addRole 19 = .ok (.aload_n 0, 1) := by decide +kernel
theorem dX7_addRole_20 : decode cX7_addRole 20 = .ok (.dup, 1) := by decide +kernel
theorem dX7_addRole_21 : decode cX7_addRole 21 = .ok (.getfield 30, 3) := by decide +kernel
theorem dX7_addRole_24 : decode cX7_addRole 24 = .ok (.iconst 1, 1) := by decide +kernel
theorem dX7_addRole_25 : decode cX7_addRole 25 = .ok (.iadd, 1) := by decide +kernel
theorem dX7_addRole_26 : decode cX7_addRole 26 = .ok (.putfield 30, 3) := by decide +kernel
theorem dX7_addRole_29 : decode cX7_addRole 29 = .ok (.return_, 1) := by decide +kernel
theorem dX7_addSetting_0 : decode cX7_addSetting 0 = .ok (.aload_n 0, 1) := by decide +kernel
theorem dX7_addSetting_1 : decode cX7_addSetting 1 = .ok (.getfield 33, 3) := by decide +kernel
theorem dX7_addSetting_4 : decode cX7_addSetting 4 = .ok (.bipush 8, 2) := by decide +kernel
theorem dX7_addSetting_6 : decode cX7_addSetting 6 = .ok (.if_icmp .ge 33, 3) := by decide +kernel
theorem dX7_addSetting_9 : decode cX7_addSetting 9 = .ok (.aload_n 0, 1) := by decide +kernel
theorem dX7_addSetting_10 : decode cX7_addSetting 10 = .ok (.getfield 15, 3) := by decide +kernel
theorem dX7_addSetting_13 : decode cX7_addSetting 13 = .ok (.aload_n 0, 1) := by decide +kernel
theorem dX7_addSetting_14 : decode cX7_addSetting 14 = .ok (.getfield 33, 3) := by decide +kernel
theorem dX7_addSetting_17 : decode cX7_addSetting 17 = .ok (.lload_n 1, 1) := by decide +kernel
theorem dX7_addSetting_18 : decode cX7_addSetting 18 = .ok (.lastore, 1) := by decide +kernel
theorem dX7_addSetting_19 : decode cX7_addSetting 19 = .ok (.aload_n 0, 1) := by decide +kernel
theorem dX7_addSetting_20 : decode cX7_addSetting 20 = .ok (.getfield 19, 3) := by decide +kernel
theorem dX7_addSetting_23 : decode cX7_addSetting 23 = .ok (.aload_n 0, 1) := by decide +kernel
theorem dX7_addSetting_24 : decode cX7_addSetting 24 = .ok (.getfield 33, 3) := by decide +kernel
theorem dX7_addSetting_27 : decode cX7_addSetting 27 = .ok (.iload_n 3, 1) := by decide +kernel
theorem dX7_addSetting_28 : decode cX7_addSetting 28 = .ok (.iastore, 1) := by decide +kernel
theorem dX7_addSetting_29 : decode cX7_addSetting 29 = .ok (.aload_n 0, 1) := by decide +kernel
theorem dX7_addSetting_30 : decode cX7_addSetting 30 = .ok (.dup, 1) := by decide +kernel
theorem dX7_addSetting_31 : decode cX7_addSetting 31 = .ok (.getfield 33, 3) := by decide +kernel
theorem dX7_addSetting_34 : decode cX7_addSetting 34 = .ok (.iconst 1, 1) := by decide +kernel
theorem dX7_addSetting_35 : decode cX7_addSetting 35 = .ok (.iadd, 1) := by decide +kernel
theorem dX7_addSetting_36 : decode cX7_addSetting 36 = .ok (.putfield 33, 3) := by decide +kernel
theorem dX7_addSetting_39 : decode cX7_addSetting 39 = .ok (.return_, 1) := by decide +kernel
theorem dX7_addStatic_0 : decode cX7_addStatic 0 = .ok (.aload_n 0, 1) := by decide +kernel
theorem dX7_addStatic_1 : decode cX7_addStatic 1 = .ok (.getfield 36, 3) := by decide +kernel
theorem dX7_addStatic_4 : decode cX7_addStatic 4 = .ok (.istore_n 3, 1) := by decide +kernel
theorem dX7_addStatic_5 : decode cX7_addStatic 5 = .ok (.aload_n 0, 1) := by decide +kernel
theorem dX7_addStatic_6 : decode cX7_addStatic 6 = .ok (.getfield 33, 3) := by decide +kernel
theorem dX7_addStatic_9 : decode cX7_addStatic 9 = .ok (.bipush 8, 2) := by decide +kernel
theorem dX7_addStatic_11 : decode cX7_addStatic 11 = .ok (.if_icmp .ge 53, 3) := by decide +kernel
theorem dX7_addStatic_14 : decode cX7_addStatic 14 = .ok (.aload_n 0, 1) := by decide +kernel
theorem dX7_addStatic_15 : decode cX7_addStatic 15 = .ok (.getfield 15, 3) := by decide +kernel
theorem dX7_addStatic_18 : decode cX7_addStatic 18 = .ok (.aload_n 0, 1) := by decide +kernel
theorem dX7_addStatic_19 : decode cX7_addStatic 19 = .ok (.getfield 33, 3) := by decide +kernel
theorem dX7_addStatic_22 : decode cX7_addStatic 22 = .ok (.lload_n 1, 1) := by decide +kernel
theorem dX7_addStatic_23 : decode cX7_addStatic 23 = .ok (.lastore, 1) := by decide +kernel
theorem dX7_addStatic_24 : decode cX7_addStatic 24 = .ok (.aload_n 0, 1) := by decide +kernel
theorem dX7_addStatic_25 : decode cX7_addStatic 25 = .ok (.getfield 19, 3) := by decide +kernel
theorem dX7_addStatic_28 : decode cX7_addStatic 28 = .ok (.aload_n 0, 1) := by decide +kernel
theorem dX7_addStatic_29 : decode cX7_addStatic 29 = .ok (.getfield 33, 3) := by decide +kernel
theorem dX7_addStatic_32 : decode cX7_addStatic 32 = .ok (.iload_n 3, 1) := by decide +kernel
theorem dX7_addStatic_33 : decode cX7_addStatic 33 = .ok (.iastore, 1) := by decide +kernel
theorem dX7_addStatic_34 : decode cX7_addStatic 34 = .ok (.aload_n 0, 1) := by decide +kernel
theorem dX7_addStatic_35 : decode cX7_addStatic 35 = .ok (.getfield 22, 3) := by decide +kernel
theorem dX7_addStatic_38 : decode cX7_addStatic 38 = .ok (.aload_n 0, 1) := by decide +kernel
theorem dX7_addStatic_39 : decode cX7_addStatic 39 = .ok (.getfield 33, 3) := by decide +kernel
theorem dX7_addStatic_42 : decode cX7_addStatic 42 = .ok (.iconst 1, 1) := by decide +kernel
theorem dX7_addStatic_43 : decode cX7_addStatic 43 = .ok (.bastore, 1) := by decide +kernel
theorem dX7_addStatic_44 : decode cX7_addStatic 44 = .ok (.aload_n 0, 1) := by decide +kernel
theorem dX7_addStatic_45 : decode cX7_addStatic 45 = .ok (.dup, 1) := by decide +kernel
theorem dX7_addStatic_46 : decode cX7_addStatic 46 = .ok (.getfield 33, 3) := by decide +kernel
theorem dX7_addStatic_49 : decode cX7_addStatic 49 = .ok (.iconst 1, 1) := by decide +kernel
theorem dX7_addStatic_50 : decode cX7_addStatic 50 = .ok (.iadd, 1) := by decide +kernel
theorem dX7_addStatic_51 : decode cX7_addStatic 51 = .ok (.putfield 33, 3) := by decide +kernel
theorem dX7_addStatic_54 : decode cX7_addStatic 54 = .ok (.aload_n 0, 1) := by decide +kernel
