theorem dX7_addStatic_55 : decode cX7_addStatic 55 = .ok (.dup, 1) := by decide +kernel
theorem dX7_addStatic_56 : decode cX7_addStatic 56 = .ok (.getfield 36, 3) := by decide +kernel
theorem dX7_addStatic_59 : decode cX7_addStatic 59 = .ok (.iconst 1, 1) := by decide +kernel
theorem dX7_addStatic_60 : decode cX7_addStatic 60 = .ok (.iadd, 1) := by decide +kernel
theorem dX7_addStatic_61 : decode cX7_addStatic 61 = .ok (.putfield 36, 3) := by decide +kernel
theorem dX7_addStatic_64 : decode cX7_addStatic 64 = .ok (.iload_n 3, 1) := by decide +kernel
theorem dX7_addStatic_65 : decode cX7_addStatic 65 = .ok (.ireturn, 1) := by decide +kernel
theorem dX8_init_0 : decode cX8_init 0 = .ok (.aload_n 0, 1) := by decide +kernel
theorem dX8_init_1 : decode cX8_init 1 = .ok (.invokespecial 3, 3) := by decide +kernel
theorem dX8_init_4 : decode cX8_init 4 = .ok (.aload_n 0, 1) := by decide +kernel
theorem dX8_init_5 : decode cX8_init 5 = .ok (.new 9, 3) := by decide +kernel
theorem dX8_init_8 : decode cX8_init 8 = .ok (.dup, 1) := by decide +kernel
theorem dX8_init_9 : decode cX8_init 9 = .ok (.invokespecial 11, 3) := by decide +kernel
theorem dX8_init_12 : decode cX8_init 12 = .ok (.putfield 12, 3) := by decide +kernel
theorem dX8_init_15 : decode cX8_init 15 = .ok (.aload_n 0, 1) := by decide +kernel
theorem dX8_init_16 : decode cX8_init 16 = .ok (.new 16, 3) := by decide +kernel
theorem dX8_init_19 : decode cX8_init 19 = .ok (.dup, 1) := by decide +kernel
theorem dX8_init_20 : decode cX8_init 20 = .ok (.aload_n 0, 1) := by decide +kernel
theorem dX8_init_21 : decode cX8_init 21 = .ok (.getfield 12, 3) := by decide +kernel
theorem dX8_init_24 : decode cX8_init 24 = .ok (.invokespecial 18, 3) := by decide +kernel
theorem dX8_init_27 : decode cX8_init 27 = .ok (.putfield 21, 3) := by decide +kernel
theorem dX8_init_30 : decode cX8_init 30 = .ok (.aload_n 0, 1) := by decide +kernel
theorem dX8_init_31 : decode cX8_init 31 = .ok (.new 25, 3) := by decide +kernel
theorem dX8_init_34 : decode cX8_init 34 = .ok (.dup, 1) := by decide +kernel
theorem dX8_init_35 : decode cX8_init 35 = .ok (.invokespecial 27, 3) := by decide +kernel
theorem dX8_init_38 : decode cX8_init 38 = .ok (.putfield 28, 3) := by decide +kernel
theorem dX8_init_41 : decode cX8_init 41 = .ok (.aload_n 0, 1) := by decide +kernel
theorem dX8_init_42 : decode cX8_init 42 = .ok (.new 25, 3) := by decide +kernel
theorem dX8_init_45 : decode cX8_init 45 = .ok (.dup, 1) := by decide +kernel
theorem dX8_init_46 : decode cX8_init 46 = .ok (.invokespecial 27, 3) := by decide +kernel
theorem dX8_init_49 : decode cX8_init 49 = .ok (.putfield 32, 3) := by decide +kernel
theorem dX8_init_52 : decode cX8_init 52 = .ok (.aload_n 0, 1) := by decide +kernel
theorem dX8_init_53 : decode cX8_init 53 = .ok (.new 35, 3) := by decide +kernel
theorem dX8_init_56 : decode cX8_init 56 = .ok (.dup, 1) := by decide +kernel
theorem dX8_init_57 : decode cX8_init 57 = .ok (.invokespecial 37, 3) := by decide +kernel
theorem dX8_init_60 : decode cX8_init 60 = .ok (.putfield 38, 3) := by decide +kernel
theorem dX8_init_63 : decode cX8_init 63 = .ok (.aload_n 0, 1) := by decide +kernel
theorem dX8_init_64 : decode cX8_init 64 = .ok (.new 42, 3) := by decide +kernel
theorem dX8_init_67 : decode cX8_init 67 = .ok (.dup, 1) := by decide +kernel
theorem dX8_init_68 : decode cX8_init 68 = .ok (.aload_n 0, 1) := by decide +kernel
theorem dX8_init_69 : decode cX8_init 69 = .ok (.getfield 28, 3) := by decide +kernel
theorem dX8_init_72 : decode cX8_init 72 = .ok (.aload_n 0, 1) := by decide +kernel
theorem dX8_init_73 : decode cX8_init 73 = .ok (.getfield 38, 3) := by decide +kernel
theorem dX8_init_76 : decode cX8_init 76 = .ok (.invokespecial 44, 3) := by decide +kernel
theorem dX8_init_79 : decode cX8_init 79 = .ok (.putfield 47, 3) := by decide +kernel
theorem dX8_init_82 : decode cX8_init 82 = .ok (.aload_n 0, 1) := by decide +kernel
theorem dX8_init_83 : decode cX8_init 83 = .ok (.bipush 24, 2) := by decide +kernel
theorem dX8_init_85 : decode cX8_init 85 = .ok (.newarray .int, 2) := by decide +kernel
theorem dX8_init_87 : decode cX8_init 87 = .ok (.putfield 51, 3) := by decide +kernel
theorem dX8_init_90 : decode cX8_init 90 = .ok (.aload_n 0, 1) := by decide +kernel
theorem dX8_init_91 : decode cX8_init 91 = .ok (.new 55, 3) := by decide +kernel
theorem dX8_init_94 : decode cX8_init 94 = .ok (.dup, 1) := by decide +kernel
theorem dX8_init_95 : decode cX8_init 95 = .ok (.iconst 0, 1) := by decide +kernel
theorem dX8_init_96 : decode cX8_init 96 = .ok (.invokespecial 57, 3) := by decide +kernel
theorem dX8_init_99 : decode cX8_init 99 = .ok (.putfield 60, 3) := by decide +kernel
theorem dX8_init_102 : decode cX8_init 102 = .ok (.aload_n 0, 1) := by decide +kernel
theorem dX8_init_103 : decode cX8_init 103 = .ok (.iconst 0, 1) := by decide +kernel
theorem dX8_init_104 : decode cX8_init 104 = .ok (.putfield 64, 3) := by decide +kernel
theorem dX8_init_107 : decode cX8_init 107 = .ok (.aload_n 0, 1) := by decide +kernel
theorem dX8_init_108 : decode cX8_init 108 = .ok (.iconst 0, 1) := by decide +kernel
theorem dX8_init_109 : decode cX8_init 109 = .ok (.putfield 68, 3) := by decide +kernel
theorem dX8_init_112 : decode cX8_init 112 = .ok (.aload_n 0, 1) := by decide +kernel
theorem dX8_init_113 : decode cX8_init 113 = .ok (.iconst 0, 1) := by decide +kernel
theorem dX8_init_114 : decode cX8_init 114 = .ok (.putfield 71, 3) := by decide +kernel
theorem dX8_init_117 : decode cX8_init 117 = .ok (.aload_n 0, 1) := by decide +kernel
theorem dX8_init_118 : decode cX8_init 118 = .ok (.iconst 0, 1) := by decide +kernel
theorem dX8_init_119 : decode cX8_init 119 = .ok (.putfield 74, 3) := by decide +kernel
theorem dX8_init_122 : decode cX8_init 122 = .ok (.aload_n 0, 1) := by decide +kernel
theorem dX8_init_123 : decode cX8_init 123 = .ok (.iconst 0, 1) := by decide +kernel
theorem dX8_init_124 : decode cX8_init 124 = .ok (.putfield 77, 3) := by decide +kernel
theorem dX8_init_127 : decode cX8_init 127 = .ok (.return_, 1) := by decide +kernel
theorem dX8_feed_0 : decode cX8_feed 0 = .ok (.aload_n 0, 1) := by decide +kernel
theorem dX8_feed_1 : decode cX8_feed 1 = .ok (.getfield 12, 3) := by decide +kernel
theorem dX8_feed_4 : decode cX8_feed 4 = .ok (.lload_n 1, 1) := by decide +kernel
theorem dX8_feed_5 : decode cX8_feed 5 = .ok (.invokevirtual 81, 3) := by decide +kernel
theorem dX8_feed_8 : decode cX8_feed 8 = .ok (.aload_n 0, 1) := by decide +kernel
theorem dX8_feed_9 : decode cX8_feed 9 = .ok (.getfield 12, 3) := by decide +kernel
theorem dX8_feed_12 : decode cX8_feed 12 = .ok (.lload_n 3, 1) := by decide +kernel
theorem dX8_feed_13 : decode cX8_feed 13 = .ok (.invokevirtual 81, 3) := by decide +kernel
theorem dX8_feed_16 : decode cX8_feed 16 = .ok (.aload_n 0, 1) := by decide +kernel
theorem dX8_feed_17 : decode cX8_feed 17 = .ok (.getfield 12, 3) := by decide +kernel
theorem dX8_feed_20 : decode cX8_feed 20 = .ok (.lload 5, 2) := by decide +kernel
theorem dX8_feed_22 : decode cX8_feed 22 = .ok (.invokevirtual 81, 3) := by decide +kernel
theorem dX8_feed_25 : decode cX8_feed 25 = .ok (.aload_n 0, 1) := by decide +kernel
theorem dX8_feed_26 : decode cX8_feed 26 = .ok (.getfield 12, 3) := by decide +kernel
theorem dX8_feed_29 : decode cX8_feed 29 = .ok (.getfield 85, 3) := by decide +kernel
theorem dX8_feed_32 : decode cX8_feed 32 = .ok (.ireturn, 1) := by decide +kernel
theorem dX8_station_0 : decode cX8_station 0 = .ok (.aload_n 0, 1) := by decide +kernel
theorem dX8_station_1 : decode cX8_station 1 = .ok (.getfield 12, 3) := by decide +kernel
theorem dX8_station_4 : decode cX8_station 4 = .ok (.invokevirtual 88, 3) := by decide +kernel
theorem dX8_station_7 : decode cX8_station 7 = .ok (.aconst_null, 1) := by decide +kernel
theorem dX8_station_8 : decode cX8_station 8 = .ok (.astore_n 1, 1) := by decide +kernel
theorem dX8_station_9 : decode cX8_station 9 = .ok (.aload_n 0, 1) := by decide +kernel
theorem dX8_station_10 : decode cX8_station 10 = .ok (.getfield 21, 3) := by decide +kernel
theorem dX8_station_13 : decode cX8_station 13 = .ok (.invokevirtual 91, 3) := by decide +kernel
theorem dX8_station_16 : decode cX8_station 16 = .ok (.astore_n 1, 1) := by decide +kernel
theorem dX8_station_17 : decode cX8_station 17 = .ok (.goto 6, 3) := by decide +kernel
theorem dX8_station_20 : decode cX8_station 20 = .ok (.astore_n 2, 1) := by decide +kernel
theorem dX8_station_21 : decode cX8_station 21 = .ok (.aconst_null, 1) := by decide +kernel
theorem dX8_station_22 : decode cX8_station 22 = .ok (.astore_n 1, 1) := by decide +kernel
theorem dX8_station_23 : decode cX8_station 23 = .ok (.aload_n 0, 1) := by decide +kernel
theorem dX8_station_24 : decode cX8_station 24 = .ok (.getfield 12, 3) := by decide +kernel
theorem dX8_station_27 : decode cX8_station 27 = .ok (.invokevirtual 97, 3) := by decide +kernel
theorem dX8_station_30 : decode cX8_station 30 = .ok (.aload_n 1, 1) := by decide +kernel
theorem dX8_station_31 : decode cX8_station 31 = .ok (.ifnonnull 11, 3) := by decide +kernel
theorem dX8_station_34 : decode cX8_station 34 = .ok (.aload_n 0, 1) := by decide +kernel
theorem dX8_station_35 : decode cX8_station 35 = .ok (.getfield 21, 3) := by decide +kernel
theorem dX8_station_38 : decode cX8_station 38 = .ok (.getfield 100, 3) := by decide +kernel
theorem dX8_station_41 : decode cX8_station 41 = .ok (.ireturn, 1) := by decide +kernel
theorem dX8_station_42 : decode cX8_station 42 = .ok (.aload_n 0, 1) := by decide +kernel
theorem dX8_station_43 : decode cX8_station 43 = .ok (.aload_n 1, 1) := by decide +kernel
theorem dX8_station_44 : decode cX8_station 44 = .ok (.putfield 60, 3) := by decide +kernel
theorem dX8_station_47 : decode cX8_station 47 = .ok (.aload_n 0, 1) := by decide +kernel
theorem dX8_station_48 : decode cX8_station 48 = .ok (.getfield 28, 3) := by decide +kernel
theorem dX8_station_51 : decode cX8_station 51 = .ok (.aload_n 1, 1) := by decide +kernel
theorem dX8_station_52 : decode cX8_station 52 = .ok (.invokevirtual 103, 3) := by decide +kernel
theorem dX8_station_55 : decode cX8_station 55 = .ok (.aload_n 0, 1) := by decide +kernel
theorem dX8_station_56 : decode cX8_station 56 = .ok (.getfield 38, 3) := by decide +kernel
theorem dX8_station_59 : decode cX8_station 59 = .ok (.invokevirtual 107, 3) := by decide +kernel
theorem dX8_station_62 : decode cX8_station 62 = .ok (.aload_n 0, 1) := by decide +kernel
theorem dX8_station_63 : decode cX8_station 63 = .ok (.iconst 0, 1) := by decide +kernel
theorem dX8_station_64 : decode cX8_station 64 = .ok (.putfield 64, 3) := by decide +kernel
theorem dX8_station_67 : decode cX8_station 67 = .ok (.aload_n 0, 1) := by decide +kernel
theorem dX8_station_68 : decode cX8_station 68 = .ok (.iconst 0, 1) := by decide +kernel
theorem dX8_station_69 : decode cX8_station 69 = .ok (.putfield 68, 3) := by decide +kernel
theorem dX8_station_72 : decode cX8_station 72 = .ok (.aload_n 0, 1) := by decide +kernel
theorem dX8_station_73 : decode cX8_station 73 = .ok (.iconst 0, 1) := by decide +kernel
theorem dX8_station_74 : decode cX8_station 74 = .ok (.putfield 71, 3) := by decide +kernel
theorem dX8_station_77 : decode cX8_station 77 = .ok (.aload_n 0, 1) := by decide +kernel
theorem dX8_station_78 : decode cX8_station 78 = .ok (.iconst 0, 1) := by decide +kernel
theorem dX8_station_79 : decode cX8_station 79 = .ok (.putfield 74, 3) := by decide +kernel
theorem dX8_station_82 : decode cX8_station 82 = .ok (.aload_n 0, 1) := by decide +kernel
theorem dX8_station_83 : decode cX8_station 83 = .ok (.iconst 0, 1) := by decide +kernel
theorem dX8_station_84 : decode cX8_station 84 = .ok (.putfield 77, 3) := by decide +kernel
theorem dX8_station_87 : decode cX8_station 87 = .ok (.iconst 0, 1) := by decide +kernel
theorem dX8_station_88 : decode cX8_station 88 = .ok (.ireturn, 1) := by decide +kernel
theorem dX8_named_0 : decode cX8_named 0 = .ok (.aload_n 0, 1) := by decide +kernel
theorem dX8_named_1 : decode cX8_named 1 = .ok (.getfield 12, 3) := by decide +kernel
theorem dX8_named_4 : decode cX8_named 4 = .ok (.invokevirtual 88, 3) := by decide +kernel
theorem dX8_named_7 : decode cX8_named 7 = .ok (.aload_n 0, 1) := by decide +kernel
theorem dX8_named_8 : decode cX8_named 8 = .ok (.getfield 12, 3) := by decide +kernel
theorem dX8_named_11 : decode cX8_named 11 = .ok (.getfield 108, 3) := by decide +kernel
theorem dX8_named_14 : decode cX8_named 14 = .ok (.iconst 2, 1) := by decide +kernel
theorem dX8_named_15 : decode cX8_named 15 = .ok (.if_icmp .ne 19, 3) := by decide +kernel
theorem dX8_named_18 : decode cX8_named 18 = .ok (.aload_n 0, 1) := by decide +kernel
theorem dX8_named_19 : decode cX8_named 19 = .ok (.getfield 12, 3) := by decide +kernel
theorem dX8_named_22 : decode cX8_named 22 = .ok (.iconst 0, 1) := by decide +kernel
theorem dX8_named_23 : decode cX8_named 23 = .ok (.invokevirtual 111, 3) := by decide +kernel
theorem dX8_named_26 : decode cX8_named 26 = .ok (.iconst 2, 1) := by decide +kernel
theorem dX8_named_27 : decode cX8_named 27 = .ok (.if_icmp .ne 7, 3) := by decide +kernel
theorem dX8_named_30 : decode cX8_named 30 = .ok (.iconst 1, 1) := by decide +kernel
theorem dX8_named_31 : decode cX8_named 31 = .ok (.goto 4, 3) := by decide +kernel
theorem dX8_named_34 : decode cX8_named 34 = .ok (.iconst 0, 1) := by decide +kernel
theorem dX8_named_35 : decode cX8_named 35 = .ok (.istore_n 2, 1) := by decide +kernel
theorem dX8_named_36 : decode cX8_named 36 = .ok (.aload_n 0, 1) := by decide +kernel
theorem dX8_named_37 : decode cX8_named 37 = .ok (.getfield 12, 3) := by decide +kernel
theorem dX8_named_40 : decode cX8_named 40 = .ok (.iconst 0, 1) := by decide +kernel
theorem dX8_named_41 : decode cX8_named 41 = .ok (.invokevirtual 115, 3) := by decide +kernel
theorem dX8_named_44 : decode cX8_named 44 = .ok (.lstore_n 3, 1) := by decide +kernel
theorem dX8_named_45 : decode cX8_named 45 = .ok (.aload_n 0, 1) := by decide +kernel
theorem dX8_named_46 : decode cX8_named 46 = .ok (.getfield 12, 3) := by decide +kernel
theorem dX8_named_49 : decode cX8_named 49 = .ok (.invokevirtual 97, 3) := by decide +kernel
theorem dX8_named_52 : decode cX8_named 52 = .ok (.iload_n 2, 1) := by decide +kernel
theorem dX8_named_53 : decode cX8_named 53 = .ok (.ifCond .ne 5, 3) := by decide +kernel
theorem dX8_named_56 : decode cX8_named 56 = .ok (.iconst (-1), 1) := by decide +kernel
theorem dX8_named_57 : decode cX8_named 57 = .ok (.ireturn, 1) := by decide +kernel
theorem dX8_named_58 : decode cX8_named 58 = .ok (.iload_n 1, 1) := by decide +kernel
theorem dX8_named_59 : decode cX8_named 59 = .ok (.tableswitch 82 0 2 #[25, 44, 63], 25) := by decide +kernel
theorem dX8_named_84 : decode cX8_named 84 = .ok (.lload_n 3, 1) := by decide +kernel
theorem dX8_named_85 : decode cX8_named 85 = .ok (.aload_n 0, 1) := by decide +kernel
theorem dX8_named_86 : decode cX8_named 86 = .ok (.getfield 60, 3) := by decide +kernel
theorem dX8_named_89 : decode cX8_named 89 = .ok (.getfield 119, 3) := by decide +kernel
theorem dX8_named_92 : decode cX8_named 92 = .ok (.aload_n 0, 1) := by decide +kernel
theorem dX8_named_93 : decode cX8_named 93 = .ok (.getfield 60, 3) := by decide +kernel
theorem dX8_named_96 : decode cX8_named 96 = .ok (.getfield 123, 3) := by decide +kernel
theorem dX8_named_99 : decode cX8_named 99 = .ok (.invokestatic 126, 3) := by decide +kernel
theorem dX8_named_102 : decode cX8_named 102 = .ok (.ireturn, 1) := by decide +kernel
theorem dX8_named_103 : decode cX8_named 103 = .ok (.lload_n 3, 1) := by decide +kernel
theorem dX8_named_104 : decode cX8_named 104 = .ok (.aload_n 0, 1) := by decide +kernel
theorem dX8_named_105 : decode cX8_named 105 = .ok (.getfield 60, 3) := by decide +kernel
theorem dX8_named_108 : decode cX8_named 108 = .ok (.getfield 130, 3) := by decide +kernel
theorem dX8_named_111 : decode cX8_named 111 = .ok (.aload_n 0, 1) := by decide +kernel
theorem dX8_named_112 : decode cX8_named 112 = .ok (.getfield 60, 3) := by decide +kernel
theorem dX8_named_115 : decode cX8_named 115 = .ok (.getfield 133, 3) := by decide +kernel
theorem dX8_named_118 : decode cX8_named 118 = .ok (.invokestatic 126, 3) := by decide +kernel
theorem dX8_named_121 : decode cX8_named 121 = .ok (.ireturn, 1) := by decide +kernel
theorem dX8_named_122 : decode cX8_named 122 = .ok (.lload_n 3, 1) := by decide +kernel
theorem dX8_named_123 : decode cX8_named 123 = .ok (.aload_n 0, 1) := by decide +kernel
theorem dX8_named_124 : decode cX8_named 124 = .ok (.getfield 60, 3) := by decide +kernel
theorem dX8_named_127 : decode cX8_named 127 = .ok (.getfield 136, 3) := by decide +kernel
theorem dX8_named_130 : decode cX8_named 130 = .ok (.aload_n 0, 1) := by decide +kernel
theorem dX8_named_131 : decode cX8_named 131 = .ok (.getfield 60, 3) := by decide +kernel
theorem dX8_named_134 : decode cX8_named 134 = .ok (.getfield 139, 3) := by decide +kernel
theorem dX8_named_137 : decode cX8_named 137 = .ok (.invokestatic 126, 3) := by decide +kernel
theorem dX8_named_140 : decode cX8_named 140 = .ok (.ireturn, 1) := by decide +kernel
theorem dX8_named_141 : decode cX8_named 141 = .ok (.iconst (-1), 1) := by decide +kernel
theorem dX8_named_142 : decode cX8_named 142 = .ok (.ireturn, 1) := by decide +kernel
theorem dX8_demand_0 : decode cX8_demand 0 = .ok (.aload_n 0, 1) := by decide +kernel
theorem dX8_demand_1 : decode cX8_demand 1 = .ok (.iload_n 1, 1) := by decide +kernel
theorem dX8_demand_2 : decode cX8_demand 2 = .ok (.iload_n 2, 1) := by decide +kernel
theorem dX8_demand_3 : decode cX8_demand 3 = .ok (.invokevirtual 142, 3) := by decide +kernel
theorem dX8_demand_6 : decode cX8_demand 6 = .ok (.ifCond .ne 5, 3) := by decide +kernel
theorem dX8_demand_9 : decode cX8_demand 9 = .ok (.iconst 4, 1) := by decide +kernel
theorem dX8_demand_10 : decode cX8_demand 10 = .ok (.ireturn, 1) := by decide +kernel
theorem dX8_demand_11 : decode cX8_demand 11 = .ok (.aload_n 0, 1) := by decide +kernel
theorem dX8_demand_12 : decode cX8_demand 12 = .ok (.getfield 77, 3) := by decide +kernel
theorem dX8_demand_15 : decode cX8_demand 15 = .ok (.ifCond .eq 5, 3) := by decide +kernel
theorem dX8_demand_18 : decode cX8_demand 18 = .ok (.iconst 5, 1) := by decide +kernel
theorem dX8_demand_19 : decode cX8_demand 19 = .ok (.ireturn, 1) := by decide +kernel
theorem dX8_demand_20 : decode cX8_demand 20 = .ok (.aload_n 0, 1) := by decide +kernel
theorem dX8_demand_21 : decode cX8_demand 21 = .ok (.getfield 47, 3) := by decide +kernel
theorem dX8_demand_24 : decode cX8_demand 24 = .ok (.aload_n 0, 1) := by decide +kernel
theorem dX8_demand_25 : decode cX8_demand 25 = .ok (.getfield 60, 3) := by decide +kernel
theorem dX8_demand_28 : decode cX8_demand 28 = .ok (.iload_n 1, 1) := by decide +kernel
theorem dX8_demand_29 : decode cX8_demand 29 = .ok (.iload_n 2, 1) := by decide +kernel
theorem dX8_demand_30 : decode cX8_demand 30 = .ok (.invokevirtual 146, 3) := by decide +kernel
theorem dX8_demand_33 : decode cX8_demand 33 = .ok (.aload_n 0, 1) := by decide +kernel
theorem dX8_demand_34 : decode cX8_demand 34 = .ok (.aload_n 0, 1) := by decide +kernel
theorem dX8_demand_35 : decode cX8_demand 35 = .ok (.getfield 47, 3) := by decide +kernel
theorem dX8_demand_38 : decode cX8_demand 38 = .ok (.getfield 150, 3) := by decide +kernel
theorem dX8_demand_41 : decode cX8_demand 41 = .ok (.putfield 68, 3) := by decide +kernel
theorem dX8_demand_44 : decode cX8_demand 44 = .ok (.aload_n 0, 1) := by decide +kernel
theorem dX8_demand_45 : decode cX8_demand 45 = .ok (.aload_n 0, 1) := by decide +kernel
theorem dX8_demand_46 : decode cX8_demand 46 = .ok (.getfield 47, 3) := by decide +kernel
theorem dX8_demand_49 : decode cX8_demand 49 = .ok (.getfield 153, 3) := by decide +kernel
theorem dX8_demand_52 : decode cX8_demand 52 = .ok (.putfield 71, 3) := by decide +kernel
theorem dX8_demand_55 : decode cX8_demand 55 = .ok (.aload_n 0, 1) := by decide +kernel
theorem dX8_demand_56 : decode cX8_demand 56 = .ok (.aload_n 0, 1) := by decide +kernel
theorem dX8_demand_57 : decode cX8_demand 57 = .ok (.getfield 47, 3) := by decide +kernel
theorem dX8_demand_60 : decode cX8_demand 60 = .ok (.getfield 156, 3) := by decide +kernel
theorem dX8_demand_63 : decode cX8_demand 63 = .ok (.putfield 74, 3) := by decide +kernel
theorem dX8_demand_66 : decode cX8_demand 66 = .ok (.aload_n 0, 1) := by decide +kernel
theorem dX8_demand_67 : decode cX8_demand 67 = .ok (.getfield 47, 3) := by decide +kernel
theorem dX8_demand_70 : decode cX8_demand 70 = .ok (.getfield 159, 3) := by decide +kernel
theorem dX8_demand_73 : decode cX8_demand 73 = .ok (.ifCond .eq 6, 3) := by decide +kernel
theorem dX8_demand_76 : decode cX8_demand 76 = .ok (.bipush 6, 2) := by decide +kernel
theorem dX8_demand_78 : decode cX8_demand 78 = .ok (.ireturn, 1) := by decide +kernel
theorem dX8_demand_79 : decode cX8_demand 79 = .ok (.aload_n 0, 1) := by decide +kernel
theorem dX8_demand_80 : decode cX8_demand 80 = .ok (.getfield 68, 3) := by decide +kernel
theorem dX8_demand_83 : decode cX8_demand 83 = .ok (.lookupswitch 39 #[(0, 33), (20, 35), (21, 37)], 33) := by decide +kernel
theorem dX8_demand_116 : decode cX8_demand 116 = .ok (.iconst 0, 1) := by decide +kernel
theorem dX8_demand_117 : decode cX8_demand 117 = .ok (.ireturn, 1) := by decide +kernel
theorem dX8_demand_118 : decode cX8_demand 118 = .ok (.iconst 1, 1) := by decide +kernel
theorem dX8_demand_119 : decode cX8_demand 119 = .ok (.ireturn, 1) := by decide +kernel
theorem dX8_demand_120 : decode cX8_demand 120 = .ok (.iconst 2, 1) := by decide +kernel
theorem dX8_demand_121 : decode cX8_demand 121 = .ok (.ireturn, 1) := by decide +kernel
theorem dX8_demand_122 : decode cX8_demand 122 = .ok (.iconst 3, 1) := by decide +kernel
theorem dX8_demand_123 : decode cX8_demand 123 = .ok (.ireturn, 1) := by decide +kernel
theorem dX8_ended_0 : decode cX8_ended 0 = .ok (.iload_n 1, 1) := by decide +kernel
theorem dX8_ended_1 : decode cX8_ended 1 = .ok (.ifCond .ne 8, 3) := by decide +kernel
theorem dX8_ended_4 : decode cX8_ended 4 = .ok (.aload_n 0, 1) := by decide +kernel
theorem dX8_ended_5 : decode cX8_ended 5 = .ok (.getfield 68, 3) := by decide +kernel
theorem dX8_ended_8 : decode cX8_ended 8 = .ok (.ireturn, 1) := by decide +kernel
theorem dX8_ended_9 : decode cX8_ended 9 = .ok (.iload_n 1, 1) := by decide +kernel
theorem dX8_ended_10 : decode cX8_ended 10 = .ok (.iconst 1, 1) := by decide +kernel
theorem dX8_ended_11 : decode cX8_ended 11 = .ok (.if_icmp .ne 10, 3) := by decide +kernel
theorem dX8_ended_14 : decode cX8_ended 14 = .ok (.aload_n 0, 1) := by decide +kernel
theorem dX8_ended_15 : decode cX8_ended 15 = .ok (.getfield 71, 3) := by decide +kernel
theorem dX8_ended_18 : decode cX8_ended 18 = .ok (.goto 4, 3) := by decide +kernel
theorem dX8_ended_21 : decode cX8_ended 21 = .ok (.iconst 0, 1) := by decide +kernel
theorem dX8_ended_22 : decode cX8_ended 22 = .ok (.ireturn, 1) := by decide +kernel
theorem dX8_plan_0 : decode cX8_plan 0 = .ok (.aload_n 0, 1) := by decide +kernel
theorem dX8_plan_1 : decode cX8_plan 1 = .ok (.iload_n 1, 1) := by decide +kernel
theorem dX8_plan_2 : decode cX8_plan 2 = .ok (.invokevirtual 162, 3) := by decide +kernel
theorem dX8_plan_5 : decode cX8_plan 5 = .ok (.ifCond .eq 13, 3) := by decide +kernel
theorem dX8_plan_8 : decode cX8_plan 8 = .ok (.iload_n 2, 1) := by decide +kernel
theorem dX8_plan_9 : decode cX8_plan 9 = .ok (.ifCond .lt 9, 3) := by decide +kernel
theorem dX8_plan_12 : decode cX8_plan 12 = .ok (.iload_n 2, 1) := by decide +kernel
theorem dX8_plan_13 : decode cX8_plan 13 = .ok (.bipush 30, 2) := by decide +kernel
theorem dX8_plan_15 : decode cX8_plan 15 = .ok (.if_icmp .le 5, 3) := by decide +kernel
theorem dX8_plan_18 : decode cX8_plan 18 = .ok (.iconst 0, 1) := by decide +kernel
theorem dX8_plan_19 : decode cX8_plan 19 = .ok (.ireturn, 1) := by decide +kernel
theorem dX8_plan_20 : decode cX8_plan 20 = .ok (.aload_n 0, 1) := by decide +kernel
theorem dX8_plan_21 : decode cX8_plan 21 = .ok (.getfield 28, 3) := by decide +kernel
theorem dX8_plan_24 : decode cX8_plan 24 = .ok (.iload_n 1, 1) := by decide +kernel
theorem dX8_plan_25 : decode cX8_plan 25 = .ok (.iload_n 2, 1) := by decide +kernel
theorem dX8_plan_26 : decode cX8_plan 26 = .ok (.invokevirtual 166, 3) := by decide +kernel
theorem dX8_plan_29 : decode cX8_plan 29 = .ok (.ifCond .eq 5, 3) := by decide +kernel
theorem dX8_plan_32 : decode cX8_plan 32 = .ok (.iconst 1, 1) := by decide +kernel
theorem dX8_plan_33 : decode cX8_plan 33 = .ok (.ireturn, 1) := by decide +kernel
theorem dX8_plan_34 : decode cX8_plan 34 = .ok (.aload_n 0, 1) := by decide +kernel
theorem dX8_plan_35 : decode cX8_plan 35 = .ok (.getfield 28, 3) := by decide +kernel
theorem dX8_plan_38 : decode cX8_plan 38 = .ok (.getfield 169, 3) := by decide +kernel
theorem dX8_plan_41 : decode cX8_plan 41 = .ok (.bipush 40, 2) := by decide +kernel
theorem dX8_plan_43 : decode cX8_plan 43 = .ok (.if_icmp .lt 5, 3) := by decide +kernel
theorem dX8_plan_46 : decode cX8_plan 46 = .ok (.iconst 0, 1) := by decide +kernel
theorem dX8_plan_47 : decode cX8_plan 47 = .ok (.ireturn, 1) := by decide +kernel
theorem dX8_plan_48 : decode cX8_plan 48 = .ok (.aload_n 0, 1) := by decide +kernel
theorem dX8_plan_49 : decode cX8_plan 49 = .ok (.getfield 28, 3) := by decide +kernel
theorem dX8_plan_52 : decode cX8_plan 52 = .ok (.iload_n 1, 1) := by decide +kernel
theorem dX8_plan_53 : decode cX8_plan 53 = .ok (.iload_n 2, 1) := by decide +kernel
theorem dX8_plan_54 : decode cX8_plan 54 = .ok (.invokevirtual 172, 3) := by decide +kernel
theorem dX8_plan_57 : decode cX8_plan 57 = .ok (.iconst 1, 1) := by decide +kernel
theorem dX8_plan_58 : decode cX8_plan 58 = .ok (.ireturn, 1) := by decide +kernel
theorem dX8_clear_0 : decode cX8_clear 0 = .ok (.aload_n 0, 1) := by decide +kernel
theorem dX8_clear_1 : decode cX8_clear 1 = .ok (.getfield 28, 3) := by decide +kernel
theorem dX8_clear_4 : decode cX8_clear 4 = .ok (.invokevirtual 176, 3) := by decide +kernel
theorem dX8_clear_7 : decode cX8_clear 7 = .ok (.return_, 1) := by decide +kernel
theorem dX8_heal_0 : decode cX8_heal 0 = .ok (.aload_n 0, 1) := by decide +kernel
theorem dX8_heal_1 : decode cX8_heal 1 = .ok (.iload_n 1, 1) := by decide +kernel
theorem dX8_heal_2 : decode cX8_heal 2 = .ok (.invokevirtual 162, 3) := by decide +kernel
theorem dX8_heal_5 : decode cX8_heal 5 = .ok (.ifCond .eq 10, 3) := by decide +kernel
theorem dX8_heal_8 : decode cX8_heal 8 = .ok (.aload_n 0, 1) := by decide +kernel
theorem dX8_heal_9 : decode cX8_heal 9 = .ok (.getfield 77, 3) := by decide +kernel
theorem dX8_heal_12 : decode cX8_heal 12 = .ok (.ifCond .eq 5, 3) := by decide +kernel
theorem dX8_heal_15 : decode cX8_heal 15 = .ok (.iconst (-1), 1) := by decide +kernel
theorem dX8_heal_16 : decode cX8_heal 16 = .ok (.ireturn, 1) := by decide +kernel
theorem dX8_heal_17 : decode cX8_heal 17 = .ok (.iconst 0, 1) := by decide +kernel
theorem dX8_heal_18 : decode cX8_heal 18 = .ok (.istore_n 2, 1) := by decide +kernel
theorem dX8_heal_19 : decode cX8_heal 19 = .ok (.iload_n 2, 1) := by decide +kernel
theorem dX8_heal_20 : decode cX8_heal 20 = .ok (.aload_n 0, 1) := by decide +kernel
theorem dX8_heal_21 : decode cX8_heal 21 = .ok (.getfield 60, 3) := by decide +kernel
theorem dX8_heal_24 : decode cX8_heal 24 = .ok (.getfield 133, 3) := by decide +kernel
theorem dX8_heal_27 : decode cX8_heal 27 = .ok (.if_icmp .ge 34, 3) := by decide +kernel
theorem dX8_heal_30 : decode cX8_heal 30 = .ok (.aload_n 0, 1) := by decide +kernel
theorem dX8_heal_31 : decode cX8_heal 31 = .ok (.iload_n 2, 1) := by decide +kernel
theorem dX8_heal_32 : decode cX8_heal 32 = .ok (.iload_n 1, 1) := by decide +kernel
theorem dX8_heal_33 : decode cX8_heal 33 = .ok (.invokevirtual 179, 3) := by decide +kernel
theorem dX8_heal_36 : decode cX8_heal 36 = .ok (.ifCond .eq 19, 3) := by decide +kernel
theorem dX8_heal_39 : decode cX8_heal 39 = .ok (.aload_n 0, 1) := by decide +kernel
theorem dX8_heal_40 : decode cX8_heal 40 = .ok (.getfield 28, 3) := by decide +kernel
theorem dX8_heal_43 : decode cX8_heal 43 = .ok (.getfield 182, 3) := by decide +kernel
theorem dX8_heal_46 : decode cX8_heal 46 = .ok (.iload_n 2, 1) := by decide +kernel
theorem dX8_heal_47 : decode cX8_heal 47 = .ok (.iaload, 1) := by decide +kernel
theorem dX8_heal_48 : decode cX8_heal 48 = .ok (.bipush 30, 2) := by decide +kernel
theorem dX8_heal_50 : decode cX8_heal 50 = .ok (.if_icmp .lt 5, 3) := by decide +kernel
theorem dX8_heal_53 : decode cX8_heal 53 = .ok (.iconst (-1), 1) := by decide +kernel
theorem dX8_heal_54 : decode cX8_heal 54 = .ok (.ireturn, 1) := by decide +kernel
theorem dX8_heal_55 : decode cX8_heal 55 = .ok (.iinc 2 1, 3) := by decide +kernel
theorem dX8_heal_58 : decode cX8_heal 58 = .ok (.goto (-39), 3) := by decide +kernel
theorem dX8_heal_61 : decode cX8_heal 61 = .ok (.iconst 0, 1) := by decide +kernel
theorem dX8_heal_62 : decode cX8_heal 62 = .ok (.istore_n 2, 1) := by decide +kernel
theorem dX8_heal_63 : decode cX8_heal 63 = .ok (.iconst 0, 1) := by decide +kernel
theorem dX8_heal_64 : decode cX8_heal 64 = .ok (.istore_n 3, 1) := by decide +kernel
theorem dX8_heal_65 : decode cX8_heal 65 = .ok (.iload_n 3, 1) := by decide +kernel
theorem dX8_heal_66 : decode cX8_heal 66 = .ok (.aload_n 0, 1) := by decide +kernel
theorem dX8_heal_67 : decode cX8_heal 67 = .ok (.getfield 60, 3) := by decide +kernel
theorem dX8_heal_70 : decode cX8_heal 70 = .ok (.getfield 133, 3) := by decide +kernel
theorem dX8_heal_73 : decode cX8_heal 73 = .ok (.if_icmp .ge 29, 3) := by decide +kernel
theorem dX8_heal_76 : decode cX8_heal 76 = .ok (.aload_n 0, 1) := by decide +kernel
theorem dX8_heal_77 : decode cX8_heal 77 = .ok (.iload_n 3, 1) := by decide +kernel
theorem dX8_heal_78 : decode cX8_heal 78 = .ok (.iload_n 1, 1) := by decide +kernel
theorem dX8_heal_79 : decode cX8_heal 79 = .ok (.invokevirtual 179, 3) := by decide +kernel
theorem dX8_heal_82 : decode cX8_heal 82 = .ok (.ifCond .eq 14, 3) := by decide +kernel
theorem dX8_heal_85 : decode cX8_heal 85 = .ok (.aload_n 0, 1) := by decide +kernel
theorem dX8_heal_86 : decode cX8_heal 86 = .ok (.getfield 28, 3) := by decide +kernel
theorem dX8_heal_89 : decode cX8_heal 89 = .ok (.iload_n 3, 1) := by decide +kernel
theorem dX8_heal_90 : decode cX8_heal 90 = .ok (.invokevirtual 185, 3) := by decide +kernel
theorem dX8_heal_93 : decode cX8_heal 93 = .ok (.iinc 2 1, 3) := by decide +kernel
theorem dX8_heal_96 : decode cX8_heal 96 = .ok (.iinc 3 1, 3) := by decide +kernel
theorem dX8_heal_99 : decode cX8_heal 99 = .ok (.goto (-34), 3) := by decide +kernel
theorem dX8_heal_102 : decode cX8_heal 102 = .ok (.iload_n 2, 1) := by decide +kernel
theorem dX8_heal_103 : decode cX8_heal 103 = .ok (.ireturn, 1) := by decide +kernel
theorem dX8_close_0 : decode cX8_close 0 = .ok (.aload_n 0, 1) := by decide +kernel
theorem dX8_close_1 : decode cX8_close 1 = .ok (.getfield 77, 3) := by decide +kernel
theorem dX8_close_4 : decode cX8_close 4 = .ok (.ifCond .eq 5, 3) := by decide +kernel
theorem dX8_close_7 : decode cX8_close 7 = .ok (.iconst (-1), 1) := by decide +kernel
theorem dX8_close_8 : decode cX8_close 8 = .ok (.ireturn, 1) := by decide +kernel
theorem dX8_close_9 : decode cX8_close 9 = .ok (.iconst 0, 1) := by decide +kernel
theorem dX8_close_10 : decode cX8_close 10 = .ok (.istore_n 1, 1) := by decide +kernel
theorem dX8_close_11 : decode cX8_close 11 = .ok (.aload_n 0, 1) := by decide +kernel
theorem dX8_close_12 : decode cX8_close 12 = .ok (.getfield 38, 3) := by decide +kernel
theorem dX8_close_15 : decode cX8_close 15 = .ok (.getfield 188, 3) := by decide +kernel
theorem dX8_close_18 : decode cX8_close 18 = .ok (.iconst 1, 1) := by decide +kernel
theorem dX8_close_19 : decode cX8_close 19 = .ok (.isub, 1) := by decide +kernel
theorem dX8_close_20 : decode cX8_close 20 = .ok (.istore_n 2, 1) := by decide +kernel
theorem dX8_close_21 : decode cX8_close 21 = .ok (.iload_n 2, 1) := by decide +kernel
theorem dX8_close_22 : decode cX8_close 22 = .ok (.ifCond .lt 77, 3) := by decide +kernel
theorem dX8_close_25 : decode cX8_close 25 = .ok (.aload_n 0, 1) := by decide +kernel
theorem dX8_close_26 : decode cX8_close 26 = .ok (.getfield 38, 3) := by decide +kernel
theorem dX8_close_29 : decode cX8_close 29 = .ok (.iload_n 2, 1) := by decide +kernel
theorem dX8_close_30 : decode cX8_close 30 = .ok (.iconst 0, 1) := by decide +kernel
theorem dX8_close_31 : decode cX8_close 31 = .ok (.invokevirtual 191, 3) := by decide +kernel
theorem dX8_close_34 : decode cX8_close 34 = .ok (.istore_n 3, 1) := by decide +kernel
theorem dX8_close_35 : decode cX8_close 35 = .ok (.aload_n 0, 1) := by decide +kernel
theorem dX8_close_36 : decode cX8_close 36 = .ok (.iload_n 3, 1) := by decide +kernel
theorem dX8_close_37 : decode cX8_close 37 = .ok (.invokevirtual 162, 3) := by decide +kernel
theorem dX8_close_40 : decode cX8_close 40 = .ok (.ifCond .eq 53, 3) := by decide +kernel
theorem dX8_close_43 : decode cX8_close 43 = .ok (.aload_n 0, 1) := by decide +kernel
theorem dX8_close_44 : decode cX8_close 44 = .ok (.getfield 28, 3) := by decide +kernel
theorem dX8_close_47 : decode cX8_close 47 = .ok (.getfield 195, 3) := by decide +kernel
theorem dX8_close_50 : decode cX8_close 50 = .ok (.iload_n 3, 1) := by decide +kernel
theorem dX8_close_51 : decode cX8_close 51 = .ok (.iaload, 1) := by decide +kernel
theorem dX8_close_52 : decode cX8_close 52 = .ok (.iconst 2, 1) := by decide +kernel
theorem dX8_close_53 : decode cX8_close 53 = .ok (.if_icmp .ne 40, 3) := by decide +kernel
theorem dX8_close_56 : decode cX8_close 56 = .ok (.aload_n 0, 1) := by decide +kernel
theorem dX8_close_57 : decode cX8_close 57 = .ok (.getfield 47, 3) := by decide +kernel
theorem dX8_close_60 : decode cX8_close 60 = .ok (.aload_n 0, 1) := by decide +kernel
theorem dX8_close_61 : decode cX8_close 61 = .ok (.getfield 60, 3) := by decide +kernel
theorem dX8_close_64 : decode cX8_close 64 = .ok (.iload_n 3, 1) := by decide +kernel
theorem dX8_close_65 : decode cX8_close 65 = .ok (.invokevirtual 198, 3) := by decide +kernel
theorem dX8_close_68 : decode cX8_close 68 = .ok (.istore 4, 2) := by decide +kernel
theorem dX8_close_70 : decode cX8_close 70 = .ok (.aload_n 0, 1) := by decide +kernel
theorem dX8_close_71 : decode cX8_close 71 = .ok (.getfield 28, 3) := by decide +kernel
theorem dX8_close_74 : decode cX8_close 74 = .ok (.getfield 195, 3) := by decide +kernel
theorem dX8_close_77 : decode cX8_close 77 = .ok (.iload_n 3, 1) := by decide +kernel
theorem dX8_close_78 : decode cX8_close 78 = .ok (.iconst 4, 1) := by decide +kernel
theorem dX8_close_79 : decode cX8_close 79 = .ok (.iastore, 1) := by decide +kernel
theorem dX8_close_80 : decode cX8_close 80 = .ok (.aload_n 0, 1) := by decide +kernel
theorem dX8_close_81 : decode cX8_close 81 = .ok (.getfield 38, 3) := by decide +kernel
theorem dX8_close_84 : decode cX8_close 84 = .ok (.iload_n 3, 1) := by decide +kernel
theorem dX8_close_85 : decode cX8_close 85 = .ok (.iload 4, 2) := by decide +kernel
theorem dX8_close_87 : decode cX8_close 87 = .ok (.invokevirtual 202, 3) := by decide +kernel
theorem dX8_close_90 : decode cX8_close 90 = .ok (.iinc 1 1, 3) := by decide +kernel
theorem dX8_close_93 : decode cX8_close 93 = .ok (.iinc 2 (-1), 3) := by decide +kernel
theorem dX8_close_96 : decode cX8_close 96 = .ok (.goto (-75), 3) := by decide +kernel
theorem dX8_close_99 : decode cX8_close 99 = .ok (.aload_n 0, 1) := by decide +kernel
theorem dX8_close_100 : decode cX8_close 100 = .ok (.iconst 1, 1) := by decide +kernel
theorem dX8_close_101 : decode cX8_close 101 = .ok (.putfield 77, 3) := by decide +kernel
theorem dX8_close_104 : decode cX8_close 104 = .ok (.iload_n 1, 1) := by decide +kernel
theorem dX8_close_105 : decode cX8_close 105 = .ok (.ireturn, 1) := by decide +kernel
theorem dX8_beat_0 : decode cX8_beat 0 = .ok (.iload_n 1, 1) := by decide +kernel
theorem dX8_beat_1 : decode cX8_beat 1 = .ok (.ifCond .lt 10, 3) := by decide +kernel
theorem dX8_beat_4 : decode cX8_beat 4 = .ok (.iload_n 1, 1) := by decide +kernel
theorem dX8_beat_5 : decode cX8_beat 5 = .ok (.sipush 1000, 3) := by decide +kernel
theorem dX8_beat_8 : decode cX8_beat 8 = .ok (.if_icmp .le 5, 3) := by decide +kernel
theorem dX8_beat_11 : decode cX8_beat 11 = .ok (.iconst (-1), 1) := by decide +kernel
theorem dX8_beat_12 : decode cX8_beat 12 = .ok (.ireturn, 1) := by decide +kernel
theorem dX8_beat_13 : decode cX8_beat 13 = .ok (.iconst 0, 1) := by decide +kernel
theorem dX8_beat_14 : decode cX8_beat 14 = .ok (.istore_n 2, 1) := by decide +kernel
theorem dX8_beat_15 : decode cX8_beat 15 = .ok (.iload_n 2, 1) := by decide +kernel
theorem dX8_beat_16 : decode cX8_beat 16 = .ok (.aload_n 0, 1) := by decide +kernel
theorem dX8_beat_17 : decode cX8_beat 17 = .ok (.getfield 60, 3) := by decide +kernel
theorem dX8_beat_20 : decode cX8_beat 20 = .ok (.getfield 123, 3) := by decide +kernel
theorem dX8_beat_23 : decode cX8_beat 23 = .ok (.if_icmp .ge 83, 3) := by decide +kernel
theorem dX8_beat_26 : decode cX8_beat 26 = .ok (.aload_n 0, 1) := by decide +kernel
theorem dX8_beat_27 : decode cX8_beat 27 = .ok (.getfield 28, 3) := by decide +kernel
theorem dX8_beat_30 : decode cX8_beat 30 = .ok (.getfield 205, 3) := by decide +kernel
theorem dX8_beat_33 : decode cX8_beat 33 = .ok (.iload_n 2, 1) := by decide +kernel
theorem dX8_beat_34 : decode cX8_beat 34 = .ok (.iaload, 1) := by decide +kernel
theorem dX8_beat_35 : decode cX8_beat 35 = .ok (.i2l, 1) := by decide +kernel
theorem dX8_beat_36 : decode cX8_beat 36 = .ok (.aload_n 0, 1) := by decide +kernel
theorem dX8_beat_37 : decode cX8_beat 37 = .ok (.getfield 28, 3) := by decide +kernel
theorem dX8_beat_40 : decode cX8_beat 40 = .ok (.getfield 208, 3) := by decide +kernel
theorem dX8_beat_43 : decode cX8_beat 43 = .ok (.iload_n 2, 1) := by decide +kernel
theorem dX8_beat_44 : decode cX8_beat 44 = .ok (.iaload, 1) := by decide +kernel
theorem dX8_beat_45 : decode cX8_beat 45 = .ok (.i2l, 1) := by decide +kernel
theorem dX8_beat_46 : decode cX8_beat 46 = .ok (.lsub, 1) := by decide +kernel
theorem dX8_beat_47 : decode cX8_beat 47 = .ok (.lstore_n 3, 1) := by decide +kernel
theorem dX8_beat_48 : decode cX8_beat 48 = .ok (.aload_n 0, 1) := by decide +kernel
theorem dX8_beat_49 : decode cX8_beat 49 = .ok (.getfield 60, 3) := by decide +kernel
theorem dX8_beat_52 : decode cX8_beat 52 = .ok (.getfield 211, 3) := by decide +kernel
theorem dX8_beat_55 : decode cX8_beat 55 = .ok (.iload_n 2, 1) := by decide +kernel
theorem dX8_beat_56 : decode cX8_beat 56 = .ok (.iaload, 1) := by decide +kernel
theorem dX8_beat_57 : decode cX8_beat 57 = .ok (.i2l, 1) := by decide +kernel
theorem dX8_beat_58 : decode cX8_beat 58 = .ok (.iload_n 1, 1) := by decide +kernel
theorem dX8_beat_59 : decode cX8_beat 59 = .ok (.i2l, 1) := by decide +kernel
theorem dX8_beat_60 : decode cX8_beat 60 = .ok (.lmul, 1) := by decide +kernel
theorem dX8_beat_61 : decode cX8_beat 61 = .ok (.lstore 5, 2) := by decide +kernel
theorem dX8_beat_63 : decode cX8_beat 63 = .ok (.lload 5, 2) := by decide +kernel
theorem dX8_beat_65 : decode cX8_beat 65 = .ok (.lneg, 1) := by decide +kernel
theorem dX8_beat_66 : decode cX8_beat 66 = .ok (.lload 5, 2) := by decide +kernel
theorem dX8_beat_68 : decode cX8_beat 68 = .ok (.lload_n 3, 1) := by decide +kernel
theorem dX8_beat_69 : decode cX8_beat 69 = .ok (.invokestatic 214, 3) := by decide +kernel
theorem dX8_beat_72 : decode cX8_beat 72 = .ok (.invokestatic 220, 3) := by decide +kernel
theorem dX8_beat_75 : decode cX8_beat 75 = .ok (.lstore 7, 2) := by decide +kernel
theorem dX8_beat_77 : decode cX8_beat 77 = .ok (.aload_n 0, 1) := by decide +kernel
theorem dX8_beat_78 : decode cX8_beat 78 = .ok (.getfield 28, 3) := by decide +kernel
theorem dX8_beat_81 : decode cX8_beat 81 = .ok (.getfield 208, 3) := by decide +kernel
theorem dX8_beat_84 : decode cX8_beat 84 = .ok (.iload_n 2, 1) := by decide +kernel
theorem dX8_beat_85 : decode cX8_beat 85 = .ok (.aload_n 0, 1) := by decide +kernel
theorem dX8_beat_86 : decode cX8_beat 86 = .ok (.getfield 28, 3) := by decide +kernel
theorem dX8_beat_89 : decode cX8_beat 89 = .ok (.getfield 208, 3) := by decide +kernel
theorem dX8_beat_92 : decode cX8_beat 92 = .ok (.iload_n 2, 1) := by decide +kernel
theorem dX8_beat_93 : decode cX8_beat 93 = .ok (.iaload, 1) := by decide +kernel
theorem dX8_beat_94 : decode cX8_beat 94 = .ok (.i2l, 1) := by decide +kernel
theorem dX8_beat_95 : decode cX8_beat 95 = .ok (.lload 7, 2) := by decide +kernel
theorem dX8_beat_97 : decode cX8_beat 97 = .ok (.ladd, 1) := by decide +kernel
theorem dX8_beat_98 : decode cX8_beat 98 = .ok (.l2i, 1) := by decide +kernel
theorem dX8_beat_99 : decode cX8_beat 99 = .ok (.iastore, 1) := by decide +kernel
theorem dX8_beat_100 : decode cX8_beat 100 = .ok (.iinc 2 1, 3) := by decide +kernel
theorem dX8_beat_103 : decode cX8_beat 103 = .ok (.goto (-88), 3) := by decide +kernel
theorem dX8_beat_106 : decode cX8_beat 106 = .ok (.aload_n 0, 1) := by decide +kernel
theorem dX8_beat_107 : decode cX8_beat 107 = .ok (.getfield 28, 3) := by decide +kernel
theorem dX8_beat_110 : decode cX8_beat 110 = .ok (.dup, 1) := by decide +kernel
theorem dX8_beat_111 : decode cX8_beat 111 = .ok (.getfield 223, 3) := by decide +kernel
theorem dX8_beat_114 : decode cX8_beat 114 = .ok (.iload_n 1, 1) := by decide +kernel
theorem dX8_beat_115 : decode cX8_beat 115 = .ok (.iadd, 1) := by decide +kernel
theorem dX8_beat_116 : decode cX8_beat 116 = .ok (.putfield 223, 3) := by decide +kernel
theorem dX8_beat_119 : decode cX8_beat 119 = .ok (.aload_n 0, 1) := by decide +kernel
theorem dX8_beat_120 : decode cX8_beat 120 = .ok (.getfield 28, 3) := by decide +kernel
theorem dX8_beat_123 : decode cX8_beat 123 = .ok (.getfield 223, 3) := by decide +kernel
theorem dX8_beat_126 : decode cX8_beat 126 = .ok (.ireturn, 1) := by decide +kernel
theorem dX8_foresee_0 : decode cX8_foresee 0 = .ok (.aload_n 0, 1) := by decide +kernel
theorem dX8_foresee_1 : decode cX8_foresee 1 = .ok (.iload_n 1, 1) := by decide +kernel
theorem dX8_foresee_2 : decode cX8_foresee 2 = .ok (.iload_n 2, 1) := by decide +kernel
theorem dX8_foresee_3 : decode cX8_foresee 3 = .ok (.invokevirtual 142, 3) := by decide +kernel
theorem dX8_foresee_6 : decode cX8_foresee 6 = .ok (.ifCond .eq 10, 3) := by decide +kernel
theorem dX8_foresee_9 : decode cX8_foresee 9 = .ok (.aload_n 0, 1) := by decide +kernel
theorem dX8_foresee_10 : decode cX8_foresee 10 = .ok (.getfield 77, 3) := by decide +kernel
theorem dX8_foresee_13 : decode cX8_foresee 13 = .ok (.ifCond .eq 5, 3) := by decide +kernel
theorem dX8_foresee_16 : decode cX8_foresee 16 = .ok (.iconst (-1), 1) := by decide +kernel
theorem dX8_foresee_17 : decode cX8_foresee 17 = .ok (.ireturn, 1) := by decide +kernel
theorem dX8_foresee_18 : decode cX8_foresee 18 = .ok (.aload_n 0, 1) := by decide +kernel
theorem dX8_foresee_19 : decode cX8_foresee 19 = .ok (.getfield 32, 3) := by decide +kernel
theorem dX8_foresee_22 : decode cX8_foresee 22 = .ok (.aload_n 0, 1) := by decide +kernel
theorem dX8_foresee_23 : decode cX8_foresee 23 = .ok (.getfield 28, 3) := by decide +kernel
theorem dX8_foresee_26 : decode cX8_foresee 26 = .ok (.invokevirtual 226, 3) := by decide +kernel
theorem dX8_foresee_29 : decode cX8_foresee 29 = .ok (.aload_n 0, 1) := by decide +kernel
theorem dX8_foresee_30 : decode cX8_foresee 30 = .ok (.getfield 38, 3) := by decide +kernel
theorem dX8_foresee_33 : decode cX8_foresee 33 = .ok (.getfield 188, 3) := by decide +kernel
theorem dX8_foresee_36 : decode cX8_foresee 36 = .ok (.istore_n 3, 1) := by decide +kernel
theorem dX8_foresee_37 : decode cX8_foresee 37 = .ok (.aload_n 0, 1) := by decide +kernel
theorem dX8_foresee_38 : decode cX8_foresee 38 = .ok (.getfield 38, 3) := by decide +kernel
theorem dX8_foresee_41 : decode cX8_foresee 41 = .ok (.getfield 230, 3) := by decide +kernel
theorem dX8_foresee_44 : decode cX8_foresee 44 = .ok (.istore 4, 2) := by decide +kernel
theorem dX8_foresee_46 : decode cX8_foresee 46 = .ok (.aload_n 0, 1) := by decide +kernel
theorem dX8_foresee_47 : decode cX8_foresee 47 = .ok (.getfield 38, 3) := by decide +kernel
theorem dX8_foresee_50 : decode cX8_foresee 50 = .ok (.getfield 233, 3) := by decide +kernel
theorem dX8_foresee_53 : decode cX8_foresee 53 = .ok (.istore 5, 2) := by decide +kernel
theorem dX8_foresee_55 : decode cX8_foresee 55 = .ok (.aload_n 0, 1) := by decide +kernel
theorem dX8_foresee_56 : decode cX8_foresee 56 = .ok (.getfield 47, 3) := by decide +kernel
theorem dX8_foresee_59 : decode cX8_foresee 59 = .ok (.aload_n 0, 1) := by decide +kernel
theorem dX8_foresee_60 : decode cX8_foresee 60 = .ok (.getfield 60, 3) := by decide +kernel
theorem dX8_foresee_63 : decode cX8_foresee 63 = .ok (.iload_n 1, 1) := by decide +kernel
theorem dX8_foresee_64 : decode cX8_foresee 64 = .ok (.iload_n 2, 1) := by decide +kernel
theorem dX8_foresee_65 : decode cX8_foresee 65 = .ok (.invokevirtual 146, 3) := by decide +kernel
theorem dX8_foresee_68 : decode cX8_foresee 68 = .ok (.aload_n 0, 1) := by decide +kernel
theorem dX8_foresee_69 : decode cX8_foresee 69 = .ok (.iconst 0, 1) := by decide +kernel
theorem dX8_foresee_70 : decode cX8_foresee 70 = .ok (.putfield 64, 3) := by decide +kernel
theorem dX8_foresee_73 : decode cX8_foresee 73 = .ok (.iload_n 3, 1) := by decide +kernel
theorem dX8_foresee_74 : decode cX8_foresee 74 = .ok (.istore 6, 2) := by decide +kernel
theorem dX8_foresee_76 : decode cX8_foresee 76 = .ok (.iload 6, 2) := by decide +kernel
theorem dX8_foresee_78 : decode cX8_foresee 78 = .ok (.aload_n 0, 1) := by decide +kernel
theorem dX8_foresee_79 : decode cX8_foresee 79 = .ok (.getfield 38, 3) := by decide +kernel
theorem dX8_foresee_82 : decode cX8_foresee 82 = .ok (.getfield 188, 3) := by decide +kernel
theorem dX8_foresee_85 : decode cX8_foresee 85 = .ok (.if_icmp .ge 47, 3) := by decide +kernel
theorem dX8_foresee_88 : decode cX8_foresee 88 = .ok (.aload_n 0, 1) := by decide +kernel
theorem dX8_foresee_89 : decode cX8_foresee 89 = .ok (.getfield 64, 3) := by decide +kernel
theorem dX8_foresee_92 : decode cX8_foresee 92 = .ok (.bipush 24, 2) := by decide +kernel
theorem dX8_foresee_94 : decode cX8_foresee 94 = .ok (.if_icmp .ge 38, 3) := by decide +kernel
theorem dX8_foresee_97 : decode cX8_foresee 97 = .ok (.aload_n 0, 1) := by decide +kernel
theorem dX8_foresee_98 : decode cX8_foresee 98 = .ok (.getfield 51, 3) := by decide +kernel
theorem dX8_foresee_101 : decode cX8_foresee 101 = .ok (.aload_n 0, 1) := by decide +kernel
theorem dX8_foresee_102 : decode cX8_foresee 102 = .ok (.getfield 64, 3) := by decide +kernel
theorem dX8_foresee_105 : decode cX8_foresee 105 = .ok (.aload_n 0, 1) := by decide +kernel
theorem dX8_foresee_106 : decode cX8_foresee 106 = .ok (.getfield 38, 3) := by decide +kernel
theorem dX8_foresee_109 : decode cX8_foresee 109 = .ok (.iload 6, 2) := by decide +kernel
theorem dX8_foresee_111 : decode cX8_foresee 111 = .ok (.iconst 0, 1) := by decide +kernel
theorem dX8_foresee_112 : decode cX8_foresee 112 = .ok (.invokevirtual 191, 3) := by decide +kernel
theorem dX8_foresee_115 : decode cX8_foresee 115 = .ok (.iastore, 1) := by decide +kernel
theorem dX8_foresee_116 : decode cX8_foresee 116 = .ok (.aload_n 0, 1) := by decide +kernel
theorem dX8_foresee_117 : decode cX8_foresee 117 = .ok (.dup, 1) := by decide +kernel
theorem dX8_foresee_118 : decode cX8_foresee 118 = .ok (.getfield 64, 3) := by decide +kernel
theorem dX8_foresee_121 : decode cX8_foresee 121 = .ok (.iconst 1, 1) := by decide +kernel
theorem dX8_foresee_122 : decode cX8_foresee 122 = .ok (.iadd, 1) := by decide +kernel
theorem dX8_foresee_123 : decode cX8_foresee 123 = .ok (.putfield 64, 3) := by decide +kernel
theorem dX8_foresee_126 : decode cX8_foresee 126 = .ok (.iinc 6 1, 3) := by decide +kernel
theorem dX8_foresee_129 : decode cX8_foresee 129 = .ok (.goto (-53), 3) := by decide +kernel
theorem dX8_foresee_132 : decode cX8_foresee 132 = .ok (.aload_n 0, 1) := by decide +kernel
theorem dX8_foresee_133 : decode cX8_foresee 133 = .ok (.getfield 28, 3) := by decide +kernel
theorem dX8_foresee_136 : decode cX8_foresee 136 = .ok (.aload_n 0, 1) := by decide +kernel
theorem dX8_foresee_137 : decode cX8_foresee 137 = .ok (.getfield 32, 3) := by decide +kernel
theorem dX8_foresee_140 : decode cX8_foresee 140 = .ok (.invokevirtual 226, 3) := by decide +kernel
theorem dX8_foresee_143 : decode cX8_foresee 143 = .ok (.aload_n 0, 1) := by decide +kernel
theorem dX8_foresee_144 : decode cX8_foresee 144 = .ok (.getfield 38, 3) := by decide +kernel
theorem dX8_foresee_147 : decode cX8_foresee 147 = .ok (.iload_n 3, 1) := by decide +kernel
theorem dX8_foresee_148 : decode cX8_foresee 148 = .ok (.iload 4, 2) := by decide +kernel
theorem dX8_foresee_150 : decode cX8_foresee 150 = .ok (.iload 5, 2) := by decide +kernel
theorem dX8_foresee_152 : decode cX8_foresee 152 = .ok (.invokevirtual 236, 3) := by decide +kernel
theorem dX8_foresee_155 : decode cX8_foresee 155 = .ok (.aload_n 0, 1) := by decide +kernel
theorem dX8_foresee_156 : decode cX8_foresee 156 = .ok (.getfield 64, 3) := by decide +kernel
theorem dX8_foresee_159 : decode cX8_foresee 159 = .ok (.ireturn, 1) := by decide +kernel
theorem dX8_foreseen_0 : decode cX8_foreseen 0 = .ok (.iload_n 1, 1) := by decide +kernel
theorem dX8_foreseen_1 : decode cX8_foreseen 1 = .ok (.ifCond .lt 11, 3) := by decide +kernel
theorem dX8_foreseen_4 : decode cX8_foreseen 4 = .ok (.iload_n 1, 1) := by decide +kernel
theorem dX8_foreseen_5 : decode cX8_foreseen 5 = .ok (.aload_n 0, 1) := by decide +kernel
theorem dX8_foreseen_6 : decode cX8_foreseen 6 = .ok (.getfield 64, 3) := by decide +kernel
theorem dX8_foreseen_9 : decode cX8_foreseen 9 = .ok (.if_icmp .lt 7, 3) := by decide +kernel
theorem dX8_foreseen_12 : decode cX8_foreseen 12 = .ok (.iconst (-1), 1) := by decide +kernel
theorem dX8_foreseen_13 : decode cX8_foreseen 13 = .ok (.goto 9, 3) := by decide +kernel
theorem dX8_foreseen_16 : decode cX8_foreseen 16 = .ok (.aload_n 0, 1) := by decide +kernel
theorem dX8_foreseen_17 : decode cX8_foreseen 17 = .ok (.getfield 51, 3) := by decide +kernel
theorem dX8_foreseen_20 : decode cX8_foreseen 20 = .ok (.iload_n 1, 1) := by decide +kernel
theorem dX8_foreseen_21 : decode cX8_foreseen 21 = .ok (.iaload, 1) := by decide +kernel
theorem dX8_foreseen_22 : decode cX8_foreseen 22 = .ok (.ireturn, 1) := by decide +kernel
theorem dX8_unit_0 : decode cX8_unit 0 = .ok (.aload_n 0, 1) := by decide +kernel
theorem dX8_unit_1 : decode cX8_unit 1 = .ok (.iload_n 1, 1) := by decide +kernel
theorem dX8_unit_2 : decode cX8_unit 2 = .ok (.invokevirtual 162, 3) := by decide +kernel
theorem dX8_unit_5 : decode cX8_unit 5 = .ok (.ifCond .ne 13, 3) := by decide +kernel
theorem dX8_unit_8 : decode cX8_unit 8 = .ok (.new 240, 3) := by decide +kernel
theorem dX8_unit_11 : decode cX8_unit 11 = .ok (.dup, 1) := by decide +kernel
theorem dX8_unit_12 : decode cX8_unit 12 = .ok (.ldc 242, 2) := by decide +kernel
theorem dX8_unit_14 : decode cX8_unit 14 = .ok (.invokespecial 244, 3) := by decide +kernel
theorem dX8_unit_17 : decode cX8_unit 17 = .ok (.athrow, 1) := by decide +kernel
theorem dX8_unit_18 : decode cX8_unit 18 = .ok (.aload_n 0, 1) := by decide +kernel
theorem dX8_unit_19 : decode cX8_unit 19 = .ok (.getfield 60, 3) := by decide +kernel
theorem dX8_unit_22 : decode cX8_unit 22 = .ok (.getfield 247, 3) := by decide +kernel
theorem dX8_unit_25 : decode cX8_unit 25 = .ok (.iload_n 1, 1) := by decide +kernel
theorem dX8_unit_26 : decode cX8_unit 26 = .ok (.aaload, 1) := by decide +kernel
theorem dX8_unit_27 : decode cX8_unit 27 = .ok (.astore_n 3, 1) := by decide +kernel
theorem dX8_unit_28 : decode cX8_unit 28 = .ok (.iload_n 2, 1) := by decide +kernel
theorem dX8_unit_29 : decode cX8_unit 29 = .ok (.tableswitch 118 0 7 #[47, 57, 67, 80, 93, 98, 103, 108], 47) := by decide +kernel
theorem dX8_unit_76 : decode cX8_unit 76 = .ok (.aload_n 0, 1) := by decide +kernel
theorem dX8_unit_77 : decode cX8_unit 77 = .ok (.getfield 28, 3) := by decide +kernel
theorem dX8_unit_80 : decode cX8_unit 80 = .ok (.getfield 195, 3) := by decide +kernel
theorem dX8_unit_83 : decode cX8_unit 83 = .ok (.iload_n 1, 1) := by decide +kernel
theorem dX8_unit_84 : decode cX8_unit 84 = .ok (.iaload, 1) := by decide +kernel
theorem dX8_unit_85 : decode cX8_unit 85 = .ok (.ireturn, 1) := by decide +kernel
theorem dX8_unit_86 : decode cX8_unit 86 = .ok (.aload_n 0, 1) := by decide +kernel
theorem dX8_unit_87 : decode cX8_unit 87 = .ok (.getfield 28, 3) := by decide +kernel
theorem dX8_unit_90 : decode cX8_unit 90 = .ok (.getfield 182, 3) := by decide +kernel
theorem dX8_unit_93 : decode cX8_unit 93 = .ok (.iload_n 1, 1) := by decide +kernel
theorem dX8_unit_94 : decode cX8_unit 94 = .ok (.iaload, 1) := by decide +kernel
theorem dX8_unit_95 : decode cX8_unit 95 = .ok (.ireturn, 1) := by decide +kernel
theorem dX8_unit_96 : decode cX8_unit 96 = .ok (.aload_n 3, 1) := by decide +kernel
theorem dX8_unit_97 : decode cX8_unit 97 = .ok (.getfield 251, 3) := by decide +kernel
theorem dX8_unit_100 : decode cX8_unit 100 = .ok (.ifCond .eq 7, 3) := by decide +kernel
theorem dX8_unit_103 : decode cX8_unit 103 = .ok (.iconst 1, 1) := by decide +kernel
theorem dX8_unit_104 : decode cX8_unit 104 = .ok (.goto 4, 3) := by decide +kernel
theorem dX8_unit_107 : decode cX8_unit 107 = .ok (.iconst 0, 1) := by decide +kernel
theorem dX8_unit_108 : decode cX8_unit 108 = .ok (.ireturn, 1) := by decide +kernel
theorem dX8_unit_109 : decode cX8_unit 109 = .ok (.aload_n 3, 1) := by decide +kernel
theorem dX8_unit_110 : decode cX8_unit 110 = .ok (.getfield 256, 3) := by decide +kernel
theorem dX8_unit_113 : decode cX8_unit 113 = .ok (.ifCond .eq 7, 3) := by decide +kernel
theorem dX8_unit_116 : decode cX8_unit 116 = .ok (.iconst 1, 1) := by decide +kernel
theorem dX8_unit_117 : decode cX8_unit 117 = .ok (.goto 4, 3) := by decide +kernel
theorem dX8_unit_120 : decode cX8_unit 120 = .ok (.iconst 0, 1) := by decide +kernel
theorem dX8_unit_121 : decode cX8_unit 121 = .ok (.ireturn, 1) := by decide +kernel
theorem dX8_unit_122 : decode cX8_unit 122 = .ok (.aload_n 3, 1) := by decide +kernel
theorem dX8_unit_123 : decode cX8_unit 123 = .ok (.getfield 259, 3) := by decide +kernel
theorem dX8_unit_126 : decode cX8_unit 126 = .ok (.ireturn, 1) := by decide +kernel
theorem dX8_unit_127 : decode cX8_unit 127 = .ok (.aload_n 3, 1) := by decide +kernel
theorem dX8_unit_128 : decode cX8_unit 128 = .ok (.getfield 262, 3) := by decide +kernel
theorem dX8_unit_131 : decode cX8_unit 131 = .ok (.ireturn, 1) := by decide +kernel
theorem dX8_unit_132 : decode cX8_unit 132 = .ok (.aload_n 3, 1) := by decide +kernel
theorem dX8_unit_133 : decode cX8_unit 133 = .ok (.getfield 265, 3) := by decide +kernel
theorem dX8_unit_136 : decode cX8_unit 136 = .ok (.ireturn, 1) := by decide +kernel
theorem dX8_unit_137 : decode cX8_unit 137 = .ok (.aload_n 3, 1) := by decide +kernel
theorem dX8_unit_138 : decode cX8_unit 138 = .ok (.getfield 268, 3) := by decide +kernel
theorem dX8_unit_141 : decode cX8_unit 141 = .ok (.aload_n 3, 1) := by decide +kernel
theorem dX8_unit_142 : decode cX8_unit 142 = .ok (.getfield 265, 3) := by decide +kernel
theorem dX8_unit_145 : decode cX8_unit 145 = .ok (.isub, 1) := by decide +kernel
theorem dX8_unit_146 : decode cX8_unit 146 = .ok (.ireturn, 1) := by decide +kernel
theorem dX8_unit_147 : decode cX8_unit 147 = .ok (.new 240, 3) := by decide +kernel
theorem dX8_unit_150 : decode cX8_unit 150 = .ok (.dup, 1) := by decide +kernel
theorem dX8_unit_151 : decode cX8_unit 151 = .ok (.ldc_w 271, 3) := by decide +kernel
theorem dX8_unit_154 : decode cX8_unit 154 = .ok (.invokespecial 244, 3) := by decide +kernel
theorem dX8_unit_157 : decode cX8_unit 157 = .ok (.athrow, 1) := by decide +kernel
theorem dX8_read_0 : decode cX8_read 0 = .ok (.aload_n 0, 1) := by decide +kernel
theorem dX8_read_1 : decode cX8_read 1 = .ok (.iload_n 1, 1) := by decide +kernel
theorem dX8_read_2 : decode cX8_read 2 = .ok (.invokevirtual 162, 3) := by decide +kernel
theorem dX8_read_5 : decode cX8_read 5 = .ok (.ifCond .ne 13, 3) := by decide +kernel
theorem dX8_read_8 : decode cX8_read 8 = .ok (.new 240, 3) := by decide +kernel
theorem dX8_read_11 : decode cX8_read 11 = .ok (.dup, 1) := by decide +kernel
theorem dX8_read_12 : decode cX8_read 12 = .ok (.ldc 242, 2) := by decide +kernel
theorem dX8_read_14 : decode cX8_read 14 = .ok (.invokespecial 244, 3) := by decide +kernel
theorem dX8_read_17 : decode cX8_read 17 = .ok (.athrow, 1) := by decide +kernel
theorem dX8_read_18 : decode cX8_read 18 = .ok (.iload_n 2, 1) := by decide +kernel
theorem dX8_read_19 : decode cX8_read 19 = .ok (.ifCond .lt 19, 3) := by decide +kernel
theorem dX8_read_22 : decode cX8_read 22 = .ok (.iload_n 2, 1) := by decide +kernel
theorem dX8_read_23 : decode cX8_read 23 = .ok (.aload_n 0, 1) := by decide +kernel
theorem dX8_read_24 : decode cX8_read 24 = .ok (.getfield 60, 3) := by decide +kernel
theorem dX8_read_27 : decode cX8_read 27 = .ok (.getfield 247, 3) := by decide +kernel
theorem dX8_read_30 : decode cX8_read 30 = .ok (.iload_n 1, 1) := by decide +kernel
theorem dX8_read_31 : decode cX8_read 31 = .ok (.aaload, 1) := by decide +kernel
theorem dX8_read_32 : decode cX8_read 32 = .ok (.getfield 265, 3) := by decide +kernel
theorem dX8_read_35 : decode cX8_read 35 = .ok (.if_icmp .lt 14, 3) := by decide +kernel
theorem dX8_read_38 : decode cX8_read 38 = .ok (.new 240, 3) := by decide +kernel
theorem dX8_read_41 : decode cX8_read 41 = .ok (.dup, 1) := by decide +kernel
theorem dX8_read_42 : decode cX8_read 42 = .ok (.ldc_w 273, 3) := by decide +kernel
theorem dX8_read_45 : decode cX8_read 45 = .ok (.invokespecial 244, 3) := by decide +kernel
theorem dX8_read_48 : decode cX8_read 48 = .ok (.athrow, 1) := by decide +kernel
theorem dX8_read_49 : decode cX8_read 49 = .ok (.aload_n 0, 1) := by decide +kernel
theorem dX8_read_50 : decode cX8_read 50 = .ok (.getfield 28, 3) := by decide +kernel
theorem dX8_read_53 : decode cX8_read 53 = .ok (.getfield 195, 3) := by decide +kernel
theorem dX8_read_56 : decode cX8_read 56 = .ok (.iload_n 1, 1) := by decide +kernel
theorem dX8_read_57 : decode cX8_read 57 = .ok (.iaload, 1) := by decide +kernel
theorem dX8_read_58 : decode cX8_read 58 = .ok (.ifCond .ne 7, 3) := by decide +kernel
theorem dX8_read_61 : decode cX8_read 61 = .ok (.iconst 0, 1) := by decide +kernel
theorem dX8_read_62 : decode cX8_read 62 = .ok (.goto 17, 3) := by decide +kernel
theorem dX8_read_65 : decode cX8_read 65 = .ok (.aload_n 0, 1) := by decide +kernel
theorem dX8_read_66 : decode cX8_read 66 = .ok (.getfield 28, 3) := by decide +kernel
theorem dX8_read_69 : decode cX8_read 69 = .ok (.getfield 275, 3) := by decide +kernel
theorem dX8_read_72 : decode cX8_read 72 = .ok (.iload_n 1, 1) := by decide +kernel
theorem dX8_read_73 : decode cX8_read 73 = .ok (.bipush 8, 2) := by decide +kernel
theorem dX8_read_75 : decode cX8_read 75 = .ok (.imul, 1) := by decide +kernel
theorem dX8_read_76 : decode cX8_read 76 = .ok (.iload_n 2, 1) := by decide +kernel
theorem dX8_read_77 : decode cX8_read 77 = .ok (.iadd, 1) := by decide +kernel
theorem dX8_read_78 : decode cX8_read 78 = .ok (.iaload, 1) := by decide +kernel
theorem dX8_read_79 : decode cX8_read 79 = .ok (.ireturn, 1) := by decide +kernel
theorem dX8_cause_0 : decode cX8_cause 0 = .ok (.aload_n 0, 1) := by decide +kernel
theorem dX8_cause_1 : decode cX8_cause 1 = .ok (.iload_n 1, 1) := by decide +kernel
theorem dX8_cause_2 : decode cX8_cause 2 = .ok (.invokevirtual 162, 3) := by decide +kernel
theorem dX8_cause_5 : decode cX8_cause 5 = .ok (.ifCond .eq 12, 3) := by decide +kernel
theorem dX8_cause_8 : decode cX8_cause 8 = .ok (.iload_n 2, 1) := by decide +kernel
theorem dX8_cause_9 : decode cX8_cause 9 = .ok (.ifCond .lt 8, 3) := by decide +kernel
theorem dX8_cause_12 : decode cX8_cause 12 = .ok (.iload_n 2, 1) := by decide +kernel
theorem dX8_cause_13 : decode cX8_cause 13 = .ok (.iconst 1, 1) := by decide +kernel
theorem dX8_cause_14 : decode cX8_cause 14 = .ok (.if_icmp .le 5, 3) := by decide +kernel
theorem dX8_cause_17 : decode cX8_cause 17 = .ok (.iconst 0, 1) := by decide +kernel
theorem dX8_cause_18 : decode cX8_cause 18 = .ok (.ireturn, 1) := by decide +kernel
theorem dX8_cause_19 : decode cX8_cause 19 = .ok (.iload_n 2, 1) := by decide +kernel
theorem dX8_cause_20 : decode cX8_cause 20 = .ok (.ifCond .ne 15, 3) := by decide +kernel
theorem dX8_cause_23 : decode cX8_cause 23 = .ok (.aload_n 0, 1) := by decide +kernel
theorem dX8_cause_24 : decode cX8_cause 24 = .ok (.getfield 28, 3) := by decide +kernel
theorem dX8_cause_27 : decode cX8_cause 27 = .ok (.getfield 277, 3) := by decide +kernel
theorem dX8_cause_30 : decode cX8_cause 30 = .ok (.iload_n 1, 1) := by decide +kernel
theorem dX8_cause_31 : decode cX8_cause 31 = .ok (.iaload, 1) := by decide +kernel
theorem dX8_cause_32 : decode cX8_cause 32 = .ok (.goto 12, 3) := by decide +kernel
theorem dX8_cause_35 : decode cX8_cause 35 = .ok (.aload_n 0, 1) := by decide +kernel
theorem dX8_cause_36 : decode cX8_cause 36 = .ok (.getfield 28, 3) := by decide +kernel
theorem dX8_cause_39 : decode cX8_cause 39 = .ok (.getfield 280, 3) := by decide +kernel
theorem dX8_cause_42 : decode cX8_cause 42 = .ok (.iload_n 1, 1) := by decide +kernel
theorem dX8_cause_43 : decode cX8_cause 43 = .ok (.iaload, 1) := by decide +kernel
theorem dX8_cause_44 : decode cX8_cause 44 = .ok (.ireturn, 1) := by decide +kernel
theorem dX8_need_0 : decode cX8_need 0 = .ok (.aload_n 0, 1) := by decide +kernel
theorem dX8_need_1 : decode cX8_need 1 = .ok (.iload_n 1, 1) := by decide +kernel
theorem dX8_need_2 : decode cX8_need 2 = .ok (.invokevirtual 162, 3) := by decide +kernel
theorem dX8_need_5 : decode cX8_need 5 = .ok (.ifCond .eq 20, 3) := by decide +kernel
theorem dX8_need_8 : decode cX8_need 8 = .ok (.iload_n 2, 1) := by decide +kernel
theorem dX8_need_9 : decode cX8_need 9 = .ok (.ifCond .lt 16, 3) := by decide +kernel
theorem dX8_need_12 : decode cX8_need 12 = .ok (.iload_n 2, 1) := by decide +kernel
theorem dX8_need_13 : decode cX8_need 13 = .ok (.aload_n 0, 1) := by decide +kernel
theorem dX8_need_14 : decode cX8_need 14 = .ok (.getfield 28, 3) := by decide +kernel
theorem dX8_need_17 : decode cX8_need 17 = .ok (.getfield 283, 3) := by decide +kernel
theorem dX8_need_20 : decode cX8_need 20 = .ok (.iload_n 1, 1) := by decide +kernel
theorem dX8_need_21 : decode cX8_need 21 = .ok (.iaload, 1) := by decide +kernel
theorem dX8_need_22 : decode cX8_need 22 = .ok (.if_icmp .lt 5, 3) := by decide +kernel
theorem dX8_need_25 : decode cX8_need 25 = .ok (.iconst (-1), 1) := by decide +kernel
theorem dX8_need_26 : decode cX8_need 26 = .ok (.ireturn, 1) := by decide +kernel
theorem dX8_need_27 : decode cX8_need 27 = .ok (.aload_n 0, 1) := by decide +kernel
theorem dX8_need_28 : decode cX8_need 28 = .ok (.getfield 28, 3) := by decide +kernel
theorem dX8_need_31 : decode cX8_need 31 = .ok (.getfield 286, 3) := by decide +kernel
theorem dX8_need_34 : decode cX8_need 34 = .ok (.iload_n 1, 1) := by decide +kernel
theorem dX8_need_35 : decode cX8_need 35 = .ok (.bipush 24, 2) := by decide +kernel
theorem dX8_need_37 : decode cX8_need 37 = .ok (.imul, 1) := by decide +kernel
theorem dX8_need_38 : decode cX8_need 38 = .ok (.iload_n 2, 1) := by decide +kernel
theorem dX8_need_39 : decode cX8_need 39 = .ok (.iadd, 1) := by decide +kernel
theorem dX8_need_40 : decode cX8_need 40 = .ok (.iaload, 1) := by decide +kernel
theorem dX8_need_41 : decode cX8_need 41 = .ok (.ireturn, 1) := by decide +kernel
theorem dX8_leans_0 : decode cX8_leans 0 = .ok (.aload_n 0, 1) := by decide +kernel
theorem dX8_leans_1 : decode cX8_leans 1 = .ok (.iload_n 1, 1) := by decide +kernel
theorem dX8_leans_2 : decode cX8_leans 2 = .ok (.invokevirtual 162, 3) := by decide +kernel
theorem dX8_leans_5 : decode cX8_leans 5 = .ok (.ifCond .eq 11, 3) := by decide +kernel
theorem dX8_leans_8 : decode cX8_leans 8 = .ok (.aload_n 0, 1) := by decide +kernel
theorem dX8_leans_9 : decode cX8_leans 9 = .ok (.iload_n 2, 1) := by decide +kernel
theorem dX8_leans_10 : decode cX8_leans 10 = .ok (.invokevirtual 162, 3) := by decide +kernel
theorem dX8_leans_13 : decode cX8_leans 13 = .ok (.ifCond .ne 5, 3) := by decide +kernel
theorem dX8_leans_16 : decode cX8_leans 16 = .ok (.iconst (-1), 1) := by decide +kernel
theorem dX8_leans_17 : decode cX8_leans 17 = .ok (.ireturn, 1) := by decide +kernel
theorem dX8_leans_18 : decode cX8_leans 18 = .ok (.aload_n 0, 1) := by decide +kernel
theorem dX8_leans_19 : decode cX8_leans 19 = .ok (.getfield 60, 3) := by decide +kernel
theorem dX8_leans_22 : decode cX8_leans 22 = .ok (.iload_n 1, 1) := by decide +kernel
theorem dX8_leans_23 : decode cX8_leans 23 = .ok (.iload_n 2, 1) := by decide +kernel
theorem dX8_leans_24 : decode cX8_leans 24 = .ok (.invokevirtual 289, 3) := by decide +kernel
theorem dX8_leans_27 : decode cX8_leans 27 = .ok (.ifCond .eq 7, 3) := by decide +kernel
theorem dX8_leans_30 : decode cX8_leans 30 = .ok (.iconst 1, 1) := by decide +kernel
theorem dX8_leans_31 : decode cX8_leans 31 = .ok (.goto 4, 3) := by decide +kernel
theorem dX8_leans_34 : decode cX8_leans 34 = .ok (.iconst 0, 1) := by decide +kernel
theorem dX8_leans_35 : decode cX8_leans 35 = .ok (.ireturn, 1) := by decide +kernel
theorem dX8_up_0 : decode cX8_up 0 = .ok (.aload_n 0, 1) := by decide +kernel
theorem dX8_up_1 : decode cX8_up 1 = .ok (.getfield 38, 3) := by decide +kernel
theorem dX8_up_4 : decode cX8_up 4 = .ok (.iload_n 1, 1) := by decide +kernel
theorem dX8_up_5 : decode cX8_up 5 = .ok (.iload_n 2, 1) := by decide +kernel
theorem dX8_up_6 : decode cX8_up 6 = .ok (.invokevirtual 191, 3) := by decide +kernel
theorem dX8_up_9 : decode cX8_up 9 = .ok (.ireturn, 1) := by decide +kernel
theorem dX8_half_0 : decode cX8_half 0 = .ok (.aload_n 0, 1) := by decide +kernel
theorem dX8_half_1 : decode cX8_half 1 = .ok (.getfield 38, 3) := by decide +kernel
theorem dX8_half_4 : decode cX8_half 4 = .ok (.iload_n 1, 1) := by decide +kernel
theorem dX8_half_5 : decode cX8_half 5 = .ok (.iload_n 2, 1) := by decide +kernel
theorem dX8_half_6 : decode cX8_half 6 = .ok (.invokevirtual 292, 3) := by decide +kernel
theorem dX8_half_9 : decode cX8_half 9 = .ok (.ireturn, 1) := by decide +kernel
theorem dX8_order_0 : decode cX8_order 0 = .ok (.aload_n 0, 1) := by decide +kernel
theorem dX8_order_1 : decode cX8_order 1 = .ok (.getfield 38, 3) := by decide +kernel
theorem dX8_order_4 : decode cX8_order 4 = .ok (.iload_n 1, 1) := by decide +kernel
theorem dX8_order_5 : decode cX8_order 5 = .ok (.iload_n 2, 1) := by decide +kernel
theorem dX8_order_6 : decode cX8_order 6 = .ok (.invokevirtual 295, 3) := by decide +kernel
theorem dX8_order_9 : decode cX8_order 9 = .ok (.ireturn, 1) := by decide +kernel
theorem dX8_closed_0 : decode cX8_closed 0 = .ok (.aload_n 0, 1) := by decide +kernel
theorem dX8_closed_1 : decode cX8_closed 1 = .ok (.getfield 38, 3) := by decide +kernel
theorem dX8_closed_4 : decode cX8_closed 4 = .ok (.iload_n 1, 1) := by decide +kernel
theorem dX8_closed_5 : decode cX8_closed 5 = .ok (.iload_n 2, 1) := by decide +kernel
theorem dX8_closed_6 : decode cX8_closed 6 = .ok (.invokevirtual 298, 3) := by decide +kernel
theorem dX8_closed_9 : decode cX8_closed 9 = .ok (.ireturn, 1) := by decide +kernel
theorem dX8_device_0 : decode cX8_device 0 = .ok (.iload_n 1, 1) := by decide +kernel
theorem dX8_device_1 : decode cX8_device 1 = .ok (.ifCond .lt 14, 3) := by decide +kernel
theorem dX8_device_4 : decode cX8_device 4 = .ok (.iload_n 1, 1) := by decide +kernel
theorem dX8_device_5 : decode cX8_device 5 = .ok (.aload_n 0, 1) := by decide +kernel
theorem dX8_device_6 : decode cX8_device 6 = .ok (.getfield 60, 3) := by decide +kernel
theorem dX8_device_9 : decode cX8_device 9 = .ok (.getfield 123, 3) := by decide +kernel
theorem dX8_device_12 : decode cX8_device 12 = .ok (.if_icmp .lt 14, 3) := by decide +kernel
theorem dX8_device_15 : decode cX8_device 15 = .ok (.new 240, 3) := by decide +kernel
theorem dX8_device_18 : decode cX8_device 18 = .ok (.dup, 1) := by decide +kernel
theorem dX8_device_19 : decode cX8_device 19 = .ok (.ldc_w 301, 3) := by decide +kernel
theorem dX8_device_22 : decode cX8_device 22 = .ok (.invokespecial 244, 3) := by decide +kernel
theorem dX8_device_25 : decode cX8_device 25 = .ok (.athrow, 1) := by decide +kernel
theorem dX8_device_26 : decode cX8_device 26 = .ok (.iload_n 2, 1) := by decide +kernel
theorem dX8_device_27 : decode cX8_device 27 = .ok (.lookupswitch 45 #[(0, 25), (1, 35)], 25) := by decide +kernel
theorem dX8_device_52 : decode cX8_device 52 = .ok (.aload_n 0, 1) := by decide +kernel
theorem dX8_device_53 : decode cX8_device 53 = .ok (.getfield 28, 3) := by decide +kernel
theorem dX8_device_56 : decode cX8_device 56 = .ok (.getfield 208, 3) := by decide +kernel
theorem dX8_device_59 : decode cX8_device 59 = .ok (.iload_n 1, 1) := by decide +kernel
theorem dX8_device_60 : decode cX8_device 60 = .ok (.iaload, 1) := by decide +kernel
theorem dX8_device_61 : decode cX8_device 61 = .ok (.ireturn, 1) := by decide +kernel
theorem dX8_device_62 : decode cX8_device 62 = .ok (.aload_n 0, 1) := by decide +kernel
theorem dX8_device_63 : decode cX8_device 63 = .ok (.getfield 28, 3) := by decide +kernel
theorem dX8_device_66 : decode cX8_device 66 = .ok (.getfield 205, 3) := by decide +kernel
theorem dX8_device_69 : decode cX8_device 69 = .ok (.iload_n 1, 1) := by decide +kernel
theorem dX8_device_70 : decode cX8_device 70 = .ok (.iaload, 1) := by decide +kernel
theorem dX8_device_71 : decode cX8_device 71 = .ok (.ireturn, 1) := by decide +kernel
theorem dX8_device_72 : decode cX8_device 72 = .ok (.new 240, 3) := by decide +kernel
theorem dX8_device_75 : decode cX8_device 75 = .ok (.dup, 1) := by decide +kernel
theorem dX8_device_76 : decode cX8_device 76 = .ok (.ldc_w 303, 3) := by decide +kernel
theorem dX8_device_79 : decode cX8_device 79 = .ok (.invokespecial 244, 3) := by decide +kernel
theorem dX8_device_82 : decode cX8_device 82 = .ok (.athrow, 1) := by decide +kernel
theorem dX8_count_0 : decode cX8_count 0 = .ok (.iload_n 1, 1) := by decide +kernel
theorem dX8_count_1 : decode cX8_count 1 = .ok (.tableswitch 187 0 13 #[71, 79, 87, 95, 104, 113, 121, 129, 137, 145, 153, 158, 171, 179], 71) := by decide +kernel
theorem dX8_count_72 : decode cX8_count 72 = .ok (.aload_n 0, 1) := by decide +kernel
theorem dX8_count_73 : decode cX8_count 73 = .ok (.getfield 60, 3) := by decide +kernel
theorem dX8_count_76 : decode cX8_count 76 = .ok (.getfield 123, 3) := by decide +kernel
theorem dX8_count_79 : decode cX8_count 79 = .ok (.ireturn, 1) := by decide +kernel
theorem dX8_count_80 : decode cX8_count 80 = .ok (.aload_n 0, 1) := by decide +kernel
theorem dX8_count_81 : decode cX8_count 81 = .ok (.getfield 60, 3) := by decide +kernel
theorem dX8_count_84 : decode cX8_count 84 = .ok (.getfield 133, 3) := by decide +kernel
theorem dX8_count_87 : decode cX8_count 87 = .ok (.ireturn, 1) := by decide +kernel
theorem dX8_count_88 : decode cX8_count 88 = .ok (.aload_n 0, 1) := by decide +kernel
theorem dX8_count_89 : decode cX8_count 89 = .ok (.getfield 60, 3) := by decide +kernel
theorem dX8_count_92 : decode cX8_count 92 = .ok (.getfield 139, 3) := by decide +kernel
theorem dX8_count_95 : decode cX8_count 95 = .ok (.ireturn, 1) := by decide +kernel
theorem dX8_count_96 : decode cX8_count 96 = .ok (.aload_n 0, 1) := by decide +kernel
theorem dX8_count_97 : decode cX8_count 97 = .ok (.getfield 28, 3) := by decide +kernel
theorem dX8_count_100 : decode cX8_count 100 = .ok (.iconst 2, 1) := by decide +kernel
theorem dX8_count_101 : decode cX8_count 101 = .ok (.invokevirtual 305, 3) := by decide +kernel
theorem dX8_count_104 : decode cX8_count 104 = .ok (.ireturn, 1) := by decide +kernel
theorem dX8_count_105 : decode cX8_count 105 = .ok (.aload_n 0, 1) := by decide +kernel
theorem dX8_count_106 : decode cX8_count 106 = .ok (.getfield 28, 3) := by decide +kernel
theorem dX8_count_109 : decode cX8_count 109 = .ok (.iconst 3, 1) := by decide +kernel
theorem dX8_count_110 : decode cX8_count 110 = .ok (.invokevirtual 305, 3) := by decide +kernel
theorem dX8_count_113 : decode cX8_count 113 = .ok (.ireturn, 1) := by decide +kernel
theorem dX8_count_114 : decode cX8_count 114 = .ok (.aload_n 0, 1) := by decide +kernel
theorem dX8_count_115 : decode cX8_count 115 = .ok (.getfield 38, 3) := by decide +kernel
theorem dX8_count_118 : decode cX8_count 118 = .ok (.getfield 230, 3) := by decide +kernel
theorem dX8_count_121 : decode cX8_count 121 = .ok (.ireturn, 1) := by decide +kernel
theorem dX8_count_122 : decode cX8_count 122 = .ok (.aload_n 0, 1) := by decide +kernel
theorem dX8_count_123 : decode cX8_count 123 = .ok (.getfield 38, 3) := by decide +kernel
theorem dX8_count_126 : decode cX8_count 126 = .ok (.getfield 233, 3) := by decide +kernel
theorem dX8_count_129 : decode cX8_count 129 = .ok (.ireturn, 1) := by decide +kernel
theorem dX8_count_130 : decode cX8_count 130 = .ok (.aload_n 0, 1) := by decide +kernel
theorem dX8_count_131 : decode cX8_count 131 = .ok (.getfield 38, 3) := by decide +kernel
theorem dX8_count_134 : decode cX8_count 134 = .ok (.getfield 188, 3) := by decide +kernel
theorem dX8_count_137 : decode cX8_count 137 = .ok (.ireturn, 1) := by decide +kernel
theorem dX8_count_138 : decode cX8_count 138 = .ok (.aload_n 0, 1) := by decide +kernel
theorem dX8_count_139 : decode cX8_count 139 = .ok (.getfield 28, 3) := by decide +kernel
theorem dX8_count_142 : decode cX8_count 142 = .ok (.getfield 223, 3) := by decide +kernel
theorem dX8_count_145 : decode cX8_count 145 = .ok (.ireturn, 1) := by decide +kernel
theorem dX8_count_146 : decode cX8_count 146 = .ok (.aload_n 0, 1) := by decide +kernel
theorem dX8_count_147 : decode cX8_count 147 = .ok (.getfield 47, 3) := by decide +kernel
theorem dX8_count_150 : decode cX8_count 150 = .ok (.getfield 308, 3) := by decide +kernel
theorem dX8_count_153 : decode cX8_count 153 = .ok (.ireturn, 1) := by decide +kernel
theorem dX8_count_154 : decode cX8_count 154 = .ok (.aload_n 0, 1) := by decide +kernel
theorem dX8_count_155 : decode cX8_count 155 = .ok (.getfield 74, 3) := by decide +kernel
theorem dX8_count_158 : decode cX8_count 158 = .ok (.ireturn, 1) := by decide +kernel
theorem dX8_count_159 : decode cX8_count 159 = .ok (.aload_n 0, 1) := by decide +kernel
theorem dX8_count_160 : decode cX8_count 160 = .ok (.getfield 77, 3) := by decide +kernel
theorem dX8_count_163 : decode cX8_count 163 = .ok (.ifCond .eq 7, 3) := by decide +kernel
theorem dX8_count_166 : decode cX8_count 166 = .ok (.iconst 1, 1) := by decide +kernel
theorem dX8_count_167 : decode cX8_count 167 = .ok (.goto 4, 3) := by decide +kernel
theorem dX8_count_170 : decode cX8_count 170 = .ok (.iconst 0, 1) := by decide +kernel
theorem dX8_count_171 : decode cX8_count 171 = .ok (.ireturn, 1) := by decide +kernel
theorem dX8_count_172 : decode cX8_count 172 = .ok (.aload_n 0, 1) := by decide +kernel
theorem dX8_count_173 : decode cX8_count 173 = .ok (.getfield 28, 3) := by decide +kernel
theorem dX8_count_176 : decode cX8_count 176 = .ok (.getfield 169, 3) := by decide +kernel
theorem dX8_count_179 : decode cX8_count 179 = .ok (.ireturn, 1) := by decide +kernel
theorem dX8_count_180 : decode cX8_count 180 = .ok (.aload_n 0, 1) := by decide +kernel
theorem dX8_count_181 : decode cX8_count 181 = .ok (.getfield 12, 3) := by decide +kernel
theorem dX8_count_184 : decode cX8_count 184 = .ok (.getfield 85, 3) := by decide +kernel
theorem dX8_count_187 : decode cX8_count 187 = .ok (.ireturn, 1) := by decide +kernel
theorem dX8_count_188 : decode cX8_count 188 = .ok (.iconst (-1), 1) := by decide +kernel
theorem dX8_count_189 : decode cX8_count 189 = .ok (.ireturn, 1) := by decide +kernel
theorem dX8_isUnit_0 : decode cX8_isUnit 0 = .ok (.iload_n 1, 1) := by decide +kernel
theorem dX8_isUnit_1 : decode cX8_isUnit 1 = .ok (.ifCond .lt 18, 3) := by decide +kernel
theorem dX8_isUnit_4 : decode cX8_isUnit 4 = .ok (.iload_n 1, 1) := by decide +kernel
theorem dX8_isUnit_5 : decode cX8_isUnit 5 = .ok (.aload_n 0, 1) := by decide +kernel
theorem dX8_isUnit_6 : decode cX8_isUnit 6 = .ok (.getfield 60, 3) := by decide +kernel
theorem dX8_isUnit_9 : decode cX8_isUnit 9 = .ok (.getfield 133, 3) := by decide +kernel
theorem dX8_isUnit_12 : decode cX8_isUnit 12 = .ok (.if_icmp .ge 7, 3) := by decide +kernel
theorem dX8_isUnit_15 : decode cX8_isUnit 15 = .ok (.iconst 1, 1) := by decide +kernel
theorem dX8_isUnit_16 : decode cX8_isUnit 16 = .ok (.goto 4, 3) := by decide +kernel
theorem dX8_isUnit_19 : decode cX8_isUnit 19 = .ok (.iconst 0, 1) := by decide +kernel
theorem dX8_isUnit_20 : decode cX8_isUnit 20 = .ok (.ireturn, 1) := by decide +kernel
theorem dX8_canDemand_0 : decode cX8_canDemand 0 = .ok (.iload_n 1, 1) := by decide +kernel
theorem dX8_canDemand_1 : decode cX8_canDemand 1 = .ok (.ifCond .lt 30, 3) := by decide +kernel
theorem dX8_canDemand_4 : decode cX8_canDemand 4 = .ok (.iload_n 1, 1) := by decide +kernel
theorem dX8_canDemand_5 : decode cX8_canDemand 5 = .ok (.aload_n 0, 1) := by decide +kernel
theorem dX8_canDemand_6 : decode cX8_canDemand 6 = .ok (.getfield 60, 3) := by decide +kernel
theorem dX8_canDemand_9 : decode cX8_canDemand 9 = .ok (.getfield 139, 3) := by decide +kernel
theorem dX8_canDemand_12 : decode cX8_canDemand 12 = .ok (.if_icmp .ge 19, 3) := by decide +kernel
theorem dX8_canDemand_15 : decode cX8_canDemand 15 = .ok (.iload_n 2, 1) := by decide +kernel
theorem dX8_canDemand_16 : decode cX8_canDemand 16 = .ok (.iconst 1, 1) := by decide +kernel
theorem dX8_canDemand_17 : decode cX8_canDemand 17 = .ok (.if_icmp .lt 14, 3) := by decide +kernel
theorem dX8_canDemand_20 : decode cX8_canDemand 20 = .ok (.iload_n 2, 1) := by decide +kernel
theorem dX8_canDemand_21 : decode cX8_canDemand 21 = .ok (.sipush 5000, 3) := by decide +kernel
theorem dX8_canDemand_24 : decode cX8_canDemand 24 = .ok (.if_icmp .gt 7, 3) := by decide +kernel
theorem dX8_canDemand_27 : decode cX8_canDemand 27 = .ok (.iconst 1, 1) := by decide +kernel
theorem dX8_canDemand_28 : decode cX8_canDemand 28 = .ok (.goto 4, 3) := by decide +kernel
theorem dX8_canDemand_31 : decode cX8_canDemand 31 = .ok (.iconst 0, 1) := by decide +kernel
theorem dX8_canDemand_32 : decode cX8_canDemand 32 = .ok (.ireturn, 1) := by decide +kernel
theorem dX8_isHealedWith_0 : decode cX8_isHealedWith 0 = .ok (.iload_n 1, 1) := by decide +kernel
theorem dX8_isHealedWith_1 : decode cX8_isHealedWith 1 = .ok (.iload_n 2, 1) := by decide +kernel
theorem dX8_isHealedWith_2 : decode cX8_isHealedWith 2 = .ok (.if_icmp .eq 15, 3) := by decide +kernel
theorem dX8_isHealedWith_5 : decode cX8_isHealedWith 5 = .ok (.aload_n 0, 1) := by decide +kernel
theorem dX8_isHealedWith_6 : decode cX8_isHealedWith 6 = .ok (.getfield 60, 3) := by decide +kernel
theorem dX8_isHealedWith_9 : decode cX8_isHealedWith 9 = .ok (.iload_n 1, 1) := by decide +kernel
theorem dX8_isHealedWith_10 : decode cX8_isHealedWith 10 = .ok (.iload_n 2, 1) := by decide +kernel
theorem dX8_isHealedWith_11 : decode cX8_isHealedWith 11 = .ok (.invokevirtual 289, 3) := by decide +kernel
theorem dX8_isHealedWith_14 : decode cX8_isHealedWith 14 = .ok (.ifCond .eq 7, 3) := by decide +kernel
theorem dX8_isHealedWith_17 : decode cX8_isHealedWith 17 = .ok (.iconst 1, 1) := by decide +kernel
theorem dX8_isHealedWith_18 : decode cX8_isHealedWith 18 = .ok (.goto 4, 3) := by decide +kernel
theorem dX8_isHealedWith_21 : decode cX8_isHealedWith 21 = .ok (.iconst 0, 1) := by decide +kernel
theorem dX8_isHealedWith_22 : decode cX8_isHealedWith 22 = .ok (.ireturn, 1) := by decide +kernel
theorem dX8_rankOf_0 : decode cX8_rankOf 0 = .ok (.iconst 0, 1) := by decide +kernel
theorem dX8_rankOf_1 : decode cX8_rankOf 1 = .ok (.istore 4, 2) := by decide +kernel
theorem dX8_rankOf_3 : decode cX8_rankOf 3 = .ok (.iload 4, 2) := by decide +kernel
theorem dX8_rankOf_5 : decode cX8_rankOf 5 = .ok (.iload_n 3, 1) := by decide +kernel
theorem dX8_rankOf_6 : decode cX8_rankOf 6 = .ok (.if_icmp .ge 28, 3) := by decide +kernel
theorem dX8_rankOf_9 : decode cX8_rankOf 9 = .ok (.iload 4, 2) := by decide +kernel
theorem dX8_rankOf_11 : decode cX8_rankOf 11 = .ok (.aload_n 2, 1) := by decide +kernel
theorem dX8_rankOf_12 : decode cX8_rankOf 12 = .ok (.arraylength, 1) := by decide +kernel
theorem dX8_rankOf_13 : decode cX8_rankOf 13 = .ok (.if_icmp .ge 21, 3) := by decide +kernel
theorem dX8_rankOf_16 : decode cX8_rankOf 16 = .ok (.aload_n 2, 1) := by decide +kernel
theorem dX8_rankOf_17 : decode cX8_rankOf 17 = .ok (.iload 4, 2) := by decide +kernel
theorem dX8_rankOf_19 : decode cX8_rankOf 19 = .ok (.laload, 1) := by decide +kernel
theorem dX8_rankOf_20 : decode cX8_rankOf 20 = .ok (.lload_n 0, 1) := by decide +kernel
theorem dX8_rankOf_21 : decode cX8_rankOf 21 = .ok (.lcmp, 1) := by decide +kernel
theorem dX8_rankOf_22 : decode cX8_rankOf 22 = .ok (.ifCond .ne 6, 3) := by decide +kernel
theorem dX8_rankOf_25 : decode cX8_rankOf 25 = .ok (.iload 4, 2) := by decide +kernel
theorem dX8_rankOf_27 : decode cX8_rankOf 27 = .ok (.ireturn, 1) := by decide +kernel
theorem dX8_rankOf_28 : decode cX8_rankOf 28 = .ok (.iinc 4 1, 3) := by decide +kernel
theorem dX8_rankOf_31 : decode cX8_rankOf 31 = .ok (.goto (-28), 3) := by decide +kernel
theorem dX8_rankOf_34 : decode cX8_rankOf 34 = .ok (.iconst (-1), 1) := by decide +kernel
theorem dX8_rankOf_35 : decode cX8_rankOf 35 = .ok (.ireturn, 1) := by decide +kernel
