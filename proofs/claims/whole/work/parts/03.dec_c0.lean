theorem dX0_init_0 : decode cX0_init 0 = .ok (.aload_n 0, 1) := by decide +kernel
theorem dX0_init_1 : decode cX0_init 1 = .ok (.invokespecial 3, 3) := by decide +kernel
theorem dX0_init_4 : decode cX0_init 4 = .ok (.aload_n 0, 1) := by decide +kernel
theorem dX0_init_5 : decode cX0_init 5 = .ok (.sipush 2232, 3) := by decide +kernel
theorem dX0_init_8 : decode cX0_init 8 = .ok (.newarray .int, 2) := by decide +kernel
theorem dX0_init_10 : decode cX0_init 10 = .ok (.putfield 9, 3) := by decide +kernel
theorem dX0_init_13 : decode cX0_init 13 = .ok (.aload_n 0, 1) := by decide +kernel
theorem dX0_init_14 : decode cX0_init 14 = .ok (.sipush 600, 3) := by decide +kernel
theorem dX0_init_17 : decode cX0_init 17 = .ok (.newarray .int, 2) := by decide +kernel
theorem dX0_init_19 : decode cX0_init 19 = .ok (.putfield 15, 3) := by decide +kernel
theorem dX0_init_22 : decode cX0_init 22 = .ok (.aload_n 0, 1) := by decide +kernel
theorem dX0_init_23 : decode cX0_init 23 = .ok (.sipush 800, 3) := by decide +kernel
theorem dX0_init_26 : decode cX0_init 26 = .ok (.newarray .int, 2) := by decide +kernel
theorem dX0_init_28 : decode cX0_init 28 = .ok (.putfield 18, 3) := by decide +kernel
theorem dX0_init_31 : decode cX0_init 31 = .ok (.aload_n 0, 1) := by decide +kernel
theorem dX0_init_32 : decode cX0_init 32 = .ok (.bipush 48, 2) := by decide +kernel
theorem dX0_init_34 : decode cX0_init 34 = .ok (.newarray .int, 2) := by decide +kernel
theorem dX0_init_36 : decode cX0_init 36 = .ok (.putfield 21, 3) := by decide +kernel
theorem dX0_init_39 : decode cX0_init 39 = .ok (.aload_n 0, 1) := by decide +kernel
theorem dX0_init_40 : decode cX0_init 40 = .ok (.iconst 0, 1) := by decide +kernel
theorem dX0_init_41 : decode cX0_init 41 = .ok (.putfield 24, 3) := by decide +kernel
theorem dX0_init_44 : decode cX0_init 44 = .ok (.aload_n 0, 1) := by decide +kernel
theorem dX0_init_45 : decode cX0_init 45 = .ok (.iconst 0, 1) := by decide +kernel
theorem dX0_init_46 : decode cX0_init 46 = .ok (.putfield 28, 3) := by decide +kernel
theorem dX0_init_49 : decode cX0_init 49 = .ok (.aload_n 0, 1) := by decide +kernel
theorem dX0_init_50 : decode cX0_init 50 = .ok (.iconst 0, 1) := by decide +kernel
theorem dX0_init_51 : decode cX0_init 51 = .ok (.putfield 31, 3) := by decide +kernel
theorem dX0_init_54 : decode cX0_init 54 = .ok (.aload_n 0, 1) := by decide +kernel
theorem dX0_init_55 : decode cX0_init 55 = .ok (.iconst 0, 1) := by decide +kernel
theorem dX0_init_56 : decode cX0_init 56 = .ok (.putfield 34, 3) := by decide +kernel
theorem dX0_init_59 : decode cX0_init 59 = .ok (.return_, 1) := by decide +kernel
theorem dX0_empty_0 : decode cX0_empty 0 = .ok (.aload_n 0, 1) := by decide +kernel
theorem dX0_empty_1 : decode cX0_empty 1 = .ok (.iconst 0, 1) := by decide +kernel
theorem dX0_empty_2 : decode cX0_empty 2 = .ok (.iconst 0, 1) := by decide +kernel
theorem dX0_empty_3 : decode cX0_empty 3 = .ok (.iconst 0, 1) := by decide +kernel
theorem dX0_empty_4 : decode cX0_empty 4 = .ok (.invokevirtual 37, 3) := by decide +kernel
theorem dX0_empty_7 : decode cX0_empty 7 = .ok (.aload_n 0, 1) := by decide +kernel
theorem dX0_empty_8 : decode cX0_empty 8 = .ok (.iconst 0, 1) := by decide +kernel
theorem dX0_empty_9 : decode cX0_empty 9 = .ok (.putfield 34, 3) := by decide +kernel
theorem dX0_empty_12 : decode cX0_empty 12 = .ok (.return_, 1) := by decide +kernel
theorem dX0_cut_0 : decode cX0_cut 0 = .ok (.aload_n 0, 1) := by decide +kernel
theorem dX0_cut_1 : decode cX0_cut 1 = .ok (.iload_n 1, 1) := by decide +kernel
theorem dX0_cut_2 : decode cX0_cut 2 = .ok (.putfield 24, 3) := by decide +kernel
theorem dX0_cut_5 : decode cX0_cut 5 = .ok (.aload_n 0, 1) := by decide +kernel
theorem dX0_cut_6 : decode cX0_cut 6 = .ok (.iload_n 2, 1) := by decide +kernel
theorem dX0_cut_7 : decode cX0_cut 7 = .ok (.putfield 28, 3) := by decide +kernel
theorem dX0_cut_10 : decode cX0_cut 10 = .ok (.aload_n 0, 1) := by decide +kernel
theorem dX0_cut_11 : decode cX0_cut 11 = .ok (.iload_n 3, 1) := by decide +kernel
theorem dX0_cut_12 : decode cX0_cut 12 = .ok (.putfield 31, 3) := by decide +kernel
theorem dX0_cut_15 : decode cX0_cut 15 = .ok (.return_, 1) := by decide +kernel
theorem dX0_addUp_0 : decode cX0_addUp 0 = .ok (.aload_n 0, 1) := by decide +kernel
theorem dX0_addUp_1 : decode cX0_addUp 1 = .ok (.getfield 24, 3) := by decide +kernel
theorem dX0_addUp_4 : decode cX0_addUp 4 = .ok (.sipush 744, 3) := by decide +kernel
theorem dX0_addUp_7 : decode cX0_addUp 7 = .ok (.if_icmp .ge 53, 3) := by decide +kernel
theorem dX0_addUp_10 : decode cX0_addUp 10 = .ok (.aload_n 0, 1) := by decide +kernel
theorem dX0_addUp_11 : decode cX0_addUp 11 = .ok (.getfield 9, 3) := by decide +kernel
theorem dX0_addUp_14 : decode cX0_addUp 14 = .ok (.aload_n 0, 1) := by decide +kernel
theorem dX0_addUp_15 : decode cX0_addUp 15 = .ok (.getfield 24, 3) := by decide +kernel
theorem dX0_addUp_18 : decode cX0_addUp 18 = .ok (.iconst 3, 1) := by decide +kernel
theorem dX0_addUp_19 : decode cX0_addUp 19 = .ok (.imul, 1) := by decide +kernel
theorem dX0_addUp_20 : decode cX0_addUp 20 = .ok (.iload_n 1, 1) := by decide +kernel
theorem dX0_addUp_21 : decode cX0_addUp 21 = .ok (.iastore, 1) := by decide +kernel
theorem dX0_addUp_22 : decode cX0_addUp 22 = .ok (.aload_n 0, 1) := by decide +kernel
theorem dX0_addUp_23 : decode cX0_addUp 23 = .ok (.getfield 9, 3) := by decide +kernel
theorem dX0_addUp_26 : decode cX0_addUp 26 = .ok (.aload_n 0, 1) := by decide +kernel
theorem dX0_addUp_27 : decode cX0_addUp 27 = .ok (.getfield 24, 3) := by decide +kernel
theorem dX0_addUp_30 : decode cX0_addUp 30 = .ok (.iconst 3, 1) := by decide +kernel
theorem dX0_addUp_31 : decode cX0_addUp 31 = .ok (.imul, 1) := by decide +kernel
theorem dX0_addUp_32 : decode cX0_addUp 32 = .ok (.iconst 1, 1) := by decide +kernel
theorem dX0_addUp_33 : decode cX0_addUp 33 = .ok (.iadd, 1) := by decide +kernel
theorem dX0_addUp_34 : decode cX0_addUp 34 = .ok (.iload_n 2, 1) := by decide +kernel
theorem dX0_addUp_35 : decode cX0_addUp 35 = .ok (.iastore, 1) := by decide +kernel
theorem dX0_addUp_36 : decode cX0_addUp 36 = .ok (.aload_n 0, 1) := by decide +kernel
theorem dX0_addUp_37 : decode cX0_addUp 37 = .ok (.getfield 9, 3) := by decide +kernel
theorem dX0_addUp_40 : decode cX0_addUp 40 = .ok (.aload_n 0, 1) := by decide +kernel
theorem dX0_addUp_41 : decode cX0_addUp 41 = .ok (.getfield 24, 3) := by decide +kernel
theorem dX0_addUp_44 : decode cX0_addUp 44 = .ok (.iconst 3, 1) := by decide +kernel
theorem dX0_addUp_45 : decode cX0_addUp 45 = .ok (.imul, 1) := by decide +kernel
theorem dX0_addUp_46 : decode cX0_addUp 46 = .ok (.iconst 2, 1) := by decide +kernel
theorem dX0_addUp_47 : decode cX0_addUp 47 = .ok (.iadd, 1) := by decide +kernel
theorem dX0_addUp_48 : decode cX0_addUp 48 = .ok (.iload_n 3, 1) := by decide +kernel
theorem dX0_addUp_49 : decode cX0_addUp 49 = .ok (.iastore, 1) := by decide +kernel
theorem dX0_addUp_50 : decode cX0_addUp 50 = .ok (.aload_n 0, 1) := by decide +kernel
theorem dX0_addUp_51 : decode cX0_addUp 51 = .ok (.dup, 1) := by decide +kernel
theorem dX0_addUp_52 : decode cX0_addUp 52 = .ok (.getfield 24, 3) := by decide +kernel
theorem dX0_addUp_55 : decode cX0_addUp 55 = .ok (.iconst 1, 1) := by decide +kernel
theorem dX0_addUp_56 : decode cX0_addUp 56 = .ok (.iadd, 1) := by decide +kernel
theorem dX0_addUp_57 : decode cX0_addUp 57 = .ok (.putfield 24, 3) := by decide +kernel
theorem dX0_addUp_60 : decode cX0_addUp 60 = .ok (.return_, 1) := by decide +kernel
theorem dX0_addHalf_0 : decode cX0_addHalf 0 = .ok (.aload_n 0, 1) := by decide +kernel
theorem dX0_addHalf_1 : decode cX0_addHalf 1 = .ok (.getfield 28, 3) := by decide +kernel
theorem dX0_addHalf_4 : decode cX0_addHalf 4 = .ok (.sipush 200, 3) := by decide +kernel
theorem dX0_addHalf_7 : decode cX0_addHalf 7 = .ok (.if_icmp .ge 43, 3) := by decide +kernel
theorem dX0_addHalf_10 : decode cX0_addHalf 10 = .ok (.aload_n 0, 1) := by decide +kernel
theorem dX0_addHalf_11 : decode cX0_addHalf 11 = .ok (.getfield 15, 3) := by decide +kernel
theorem dX0_addHalf_14 : decode cX0_addHalf 14 = .ok (.aload_n 0, 1) := by decide +kernel
theorem dX0_addHalf_15 : decode cX0_addHalf 15 = .ok (.getfield 28, 3) := by decide +kernel
theorem dX0_addHalf_18 : decode cX0_addHalf 18 = .ok (.iconst 3, 1) := by decide +kernel
theorem dX0_addHalf_19 : decode cX0_addHalf 19 = .ok (.imul, 1) := by decide +kernel
theorem dX0_addHalf_20 : decode cX0_addHalf 20 = .ok (.iload_n 1, 1) := by decide +kernel
theorem dX0_addHalf_21 : decode cX0_addHalf 21 = .ok (.iastore, 1) := by decide +kernel
theorem dX0_addHalf_22 : decode cX0_addHalf 22 = .ok (.aload_n 0, 1) := by decide +kernel
theorem dX0_addHalf_23 : decode cX0_addHalf 23 = .ok (.getfield 15, 3) := by decide +kernel
theorem dX0_addHalf_26 : decode cX0_addHalf 26 = .ok (.aload_n 0, 1) := by decide +kernel
theorem dX0_addHalf_27 : decode cX0_addHalf 27 = .ok (.getfield 28, 3) := by decide +kernel
theorem dX0_addHalf_30 : decode cX0_addHalf 30 = .ok (.iconst 3, 1) := by decide +kernel
theorem dX0_addHalf_31 : decode cX0_addHalf 31 = .ok (.imul, 1) := by decide +kernel
theorem dX0_addHalf_32 : decode cX0_addHalf 32 = .ok (.iconst 1, 1) := by decide +kernel
theorem dX0_addHalf_33 : decode cX0_addHalf 33 = .ok (.iadd, 1) := by decide +kernel
theorem dX0_addHalf_34 : decode cX0_addHalf 34 = .ok (.iload_n 2, 1) := by decide +kernel
theorem dX0_addHalf_35 : decode cX0_addHalf 35 = .ok (.iastore, 1) := by decide +kernel
theorem dX0_addHalf_36 : decode cX0_addHalf 36 = .ok (.aload_n 0, 1) := by decide +kernel
theorem dX0_addHalf_37 : decode cX0_addHalf 37 = .ok (.getfield 15, 3) := by decide +kernel
theorem dX0_addHalf_40 : decode cX0_addHalf 40 = .ok (.aload_n 0, 1) := by decide +kernel
theorem dX0_addHalf_41 : decode cX0_addHalf 41 = .ok (.getfield 28, 3) := by decide +kernel
theorem dX0_addHalf_44 : decode cX0_addHalf 44 = .ok (.iconst 3, 1) := by decide +kernel
theorem dX0_addHalf_45 : decode cX0_addHalf 45 = .ok (.imul, 1) := by decide +kernel
theorem dX0_addHalf_46 : decode cX0_addHalf 46 = .ok (.iconst 2, 1) := by decide +kernel
theorem dX0_addHalf_47 : decode cX0_addHalf 47 = .ok (.iadd, 1) := by decide +kernel
theorem dX0_addHalf_48 : decode cX0_addHalf 48 = .ok (.iload_n 3, 1) := by decide +kernel
theorem dX0_addHalf_49 : decode cX0_addHalf 49 = .ok (.iastore, 1) := by decide +kernel
theorem dX0_addHalf_50 : decode cX0_addHalf 50 = .ok (.aload_n 0, 1) := by decide +kernel
theorem dX0_addHalf_51 : decode cX0_addHalf 51 = .ok (.dup, 1) := by decide +kernel
theorem dX0_addHalf_52 : decode cX0_addHalf 52 = .ok (.getfield 28, 3) := by decide +kernel
theorem dX0_addHalf_55 : decode cX0_addHalf 55 = .ok (.iconst 1, 1) := by decide +kernel
theorem dX0_addHalf_56 : decode cX0_addHalf 56 = .ok (.iadd, 1) := by decide +kernel
theorem dX0_addHalf_57 : decode cX0_addHalf 57 = .ok (.putfield 28, 3) := by decide +kernel
theorem dX0_addHalf_60 : decode cX0_addHalf 60 = .ok (.return_, 1) := by decide +kernel
theorem dX0_addOrder_0 : decode cX0_addOrder 0 = .ok (.aload_n 0, 1) := by decide +kernel
theorem dX0_addOrder_1 : decode cX0_addOrder 1 = .ok (.getfield 31, 3) := by decide +kernel
theorem dX0_addOrder_4 : decode cX0_addOrder 4 = .ok (.sipush 200, 3) := by decide +kernel
theorem dX0_addOrder_7 : decode cX0_addOrder 7 = .ok (.if_icmp .ge 66, 3) := by decide +kernel
theorem dX0_addOrder_10 : decode cX0_addOrder 10 = .ok (.aload_n 0, 1) := by decide +kernel
theorem dX0_addOrder_11 : decode cX0_addOrder 11 = .ok (.getfield 18, 3) := by decide +kernel
theorem dX0_addOrder_14 : decode cX0_addOrder 14 = .ok (.aload_n 0, 1) := by decide +kernel
theorem dX0_addOrder_15 : decode cX0_addOrder 15 = .ok (.getfield 31, 3) := by decide +kernel
theorem dX0_addOrder_18 : decode cX0_addOrder 18 = .ok (.iconst 4, 1) := by decide +kernel
theorem dX0_addOrder_19 : decode cX0_addOrder 19 = .ok (.imul, 1) := by decide +kernel
theorem dX0_addOrder_20 : decode cX0_addOrder 20 = .ok (.iload_n 1, 1) := by decide +kernel
theorem dX0_addOrder_21 : decode cX0_addOrder 21 = .ok (.iastore, 1) := by decide +kernel
theorem dX0_addOrder_22 : decode cX0_addOrder 22 = .ok (.aload_n 0, 1) := by decide +kernel
theorem dX0_addOrder_23 : decode cX0_addOrder 23 = .ok (.getfield 18, 3) := by decide +kernel
theorem dX0_addOrder_26 : decode cX0_addOrder 26 = .ok (.aload_n 0, 1) := by decide +kernel
theorem dX0_addOrder_27 : decode cX0_addOrder 27 = .ok (.getfield 31, 3) := by decide +kernel
theorem dX0_addOrder_30 : decode cX0_addOrder 30 = .ok (.iconst 4, 1) := by decide +kernel
theorem dX0_addOrder_31 : decode cX0_addOrder 31 = .ok (.imul, 1) := by decide +kernel
theorem dX0_addOrder_32 : decode cX0_addOrder 32 = .ok (.iconst 1, 1) := by decide +kernel
theorem dX0_addOrder_33 : decode cX0_addOrder 33 = .ok (.iadd, 1) := by decide +kernel
theorem dX0_addOrder_34 : decode cX0_addOrder 34 = .ok (.iload_n 2, 1) := by decide +kernel
theorem dX0_addOrder_35 : decode cX0_addOrder 35 = .ok (.iastore, 1) := by decide +kernel
theorem dX0_addOrder_36 : decode cX0_addOrder 36 = .ok (.aload_n 0, 1) := by decide +kernel
theorem dX0_addOrder_37 : decode cX0_addOrder 37 = .ok (.getfield 18, 3) := by decide +kernel
theorem dX0_addOrder_40 : decode cX0_addOrder 40 = .ok (.aload_n 0, 1) := by decide +kernel
theorem dX0_addOrder_41 : decode cX0_addOrder 41 = .ok (.getfield 31, 3) := by decide +kernel
theorem dX0_addOrder_44 : decode cX0_addOrder 44 = .ok (.iconst 4, 1) := by decide +kernel
theorem dX0_addOrder_45 : decode cX0_addOrder 45 = .ok (.imul, 1) := by decide +kernel
theorem dX0_addOrder_46 : decode cX0_addOrder 46 = .ok (.iconst 2, 1) := by decide +kernel
theorem dX0_addOrder_47 : decode cX0_addOrder 47 = .ok (.iadd, 1) := by decide +kernel
theorem dX0_addOrder_48 : decode cX0_addOrder 48 = .ok (.iload_n 3, 1) := by decide +kernel
theorem dX0_addOrder_49 : decode cX0_addOrder 49 = .ok (.iastore, 1) := by decide +kernel
theorem dX0_addOrder_50 : decode cX0_addOrder 50 = .ok (.aload_n 0, 1) := by decide +kernel
theorem dX0_addOrder_51 : decode cX0_addOrder 51 = .ok (.getfield 18, 3) := by decide +kernel
theorem dX0_addOrder_54 : decode cX0_addOrder 54 = .ok (.aload_n 0, 1) := by decide +kernel
theorem dX0_addOrder_55 : decode cX0_addOrder 55 = .ok (.getfield 31, 3) := by decide +kernel
theorem dX0_addOrder_58 : decode cX0_addOrder 58 = .ok (.iconst 4, 1) := by decide +kernel
theorem dX0_addOrder_59 : decode cX0_addOrder 59 = .ok (.imul, 1) := by decide +kernel
theorem dX0_addOrder_60 : decode cX0_addOrder 60 = .ok (.iconst 3, 1) := by decide +kernel
theorem dX0_addOrder_61 : decode cX0_addOrder 61 = .ok (.iadd, 1) := by decide +kernel
theorem dX0_addOrder_62 : decode cX0_addOrder 62 = .ok (.iload 4, 2) := by decide +kernel
theorem dX0_addOrder_64 : decode cX0_addOrder 64 = .ok (.ifCond .eq 7, 3) := by decide +kernel
theorem dX0_addOrder_67 : decode cX0_addOrder 67 = .ok (.iconst 1, 1) := by decide +kernel
theorem dX0_addOrder_68 : decode cX0_addOrder 68 = .ok (.goto 4, 3) := by decide +kernel
theorem dX0_addOrder_71 : decode cX0_addOrder 71 = .ok (.iconst 0, 1) := by decide +kernel
theorem dX0_addOrder_72 : decode cX0_addOrder 72 = .ok (.iastore, 1) := by decide +kernel
theorem dX0_addOrder_73 : decode cX0_addOrder 73 = .ok (.aload_n 0, 1) := by decide +kernel
theorem dX0_addOrder_74 : decode cX0_addOrder 74 = .ok (.dup, 1) := by decide +kernel
theorem dX0_addOrder_75 : decode cX0_addOrder 75 = .ok (.getfield 31, 3) := by decide +kernel
theorem dX0_addOrder_78 : decode cX0_addOrder 78 = .ok (.iconst 1, 1) := by decide +kernel
theorem dX0_addOrder_79 : decode cX0_addOrder 79 = .ok (.iadd, 1) := by decide +kernel
theorem dX0_addOrder_80 : decode cX0_addOrder 80 = .ok (.putfield 31, 3) := by decide +kernel
theorem dX0_addOrder_83 : decode cX0_addOrder 83 = .ok (.return_, 1) := by decide +kernel
theorem dX0_addClosed_0 : decode cX0_addClosed 0 = .ok (.aload_n 0, 1) := by decide +kernel
theorem dX0_addClosed_1 : decode cX0_addClosed 1 = .ok (.getfield 34, 3) := by decide +kernel
theorem dX0_addClosed_4 : decode cX0_addClosed 4 = .ok (.bipush 24, 2) := by decide +kernel
theorem dX0_addClosed_6 : decode cX0_addClosed 6 = .ok (.if_icmp .ge 39, 3) := by decide +kernel
theorem dX0_addClosed_9 : decode cX0_addClosed 9 = .ok (.aload_n 0, 1) := by decide +kernel
theorem dX0_addClosed_10 : decode cX0_addClosed 10 = .ok (.getfield 21, 3) := by decide +kernel
theorem dX0_addClosed_13 : decode cX0_addClosed 13 = .ok (.aload_n 0, 1) := by decide +kernel
theorem dX0_addClosed_14 : decode cX0_addClosed 14 = .ok (.getfield 34, 3) := by decide +kernel
theorem dX0_addClosed_17 : decode cX0_addClosed 17 = .ok (.iconst 2, 1) := by decide +kernel
theorem dX0_addClosed_18 : decode cX0_addClosed 18 = .ok (.imul, 1) := by decide +kernel
theorem dX0_addClosed_19 : decode cX0_addClosed 19 = .ok (.iload_n 1, 1) := by decide +kernel
theorem dX0_addClosed_20 : decode cX0_addClosed 20 = .ok (.iastore, 1) := by decide +kernel
theorem dX0_addClosed_21 : decode cX0_addClosed 21 = .ok (.aload_n 0, 1) := by decide +kernel
theorem dX0_addClosed_22 : decode cX0_addClosed 22 = .ok (.getfield 21, 3) := by decide +kernel
theorem dX0_addClosed_25 : decode cX0_addClosed 25 = .ok (.aload_n 0, 1) := by decide +kernel
theorem dX0_addClosed_26 : decode cX0_addClosed 26 = .ok (.getfield 34, 3) := by decide +kernel
theorem dX0_addClosed_29 : decode cX0_addClosed 29 = .ok (.iconst 2, 1) := by decide +kernel
theorem dX0_addClosed_30 : decode cX0_addClosed 30 = .ok (.imul, 1) := by decide +kernel
theorem dX0_addClosed_31 : decode cX0_addClosed 31 = .ok (.iconst 1, 1) := by decide +kernel
theorem dX0_addClosed_32 : decode cX0_addClosed 32 = .ok (.iadd, 1) := by decide +kernel
theorem dX0_addClosed_33 : decode cX0_addClosed 33 = .ok (.iload_n 2, 1) := by decide +kernel
theorem dX0_addClosed_34 : decode cX0_addClosed 34 = .ok (.iastore, 1) := by decide +kernel
theorem dX0_addClosed_35 : decode cX0_addClosed 35 = .ok (.aload_n 0, 1) := by decide +kernel
theorem dX0_addClosed_36 : decode cX0_addClosed 36 = .ok (.dup, 1) := by decide +kernel
theorem dX0_addClosed_37 : decode cX0_addClosed 37 = .ok (.getfield 34, 3) := by decide +kernel
theorem dX0_addClosed_40 : decode cX0_addClosed 40 = .ok (.iconst 1, 1) := by decide +kernel
theorem dX0_addClosed_41 : decode cX0_addClosed 41 = .ok (.iadd, 1) := by decide +kernel
theorem dX0_addClosed_42 : decode cX0_addClosed 42 = .ok (.putfield 34, 3) := by decide +kernel
theorem dX0_addClosed_45 : decode cX0_addClosed 45 = .ok (.return_, 1) := by decide +kernel
theorem dX0_upAt_0 : decode cX0_upAt 0 = .ok (.aload_n 0, 1) := by decide +kernel
theorem dX0_upAt_1 : decode cX0_upAt 1 = .ok (.getfield 9, 3) := by decide +kernel
theorem dX0_upAt_4 : decode cX0_upAt 4 = .ok (.aload_n 0, 1) := by decide +kernel
theorem dX0_upAt_5 : decode cX0_upAt 5 = .ok (.getfield 24, 3) := by decide +kernel
theorem dX0_upAt_8 : decode cX0_upAt 8 = .ok (.iconst 3, 1) := by decide +kernel
theorem dX0_upAt_9 : decode cX0_upAt 9 = .ok (.iload_n 1, 1) := by decide +kernel
theorem dX0_upAt_10 : decode cX0_upAt 10 = .ok (.iload_n 2, 1) := by decide +kernel
theorem dX0_upAt_11 : decode cX0_upAt 11 = .ok (.invokestatic 41, 3) := by decide +kernel
theorem dX0_upAt_14 : decode cX0_upAt 14 = .ok (.ireturn, 1) := by decide +kernel
theorem dX0_halfAt_0 : decode cX0_halfAt 0 = .ok (.aload_n 0, 1) := by decide +kernel
theorem dX0_halfAt_1 : decode cX0_halfAt 1 = .ok (.getfield 15, 3) := by decide +kernel
theorem dX0_halfAt_4 : decode cX0_halfAt 4 = .ok (.aload_n 0, 1) := by decide +kernel
theorem dX0_halfAt_5 : decode cX0_halfAt 5 = .ok (.getfield 28, 3) := by decide +kernel
theorem dX0_halfAt_8 : decode cX0_halfAt 8 = .ok (.sipush 200, 3) := by decide +kernel
theorem dX0_halfAt_11 : decode cX0_halfAt 11 = .ok (.invokestatic 45, 3) := by decide +kernel
theorem dX0_halfAt_14 : decode cX0_halfAt 14 = .ok (.iconst 3, 1) := by decide +kernel
theorem dX0_halfAt_15 : decode cX0_halfAt 15 = .ok (.iload_n 1, 1) := by decide +kernel
theorem dX0_halfAt_16 : decode cX0_halfAt 16 = .ok (.iload_n 2, 1) := by decide +kernel
theorem dX0_halfAt_17 : decode cX0_halfAt 17 = .ok (.invokestatic 41, 3) := by decide +kernel
theorem dX0_halfAt_20 : decode cX0_halfAt 20 = .ok (.ireturn, 1) := by decide +kernel
theorem dX0_orderAt_0 : decode cX0_orderAt 0 = .ok (.aload_n 0, 1) := by decide +kernel
theorem dX0_orderAt_1 : decode cX0_orderAt 1 = .ok (.getfield 18, 3) := by decide +kernel
theorem dX0_orderAt_4 : decode cX0_orderAt 4 = .ok (.aload_n 0, 1) := by decide +kernel
theorem dX0_orderAt_5 : decode cX0_orderAt 5 = .ok (.getfield 31, 3) := by decide +kernel
theorem dX0_orderAt_8 : decode cX0_orderAt 8 = .ok (.sipush 200, 3) := by decide +kernel
theorem dX0_orderAt_11 : decode cX0_orderAt 11 = .ok (.invokestatic 45, 3) := by decide +kernel
theorem dX0_orderAt_14 : decode cX0_orderAt 14 = .ok (.iconst 4, 1) := by decide +kernel
theorem dX0_orderAt_15 : decode cX0_orderAt 15 = .ok (.iload_n 1, 1) := by decide +kernel
theorem dX0_orderAt_16 : decode cX0_orderAt 16 = .ok (.iload_n 2, 1) := by decide +kernel
theorem dX0_orderAt_17 : decode cX0_orderAt 17 = .ok (.invokestatic 41, 3) := by decide +kernel
theorem dX0_orderAt_20 : decode cX0_orderAt 20 = .ok (.ireturn, 1) := by decide +kernel
theorem dX0_closedAt_0 : decode cX0_closedAt 0 = .ok (.aload_n 0, 1) := by decide +kernel
theorem dX0_closedAt_1 : decode cX0_closedAt 1 = .ok (.getfield 21, 3) := by decide +kernel
theorem dX0_closedAt_4 : decode cX0_closedAt 4 = .ok (.aload_n 0, 1) := by decide +kernel
theorem dX0_closedAt_5 : decode cX0_closedAt 5 = .ok (.getfield 34, 3) := by decide +kernel
theorem dX0_closedAt_8 : decode cX0_closedAt 8 = .ok (.iconst 2, 1) := by decide +kernel
theorem dX0_closedAt_9 : decode cX0_closedAt 9 = .ok (.iload_n 1, 1) := by decide +kernel
theorem dX0_closedAt_10 : decode cX0_closedAt 10 = .ok (.iload_n 2, 1) := by decide +kernel
theorem dX0_closedAt_11 : decode cX0_closedAt 11 = .ok (.invokestatic 41, 3) := by decide +kernel
theorem dX0_closedAt_14 : decode cX0_closedAt 14 = .ok (.ireturn, 1) := by decide +kernel
theorem dX0_at_0 : decode cX0_at 0 = .ok (.iload_n 3, 1) := by decide +kernel
theorem dX0_at_1 : decode cX0_at 1 = .ok (.ifCond .lt 23, 3) := by decide +kernel
theorem dX0_at_4 : decode cX0_at 4 = .ok (.iload_n 3, 1) := by decide +kernel
theorem dX0_at_5 : decode cX0_at 5 = .ok (.iload_n 1, 1) := by decide +kernel
theorem dX0_at_6 : decode cX0_at 6 = .ok (.if_icmp .ge 18, 3) := by decide +kernel
theorem dX0_at_9 : decode cX0_at 9 = .ok (.iload 4, 2) := by decide +kernel
theorem dX0_at_11 : decode cX0_at 11 = .ok (.ifCond .lt 13, 3) := by decide +kernel
theorem dX0_at_14 : decode cX0_at 14 = .ok (.iload 4, 2) := by decide +kernel
theorem dX0_at_16 : decode cX0_at 16 = .ok (.iload_n 2, 1) := by decide +kernel
theorem dX0_at_17 : decode cX0_at 17 = .ok (.if_icmp .ge 7, 3) := by decide +kernel
theorem dX0_at_20 : decode cX0_at 20 = .ok (.iconst 1, 1) := by decide +kernel
theorem dX0_at_21 : decode cX0_at 21 = .ok (.goto 4, 3) := by decide +kernel
theorem dX0_at_24 : decode cX0_at 24 = .ok (.iconst 0, 1) := by decide +kernel
theorem dX0_at_25 : decode cX0_at 25 = .ok (.istore 5, 2) := by decide +kernel
theorem dX0_at_27 : decode cX0_at 27 = .ok (.iload 5, 2) := by decide +kernel
theorem dX0_at_29 : decode cX0_at 29 = .ok (.ifCond .eq 14, 3) := by decide +kernel
theorem dX0_at_32 : decode cX0_at 32 = .ok (.aload_n 0, 1) := by decide +kernel
theorem dX0_at_33 : decode cX0_at 33 = .ok (.iload_n 3, 1) := by decide +kernel
theorem dX0_at_34 : decode cX0_at 34 = .ok (.iload_n 2, 1) := by decide +kernel
theorem dX0_at_35 : decode cX0_at 35 = .ok (.imul, 1) := by decide +kernel
theorem dX0_at_36 : decode cX0_at 36 = .ok (.iload 4, 2) := by decide +kernel
theorem dX0_at_38 : decode cX0_at 38 = .ok (.iadd, 1) := by decide +kernel
theorem dX0_at_39 : decode cX0_at 39 = .ok (.iaload, 1) := by decide +kernel
theorem dX0_at_40 : decode cX0_at 40 = .ok (.goto 4, 3) := by decide +kernel
theorem dX0_at_43 : decode cX0_at 43 = .ok (.iconst (-1), 1) := by decide +kernel
theorem dX0_at_44 : decode cX0_at 44 = .ok (.ireturn, 1) := by decide +kernel
theorem dX1_init_0 : decode cX1_init 0 = .ok (.aload_n 0, 1) := by decide +kernel
theorem dX1_init_1 : decode cX1_init 1 = .ok (.invokespecial 3, 3) := by decide +kernel
theorem dX1_init_4 : decode cX1_init 4 = .ok (.aload_n 0, 1) := by decide +kernel
theorem dX1_init_5 : decode cX1_init 5 = .ok (.bipush 10, 2) := by decide +kernel
theorem dX1_init_7 : decode cX1_init 7 = .ok (.newarray .int, 2) := by decide +kernel
theorem dX1_init_9 : decode cX1_init 9 = .ok (.putfield 9, 3) := by decide +kernel
theorem dX1_init_12 : decode cX1_init 12 = .ok (.aload_n 0, 1) := by decide +kernel
theorem dX1_init_13 : decode cX1_init 13 = .ok (.iconst (-1), 1) := by decide +kernel
theorem dX1_init_14 : decode cX1_init 14 = .ok (.putfield 15, 3) := by decide +kernel
theorem dX1_init_17 : decode cX1_init 17 = .ok (.aload_n 0, 1) := by decide +kernel
theorem dX1_init_18 : decode cX1_init 18 = .ok (.iconst 0, 1) := by decide +kernel
theorem dX1_init_19 : decode cX1_init 19 = .ok (.putfield 19, 3) := by decide +kernel
theorem dX1_init_22 : decode cX1_init 22 = .ok (.aload_n 0, 1) := by decide +kernel
theorem dX1_init_23 : decode cX1_init 23 = .ok (.iconst 0, 1) := by decide +kernel
theorem dX1_init_24 : decode cX1_init 24 = .ok (.putfield 22, 3) := by decide +kernel
theorem dX1_init_27 : decode cX1_init 27 = .ok (.aload_n 0, 1) := by decide +kernel
theorem dX1_init_28 : decode cX1_init 28 = .ok (.iconst 0, 1) := by decide +kernel
theorem dX1_init_29 : decode cX1_init 29 = .ok (.putfield 25, 3) := by decide +kernel
theorem dX1_init_32 : decode cX1_init 32 = .ok (.aload_n 0, 1) := by decide +kernel
theorem dX1_init_33 : decode cX1_init 33 = .ok (.iconst 0, 1) := by decide +kernel
theorem dX1_init_34 : decode cX1_init 34 = .ok (.putfield 28, 3) := by decide +kernel
theorem dX1_init_37 : decode cX1_init 37 = .ok (.return_, 1) := by decide +kernel
theorem dX1_open_0 : decode cX1_open 0 = .ok (.aload_n 0, 1) := by decide +kernel
theorem dX1_open_1 : decode cX1_open 1 = .ok (.iload_n 1, 1) := by decide +kernel
theorem dX1_open_2 : decode cX1_open 2 = .ok (.putfield 15, 3) := by decide +kernel
theorem dX1_open_5 : decode cX1_open 5 = .ok (.aload_n 0, 1) := by decide +kernel
theorem dX1_open_6 : decode cX1_open 6 = .ok (.iload_n 2, 1) := by decide +kernel
theorem dX1_open_7 : decode cX1_open 7 = .ok (.putfield 19, 3) := by decide +kernel
theorem dX1_open_10 : decode cX1_open 10 = .ok (.aload_n 0, 1) := by decide +kernel
theorem dX1_open_11 : decode cX1_open 11 = .ok (.iconst 0, 1) := by decide +kernel
theorem dX1_open_12 : decode cX1_open 12 = .ok (.putfield 22, 3) := by decide +kernel
theorem dX1_open_15 : decode cX1_open 15 = .ok (.aload_n 0, 1) := by decide +kernel
theorem dX1_open_16 : decode cX1_open 16 = .ok (.iload_n 3, 1) := by decide +kernel
theorem dX1_open_17 : decode cX1_open 17 = .ok (.putfield 25, 3) := by decide +kernel
theorem dX1_open_20 : decode cX1_open 20 = .ok (.aload_n 0, 1) := by decide +kernel
theorem dX1_open_21 : decode cX1_open 21 = .ok (.iconst 0, 1) := by decide +kernel
theorem dX1_open_22 : decode cX1_open 22 = .ok (.putfield 28, 3) := by decide +kernel
theorem dX1_open_25 : decode cX1_open 25 = .ok (.return_, 1) := by decide +kernel
theorem dX1_addTry_0 : decode cX1_addTry 0 = .ok (.aload_n 0, 1) := by decide +kernel
theorem dX1_addTry_1 : decode cX1_addTry 1 = .ok (.getfield 28, 3) := by decide +kernel
theorem dX1_addTry_4 : decode cX1_addTry 4 = .ok (.aload_n 0, 1) := by decide +kernel
theorem dX1_addTry_5 : decode cX1_addTry 5 = .ok (.getfield 9, 3) := by decide +kernel
theorem dX1_addTry_8 : decode cX1_addTry 8 = .ok (.arraylength, 1) := by decide +kernel
theorem dX1_addTry_9 : decode cX1_addTry 9 = .ok (.if_icmp .ge 23, 3) := by decide +kernel
theorem dX1_addTry_12 : decode cX1_addTry 12 = .ok (.aload_n 0, 1) := by decide +kernel
theorem dX1_addTry_13 : decode cX1_addTry 13 = .ok (.getfield 9, 3) := by decide +kernel
theorem dX1_addTry_16 : decode cX1_addTry 16 = .ok (.aload_n 0, 1) := by decide +kernel
theorem dX1_addTry_17 : decode cX1_addTry 17 = .ok (.getfield 28, 3) := by decide +kernel
theorem dX1_addTry_20 : decode cX1_addTry 20 = .ok (.iload_n 1, 1) := by decide +kernel
theorem dX1_addTry_21 : decode cX1_addTry 21 = .ok (.iastore, 1) := by decide +kernel
theorem dX1_addTry_22 : decode cX1_addTry 22 = .ok (.aload_n 0, 1) := by decide +kernel
theorem dX1_addTry_23 : decode cX1_addTry 23 = .ok (.dup, 1) := by decide +kernel
theorem dX1_addTry_24 : decode cX1_addTry 24 = .ok (.getfield 28, 3) := by decide +kernel
theorem dX1_addTry_27 : decode cX1_addTry 27 = .ok (.iconst 1, 1) := by decide +kernel
theorem dX1_addTry_28 : decode cX1_addTry 28 = .ok (.iadd, 1) := by decide +kernel
theorem dX1_addTry_29 : decode cX1_addTry 29 = .ok (.putfield 28, 3) := by decide +kernel
theorem dX1_addTry_32 : decode cX1_addTry 32 = .ok (.return_, 1) := by decide +kernel
theorem dX2_init_0 : decode cX2_init 0 = .ok (.aload_n 0, 1) := by decide +kernel
theorem dX2_init_1 : decode cX2_init 1 = .ok (.invokespecial 3, 3) := by decide +kernel
theorem dX2_init_4 : decode cX2_init 4 = .ok (.aload_n 0, 1) := by decide +kernel
theorem dX2_init_5 : decode cX2_init 5 = .ok (.bipush 25, 2) := by decide +kernel
theorem dX2_init_7 : decode cX2_init 7 = .ok (.anewarray 9, 3) := by decide +kernel
theorem dX2_init_10 : decode cX2_init 10 = .ok (.putfield 11, 3) := by decide +kernel
theorem dX2_init_13 : decode cX2_init 13 = .ok (.aload_n 0, 1) := by decide +kernel
theorem dX2_init_14 : decode cX2_init 14 = .ok (.sipush 850, 3) := by decide +kernel
theorem dX2_init_17 : decode cX2_init 17 = .ok (.newarray .int, 2) := by decide +kernel
theorem dX2_init_19 : decode cX2_init 19 = .ok (.putfield 17, 3) := by decide +kernel
theorem dX2_init_22 : decode cX2_init 22 = .ok (.aload_n 0, 1) := by decide +kernel
theorem dX2_init_23 : decode cX2_init 23 = .ok (.aconst_null, 1) := by decide +kernel
theorem dX2_init_24 : decode cX2_init 24 = .ok (.putfield 21, 3) := by decide +kernel
theorem dX2_init_27 : decode cX2_init 27 = .ok (.aload_n 0, 1) := by decide +kernel
theorem dX2_init_28 : decode cX2_init 28 = .ok (.aconst_null, 1) := by decide +kernel
theorem dX2_init_29 : decode cX2_init 29 = .ok (.putfield 25, 3) := by decide +kernel
theorem dX2_init_32 : decode cX2_init 32 = .ok (.aload_n 0, 1) := by decide +kernel
theorem dX2_init_33 : decode cX2_init 33 = .ok (.iconst 0, 1) := by decide +kernel
theorem dX2_init_34 : decode cX2_init 34 = .ok (.putfield 29, 3) := by decide +kernel
theorem dX2_init_37 : decode cX2_init 37 = .ok (.aload_n 0, 1) := by decide +kernel
theorem dX2_init_38 : decode cX2_init 38 = .ok (.iconst 0, 1) := by decide +kernel
theorem dX2_init_39 : decode cX2_init 39 = .ok (.putfield 33, 3) := by decide +kernel
theorem dX2_init_42 : decode cX2_init 42 = .ok (.aload_n 0, 1) := by decide +kernel
theorem dX2_init_43 : decode cX2_init 43 = .ok (.iconst (-1), 1) := by decide +kernel
theorem dX2_init_44 : decode cX2_init 44 = .ok (.putfield 36, 3) := by decide +kernel
theorem dX2_init_47 : decode cX2_init 47 = .ok (.aload_n 0, 1) := by decide +kernel
theorem dX2_init_48 : decode cX2_init 48 = .ok (.iconst 0, 1) := by decide +kernel
theorem dX2_init_49 : decode cX2_init 49 = .ok (.putfield 39, 3) := by decide +kernel
theorem dX2_init_52 : decode cX2_init 52 = .ok (.aload_n 0, 1) := by decide +kernel
theorem dX2_init_53 : decode cX2_init 53 = .ok (.iconst 0, 1) := by decide +kernel
theorem dX2_init_54 : decode cX2_init 54 = .ok (.putfield 43, 3) := by decide +kernel
theorem dX2_init_57 : decode cX2_init 57 = .ok (.aload_n 0, 1) := by decide +kernel
theorem dX2_init_58 : decode cX2_init 58 = .ok (.iconst 0, 1) := by decide +kernel
theorem dX2_init_59 : decode cX2_init 59 = .ok (.putfield 46, 3) := by decide +kernel
theorem dX2_init_62 : decode cX2_init 62 = .ok (.aload_n 0, 1) := by decide +kernel
theorem dX2_init_63 : decode cX2_init 63 = .ok (.iconst 0, 1) := by decide +kernel
theorem dX2_init_64 : decode cX2_init 64 = .ok (.putfield 49, 3) := by decide +kernel
theorem dX2_init_67 : decode cX2_init 67 = .ok (.aload_n 0, 1) := by decide +kernel
theorem dX2_init_68 : decode cX2_init 68 = .ok (.iconst 0, 1) := by decide +kernel
theorem dX2_init_69 : decode cX2_init 69 = .ok (.putfield 52, 3) := by decide +kernel
theorem dX2_init_72 : decode cX2_init 72 = .ok (.aload_n 0, 1) := by decide +kernel
theorem dX2_init_73 : decode cX2_init 73 = .ok (.iconst 0, 1) := by decide +kernel
theorem dX2_init_74 : decode cX2_init 74 = .ok (.putfield 55, 3) := by decide +kernel
theorem dX2_init_77 : decode cX2_init 77 = .ok (.aload_n 0, 1) := by decide +kernel
theorem dX2_init_78 : decode cX2_init 78 = .ok (.iconst 0, 1) := by decide +kernel
theorem dX2_init_79 : decode cX2_init 79 = .ok (.putfield 58, 3) := by decide +kernel
theorem dX2_init_82 : decode cX2_init 82 = .ok (.aload_n 0, 1) := by decide +kernel
theorem dX2_init_83 : decode cX2_init 83 = .ok (.iconst 0, 1) := by decide +kernel
theorem dX2_init_84 : decode cX2_init 84 = .ok (.putfield 61, 3) := by decide +kernel
theorem dX2_init_87 : decode cX2_init 87 = .ok (.aload_n 0, 1) := by decide +kernel
theorem dX2_init_88 : decode cX2_init 88 = .ok (.aload_n 1, 1) := by decide +kernel
theorem dX2_init_89 : decode cX2_init 89 = .ok (.putfield 64, 3) := by decide +kernel
theorem dX2_init_92 : decode cX2_init 92 = .ok (.aload_n 0, 1) := by decide +kernel
theorem dX2_init_93 : decode cX2_init 93 = .ok (.aload_n 2, 1) := by decide +kernel
theorem dX2_init_94 : decode cX2_init 94 = .ok (.putfield 68, 3) := by decide +kernel
theorem dX2_init_97 : decode cX2_init 97 = .ok (.iconst 0, 1) := by decide +kernel
theorem dX2_init_98 : decode cX2_init 98 = .ok (.istore_n 3, 1) := by decide +kernel
theorem dX2_init_99 : decode cX2_init 99 = .ok (.iload_n 3, 1) := by decide +kernel
theorem dX2_init_100 : decode cX2_init 100 = .ok (.bipush 25, 2) := by decide +kernel
theorem dX2_init_102 : decode cX2_init 102 = .ok (.if_icmp .ge 22, 3) := by decide +kernel
theorem dX2_init_105 : decode cX2_init 105 = .ok (.aload_n 0, 1) := by decide +kernel
theorem dX2_init_106 : decode cX2_init 106 = .ok (.getfield 11, 3) := by decide +kernel
theorem dX2_init_109 : decode cX2_init 109 = .ok (.iload_n 3, 1) := by decide +kernel
theorem dX2_init_110 : decode cX2_init 110 = .ok (.new 9, 3) := by decide +kernel
theorem dX2_init_113 : decode cX2_init 113 = .ok (.dup, 1) := by decide +kernel
theorem dX2_init_114 : decode cX2_init 114 = .ok (.invokespecial 72, 3) := by decide +kernel
theorem dX2_init_117 : decode cX2_init 117 = .ok (.aastore, 1) := by decide +kernel
theorem dX2_init_118 : decode cX2_init 118 = .ok (.iinc 3 1, 3) := by decide +kernel
theorem dX2_init_121 : decode cX2_init 121 = .ok (.goto (-22), 3) := by decide +kernel
theorem dX2_init_124 : decode cX2_init 124 = .ok (.return_, 1) := by decide +kernel
theorem dX2_runDemand_0 : decode cX2_runDemand 0 = .ok (.aload_n 0, 1) := by decide +kernel
theorem dX2_runDemand_1 : decode cX2_runDemand 1 = .ok (.iload_n 2, 1) := by decide +kernel
theorem dX2_runDemand_2 : decode cX2_runDemand 2 = .ok (.putfield 36, 3) := by decide +kernel
theorem dX2_runDemand_5 : decode cX2_runDemand 5 = .ok (.aload_n 0, 1) := by decide +kernel
theorem dX2_runDemand_6 : decode cX2_runDemand 6 = .ok (.iconst 0, 1) := by decide +kernel
theorem dX2_runDemand_7 : decode cX2_runDemand 7 = .ok (.putfield 39, 3) := by decide +kernel
theorem dX2_runDemand_10 : decode cX2_runDemand 10 = .ok (.aload_n 0, 1) := by decide +kernel
theorem dX2_runDemand_11 : decode cX2_runDemand 11 = .ok (.aload_n 1, 1) := by decide +kernel
theorem dX2_runDemand_12 : decode cX2_runDemand 12 = .ok (.iconst (-1), 1) := by decide +kernel
theorem dX2_runDemand_13 : decode cX2_runDemand 13 = .ok (.aload_n 1, 1) := by decide +kernel
theorem dX2_runDemand_14 : decode cX2_runDemand 14 = .ok (.getfield 73, 3) := by decide +kernel
theorem dX2_runDemand_17 : decode cX2_runDemand 17 = .ok (.iload_n 2, 1) := by decide +kernel
theorem dX2_runDemand_18 : decode cX2_runDemand 18 = .ok (.iaload, 1) := by decide +kernel
theorem dX2_runDemand_19 : decode cX2_runDemand 19 = .ok (.iload_n 3, 1) := by decide +kernel
theorem dX2_runDemand_20 : decode cX2_runDemand 20 = .ok (.invokevirtual 78, 3) := by decide +kernel
theorem dX2_runDemand_23 : decode cX2_runDemand 23 = .ok (.return_, 1) := by decide +kernel
theorem dX2_runClosing_0 : decode cX2_runClosing 0 = .ok (.aload_n 1, 1) := by decide +kernel
theorem dX2_runClosing_1 : decode cX2_runClosing 1 = .ok (.getfield 82, 3) := by decide +kernel
theorem dX2_runClosing_4 : decode cX2_runClosing 4 = .ok (.iload_n 2, 1) := by decide +kernel
theorem dX2_runClosing_5 : decode cX2_runClosing 5 = .ok (.aaload, 1) := by decide +kernel
theorem dX2_runClosing_6 : decode cX2_runClosing 6 = .ok (.getfield 86, 3) := by decide +kernel
theorem dX2_runClosing_9 : decode cX2_runClosing 9 = .ok (.istore_n 3, 1) := by decide +kernel
theorem dX2_runClosing_10 : decode cX2_runClosing 10 = .ok (.iload_n 3, 1) := by decide +kernel
theorem dX2_runClosing_11 : decode cX2_runClosing 11 = .ok (.ifCond .ge 5, 3) := by decide +kernel
theorem dX2_runClosing_14 : decode cX2_runClosing 14 = .ok (.iconst 0, 1) := by decide +kernel
theorem dX2_runClosing_15 : decode cX2_runClosing 15 = .ok (.ireturn, 1) := by decide +kernel
theorem dX2_runClosing_16 : decode cX2_runClosing 16 = .ok (.aload_n 0, 1) := by decide +kernel
theorem dX2_runClosing_17 : decode cX2_runClosing 17 = .ok (.iconst 1, 1) := by decide +kernel
theorem dX2_runClosing_18 : decode cX2_runClosing 18 = .ok (.putfield 39, 3) := by decide +kernel
theorem dX2_runClosing_21 : decode cX2_runClosing 21 = .ok (.aload_n 0, 1) := by decide +kernel
theorem dX2_runClosing_22 : decode cX2_runClosing 22 = .ok (.aload_n 1, 1) := by decide +kernel
theorem dX2_runClosing_23 : decode cX2_runClosing 23 = .ok (.iload_n 2, 1) := by decide +kernel
theorem dX2_runClosing_24 : decode cX2_runClosing 24 = .ok (.iload_n 3, 1) := by decide +kernel
theorem dX2_runClosing_25 : decode cX2_runClosing 25 = .ok (.sipush 2000, 3) := by decide +kernel
theorem dX2_runClosing_28 : decode cX2_runClosing 28 = .ok (.invokevirtual 78, 3) := by decide +kernel
theorem dX2_runClosing_31 : decode cX2_runClosing 31 = .ok (.aload_n 0, 1) := by decide +kernel
theorem dX2_runClosing_32 : decode cX2_runClosing 32 = .ok (.getfield 55, 3) := by decide +kernel
theorem dX2_runClosing_35 : decode cX2_runClosing 35 = .ok (.ifCond .eq 8, 3) := by decide +kernel
theorem dX2_runClosing_38 : decode cX2_runClosing 38 = .ok (.bipush 22, 2) := by decide +kernel
theorem dX2_runClosing_40 : decode cX2_runClosing 40 = .ok (.goto 7, 3) := by decide +kernel
theorem dX2_runClosing_43 : decode cX2_runClosing 43 = .ok (.aload_n 0, 1) := by decide +kernel
theorem dX2_runClosing_44 : decode cX2_runClosing 44 = .ok (.getfield 58, 3) := by decide +kernel
theorem dX2_runClosing_47 : decode cX2_runClosing 47 = .ok (.ireturn, 1) := by decide +kernel
theorem dX2_run_0 : decode cX2_run 0 = .ok (.aload_n 0, 1) := by decide +kernel
theorem dX2_run_1 : decode cX2_run 1 = .ok (.aload_n 1, 1) := by decide +kernel
theorem dX2_run_2 : decode cX2_run 2 = .ok (.putfield 21, 3) := by decide +kernel
theorem dX2_run_5 : decode cX2_run 5 = .ok (.aload_n 0, 1) := by decide +kernel
theorem dX2_run_6 : decode cX2_run 6 = .ok (.iconst 0, 1) := by decide +kernel
theorem dX2_run_7 : decode cX2_run 7 = .ok (.putfield 29, 3) := by decide +kernel
theorem dX2_run_10 : decode cX2_run 10 = .ok (.aload_n 0, 1) := by decide +kernel
theorem dX2_run_11 : decode cX2_run 11 = .ok (.iconst 0, 1) := by decide +kernel
theorem dX2_run_12 : decode cX2_run 12 = .ok (.putfield 33, 3) := by decide +kernel
theorem dX2_run_15 : decode cX2_run 15 = .ok (.aload_n 0, 1) := by decide +kernel
theorem dX2_run_16 : decode cX2_run 16 = .ok (.iload 4, 2) := by decide +kernel
theorem dX2_run_18 : decode cX2_run 18 = .ok (.putfield 43, 3) := by decide +kernel
theorem dX2_run_21 : decode cX2_run 21 = .ok (.aload_n 0, 1) := by decide +kernel
theorem dX2_run_22 : decode cX2_run 22 = .ok (.iconst 0, 1) := by decide +kernel
theorem dX2_run_23 : decode cX2_run 23 = .ok (.putfield 49, 3) := by decide +kernel
theorem dX2_run_26 : decode cX2_run 26 = .ok (.aload_n 0, 1) := by decide +kernel
theorem dX2_run_27 : decode cX2_run 27 = .ok (.iconst 0, 1) := by decide +kernel
theorem dX2_run_28 : decode cX2_run 28 = .ok (.putfield 55, 3) := by decide +kernel
theorem dX2_run_31 : decode cX2_run 31 = .ok (.aload_n 0, 1) := by decide +kernel
theorem dX2_run_32 : decode cX2_run 32 = .ok (.iconst 0, 1) := by decide +kernel
theorem dX2_run_33 : decode cX2_run 33 = .ok (.putfield 58, 3) := by decide +kernel
theorem dX2_run_36 : decode cX2_run 36 = .ok (.aload_n 0, 1) := by decide +kernel
theorem dX2_run_37 : decode cX2_run 37 = .ok (.iconst 0, 1) := by decide +kernel
theorem dX2_run_38 : decode cX2_run 38 = .ok (.putfield 61, 3) := by decide +kernel
theorem dX2_run_41 : decode cX2_run 41 = .ok (.aload_n 0, 1) := by decide +kernel
theorem dX2_run_42 : decode cX2_run 42 = .ok (.iconst 1, 1) := by decide +kernel
theorem dX2_run_43 : decode cX2_run 43 = .ok (.putfield 52, 3) := by decide +kernel
theorem dX2_run_46 : decode cX2_run 46 = .ok (.aload_n 0, 1) := by decide +kernel
theorem dX2_run_47 : decode cX2_run 47 = .ok (.iload_n 2, 1) := by decide +kernel
theorem dX2_run_48 : decode cX2_run 48 = .ok (.iload_n 3, 1) := by decide +kernel
theorem dX2_run_49 : decode cX2_run 49 = .ok (.invokevirtual 90, 3) := by decide +kernel
theorem dX2_run_52 : decode cX2_run 52 = .ok (.iconst 0, 1) := by decide +kernel
theorem dX2_run_53 : decode cX2_run 53 = .ok (.istore 5, 2) := by decide +kernel
theorem dX2_run_55 : decode cX2_run 55 = .ok (.iload 5, 2) := by decide +kernel
theorem dX2_run_57 : decode cX2_run 57 = .ok (.ldc 94, 2) := by decide +kernel
theorem dX2_run_59 : decode cX2_run 59 = .ok (.if_icmp .ge 93, 3) := by decide +kernel
theorem dX2_run_62 : decode cX2_run 62 = .ok (.aload_n 0, 1) := by decide +kernel
theorem dX2_run_63 : decode cX2_run 63 = .ok (.getfield 52, 3) := by decide +kernel
theorem dX2_run_66 : decode cX2_run 66 = .ok (.ifCond .eq 86, 3) := by decide +kernel
theorem dX2_run_69 : decode cX2_run 69 = .ok (.aload_n 0, 1) := by decide +kernel
theorem dX2_run_70 : decode cX2_run 70 = .ok (.getfield 25, 3) := by decide +kernel
theorem dX2_run_73 : decode cX2_run 73 = .ok (.getfield 95, 3) := by decide +kernel
theorem dX2_run_76 : decode cX2_run 76 = .ok (.istore 6, 2) := by decide +kernel
theorem dX2_run_78 : decode cX2_run 78 = .ok (.iload 6, 2) := by decide +kernel
theorem dX2_run_80 : decode cX2_run 80 = .ok (.ifCond .lt 22, 3) := by decide +kernel
theorem dX2_run_83 : decode cX2_run 83 = .ok (.iload 6, 2) := by decide +kernel
theorem dX2_run_85 : decode cX2_run 85 = .ok (.aload_n 1, 1) := by decide +kernel
theorem dX2_run_86 : decode cX2_run 86 = .ok (.getfield 98, 3) := by decide +kernel
theorem dX2_run_89 : decode cX2_run 89 = .ok (.if_icmp .ge 13, 3) := by decide +kernel
theorem dX2_run_92 : decode cX2_run 92 = .ok (.aload_n 1, 1) := by decide +kernel
theorem dX2_run_93 : decode cX2_run 93 = .ok (.getfield 101, 3) := by decide +kernel
theorem dX2_run_96 : decode cX2_run 96 = .ok (.iload 6, 2) := by decide +kernel
theorem dX2_run_98 : decode cX2_run 98 = .ok (.laload, 1) := by decide +kernel
theorem dX2_run_99 : decode cX2_run 99 = .ok (.goto 6, 3) := by decide +kernel
theorem dX2_run_102 : decode cX2_run 102 = .ok (.ldc2_w 105, 3) := by decide +kernel
theorem dX2_run_105 : decode cX2_run 105 = .ok (.lstore 7, 2) := by decide +kernel
theorem dX2_run_107 : decode cX2_run 107 = .ok (.aload_n 0, 1) := by decide +kernel
theorem dX2_run_108 : decode cX2_run 108 = .ok (.getfield 25, 3) := by decide +kernel
theorem dX2_run_111 : decode cX2_run 111 = .ok (.dup, 1) := by decide +kernel
theorem dX2_run_112 : decode cX2_run 112 = .ok (.getfield 95, 3) := by decide +kernel
theorem dX2_run_115 : decode cX2_run 115 = .ok (.iconst 1, 1) := by decide +kernel
theorem dX2_run_116 : decode cX2_run 116 = .ok (.iadd, 1) := by decide +kernel
theorem dX2_run_117 : decode cX2_run 117 = .ok (.putfield 95, 3) := by decide +kernel
theorem dX2_run_120 : decode cX2_run 120 = .ok (.aload_n 0, 1) := by decide +kernel
theorem dX2_run_121 : decode cX2_run 121 = .ok (.lload 7, 2) := by decide +kernel
theorem dX2_run_123 : decode cX2_run 123 = .ok (.l2i, 1) := by decide +kernel
theorem dX2_run_124 : decode cX2_run 124 = .ok (.sipush 255, 3) := by decide +kernel
theorem dX2_run_127 : decode cX2_run 127 = .ok (.iand, 1) := by decide +kernel
theorem dX2_run_128 : decode cX2_run 128 = .ok (.lload 7, 2) := by decide +kernel
theorem dX2_run_130 : decode cX2_run 130 = .ok (.bipush 8, 2) := by decide +kernel
theorem dX2_run_132 : decode cX2_run 132 = .ok (.lshr, 1) := by decide +kernel
theorem dX2_run_133 : decode cX2_run 133 = .ok (.l2i, 1) := by decide +kernel
theorem dX2_run_134 : decode cX2_run 134 = .ok (.ldc 107, 2) := by decide +kernel
theorem dX2_run_136 : decode cX2_run 136 = .ok (.iand, 1) := by decide +kernel
theorem dX2_run_137 : decode cX2_run 137 = .ok (.lload 7, 2) := by decide +kernel
theorem dX2_run_139 : decode cX2_run 139 = .ok (.bipush 32, 2) := by decide +kernel
theorem dX2_run_141 : decode cX2_run 141 = .ok (.lshr, 1) := by decide +kernel
theorem dX2_run_142 : decode cX2_run 142 = .ok (.l2i, 1) := by decide +kernel
theorem dX2_run_143 : decode cX2_run 143 = .ok (.invokevirtual 108, 3) := by decide +kernel
theorem dX2_run_146 : decode cX2_run 146 = .ok (.iinc 5 1, 3) := by decide +kernel
theorem dX2_run_149 : decode cX2_run 149 = .ok (.goto (-94), 3) := by decide +kernel
theorem dX2_run_152 : decode cX2_run 152 = .ok (.return_, 1) := by decide +kernel
theorem dX2_enter_0 : decode cX2_enter 0 = .ok (.aload_n 0, 1) := by decide +kernel
theorem dX2_enter_1 : decode cX2_enter 1 = .ok (.getfield 29, 3) := by decide +kernel
theorem dX2_enter_4 : decode cX2_enter 4 = .ok (.aload_n 0, 1) := by decide +kernel
theorem dX2_enter_5 : decode cX2_enter 5 = .ok (.getfield 11, 3) := by decide +kernel
theorem dX2_enter_8 : decode cX2_enter 8 = .ok (.arraylength, 1) := by decide +kernel
theorem dX2_enter_9 : decode cX2_enter 9 = .ok (.if_icmp .ge 39, 3) := by decide +kernel
theorem dX2_enter_12 : decode cX2_enter 12 = .ok (.aload_n 0, 1) := by decide +kernel
theorem dX2_enter_13 : decode cX2_enter 13 = .ok (.aload_n 0, 1) := by decide +kernel
theorem dX2_enter_14 : decode cX2_enter 14 = .ok (.getfield 11, 3) := by decide +kernel
theorem dX2_enter_17 : decode cX2_enter 17 = .ok (.aload_n 0, 1) := by decide +kernel
theorem dX2_enter_18 : decode cX2_enter 18 = .ok (.getfield 29, 3) := by decide +kernel
theorem dX2_enter_21 : decode cX2_enter 21 = .ok (.aaload, 1) := by decide +kernel
theorem dX2_enter_22 : decode cX2_enter 22 = .ok (.putfield 25, 3) := by decide +kernel
theorem dX2_enter_25 : decode cX2_enter 25 = .ok (.aload_n 0, 1) := by decide +kernel
theorem dX2_enter_26 : decode cX2_enter 26 = .ok (.getfield 25, 3) := by decide +kernel
theorem dX2_enter_29 : decode cX2_enter 29 = .ok (.iload_n 1, 1) := by decide +kernel
theorem dX2_enter_30 : decode cX2_enter 30 = .ok (.iload_n 2, 1) := by decide +kernel
theorem dX2_enter_31 : decode cX2_enter 31 = .ok (.aload_n 0, 1) := by decide +kernel
theorem dX2_enter_32 : decode cX2_enter 32 = .ok (.getfield 33, 3) := by decide +kernel
theorem dX2_enter_35 : decode cX2_enter 35 = .ok (.invokevirtual 112, 3) := by decide +kernel
theorem dX2_enter_38 : decode cX2_enter 38 = .ok (.aload_n 0, 1) := by decide +kernel
theorem dX2_enter_39 : decode cX2_enter 39 = .ok (.dup, 1) := by decide +kernel
theorem dX2_enter_40 : decode cX2_enter 40 = .ok (.getfield 29, 3) := by decide +kernel
theorem dX2_enter_43 : decode cX2_enter 43 = .ok (.iconst 1, 1) := by decide +kernel
theorem dX2_enter_44 : decode cX2_enter 44 = .ok (.iadd, 1) := by decide +kernel
theorem dX2_enter_45 : decode cX2_enter 45 = .ok (.putfield 29, 3) := by decide +kernel
theorem dX2_enter_48 : decode cX2_enter 48 = .ok (.return_, 1) := by decide +kernel
theorem dX2_perform_0 : decode cX2_perform 0 = .ok (.iload_n 1, 1) := by decide +kernel
theorem dX2_perform_1 : decode cX2_perform 1 = .ok (.tableswitch 248 1 20 #[95, 102, 110, 123, 132, 141, 155, 164, 248, 248, 248, 248, 205, 217, 233, 248, 248, 248, 248, 241], 95) := by decide +kernel
theorem dX2_perform_96 : decode cX2_perform 96 = .ok (.aload_n 0, 1) := by decide +kernel
theorem dX2_perform_97 : decode cX2_perform 97 = .ok (.invokevirtual 114, 3) := by decide +kernel
theorem dX2_perform_100 : decode cX2_perform 100 = .ok (.goto 155, 3) := by decide +kernel
theorem dX2_perform_103 : decode cX2_perform 103 = .ok (.aload_n 0, 1) := by decide +kernel
theorem dX2_perform_104 : decode cX2_perform 104 = .ok (.iload_n 3, 1) := by decide +kernel
theorem dX2_perform_105 : decode cX2_perform 105 = .ok (.invokevirtual 117, 3) := by decide +kernel
theorem dX2_perform_108 : decode cX2_perform 108 = .ok (.goto 147, 3) := by decide +kernel
theorem dX2_perform_111 : decode cX2_perform 111 = .ok (.aload_n 0, 1) := by decide +kernel
theorem dX2_perform_112 : decode cX2_perform 112 = .ok (.iload_n 2, 1) := by decide +kernel
theorem dX2_perform_113 : decode cX2_perform 113 = .ok (.invokevirtual 121, 3) := by decide +kernel
theorem dX2_perform_116 : decode cX2_perform 116 = .ok (.aload_n 0, 1) := by decide +kernel
theorem dX2_perform_117 : decode cX2_perform 117 = .ok (.iload_n 3, 1) := by decide +kernel
theorem dX2_perform_118 : decode cX2_perform 118 = .ok (.invokevirtual 117, 3) := by decide +kernel
theorem dX2_perform_121 : decode cX2_perform 121 = .ok (.goto 134, 3) := by decide +kernel
theorem dX2_perform_124 : decode cX2_perform 124 = .ok (.aload_n 0, 1) := by decide +kernel
theorem dX2_perform_125 : decode cX2_perform 125 = .ok (.iload_n 2, 1) := by decide +kernel
theorem dX2_perform_126 : decode cX2_perform 126 = .ok (.iload_n 3, 1) := by decide +kernel
theorem dX2_perform_127 : decode cX2_perform 127 = .ok (.invokevirtual 124, 3) := by decide +kernel
theorem dX2_perform_130 : decode cX2_perform 130 = .ok (.goto 125, 3) := by decide +kernel
theorem dX2_perform_133 : decode cX2_perform 133 = .ok (.aload_n 0, 1) := by decide +kernel
theorem dX2_perform_134 : decode cX2_perform 134 = .ok (.iload_n 2, 1) := by decide +kernel
theorem dX2_perform_135 : decode cX2_perform 135 = .ok (.iload_n 3, 1) := by decide +kernel
theorem dX2_perform_136 : decode cX2_perform 136 = .ok (.invokevirtual 127, 3) := by decide +kernel
theorem dX2_perform_139 : decode cX2_perform 139 = .ok (.goto 116, 3) := by decide +kernel
theorem dX2_perform_142 : decode cX2_perform 142 = .ok (.aload_n 0, 1) := by decide +kernel
theorem dX2_perform_143 : decode cX2_perform 143 = .ok (.iload_n 2, 1) := by decide +kernel
theorem dX2_perform_144 : decode cX2_perform 144 = .ok (.invokevirtual 121, 3) := by decide +kernel
theorem dX2_perform_147 : decode cX2_perform 147 = .ok (.aload_n 0, 1) := by decide +kernel
theorem dX2_perform_148 : decode cX2_perform 148 = .ok (.iload_n 2, 1) := by decide +kernel
theorem dX2_perform_149 : decode cX2_perform 149 = .ok (.invokevirtual 130, 3) := by decide +kernel
theorem dX2_perform_152 : decode cX2_perform 152 = .ok (.pop, 1) := by decide +kernel
theorem dX2_perform_153 : decode cX2_perform 153 = .ok (.goto 102, 3) := by decide +kernel
theorem dX2_perform_156 : decode cX2_perform 156 = .ok (.aload_n 0, 1) := by decide +kernel
theorem dX2_perform_157 : decode cX2_perform 157 = .ok (.iload_n 2, 1) := by decide +kernel
theorem dX2_perform_158 : decode cX2_perform 158 = .ok (.invokevirtual 130, 3) := by decide +kernel
theorem dX2_perform_161 : decode cX2_perform 161 = .ok (.pop, 1) := by decide +kernel
theorem dX2_perform_162 : decode cX2_perform 162 = .ok (.goto 93, 3) := by decide +kernel
theorem dX2_perform_165 : decode cX2_perform 165 = .ok (.aload_n 0, 1) := by decide +kernel
theorem dX2_perform_166 : decode cX2_perform 166 = .ok (.getfield 64, 3) := by decide +kernel
theorem dX2_perform_169 : decode cX2_perform 169 = .ok (.aload_n 0, 1) := by decide +kernel
theorem dX2_perform_170 : decode cX2_perform 170 = .ok (.getfield 25, 3) := by decide +kernel
theorem dX2_perform_173 : decode cX2_perform 173 = .ok (.getfield 134, 3) := by decide +kernel
theorem dX2_perform_176 : decode cX2_perform 176 = .ok (.aload_n 0, 1) := by decide +kernel
theorem dX2_perform_177 : decode cX2_perform 177 = .ok (.getfield 64, 3) := by decide +kernel
theorem dX2_perform_180 : decode cX2_perform 180 = .ok (.getfield 137, 3) := by decide +kernel
theorem dX2_perform_183 : decode cX2_perform 183 = .ok (.aload_n 0, 1) := by decide +kernel
theorem dX2_perform_184 : decode cX2_perform 184 = .ok (.getfield 25, 3) := by decide +kernel
theorem dX2_perform_187 : decode cX2_perform 187 = .ok (.getfield 134, 3) := by decide +kernel
theorem dX2_perform_190 : decode cX2_perform 190 = .ok (.iaload, 1) := by decide +kernel
theorem dX2_perform_191 : decode cX2_perform 191 = .ok (.invokevirtual 142, 3) := by decide +kernel
theorem dX2_perform_194 : decode cX2_perform 194 = .ok (.ifCond .eq 61, 3) := by decide +kernel
theorem dX2_perform_197 : decode cX2_perform 197 = .ok (.aload_n 0, 1) := by decide +kernel
theorem dX2_perform_198 : decode cX2_perform 198 = .ok (.bipush 14, 2) := by decide +kernel
theorem dX2_perform_200 : decode cX2_perform 200 = .ok (.invokevirtual 146, 3) := by decide +kernel
theorem dX2_perform_203 : decode cX2_perform 203 = .ok (.goto 52, 3) := by decide +kernel
theorem dX2_perform_206 : decode cX2_perform 206 = .ok (.aload_n 0, 1) := by decide +kernel
theorem dX2_perform_207 : decode cX2_perform 207 = .ok (.iload_n 2, 1) := by decide +kernel
theorem dX2_perform_208 : decode cX2_perform 208 = .ok (.aload_n 0, 1) := by decide +kernel
theorem dX2_perform_209 : decode cX2_perform 209 = .ok (.invokevirtual 149, 3) := by decide +kernel
theorem dX2_perform_212 : decode cX2_perform 212 = .ok (.invokevirtual 153, 3) := by decide +kernel
theorem dX2_perform_215 : decode cX2_perform 215 = .ok (.goto 40, 3) := by decide +kernel
theorem dX2_perform_218 : decode cX2_perform 218 = .ok (.aload_n 0, 1) := by decide +kernel
theorem dX2_perform_219 : decode cX2_perform 219 = .ok (.invokevirtual 149, 3) := by decide +kernel
theorem dX2_perform_222 : decode cX2_perform 222 = .ok (.ifCond .ne 33, 3) := by decide +kernel
theorem dX2_perform_225 : decode cX2_perform 225 = .ok (.aload_n 0, 1) := by decide +kernel
theorem dX2_perform_226 : decode cX2_perform 226 = .ok (.bipush 11, 2) := by decide +kernel
theorem dX2_perform_228 : decode cX2_perform 228 = .ok (.invokevirtual 146, 3) := by decide +kernel
theorem dX2_perform_231 : decode cX2_perform 231 = .ok (.goto 24, 3) := by decide +kernel
theorem dX2_perform_234 : decode cX2_perform 234 = .ok (.aload_n 0, 1) := by decide +kernel
theorem dX2_perform_235 : decode cX2_perform 235 = .ok (.iload_n 2, 1) := by decide +kernel
theorem dX2_perform_236 : decode cX2_perform 236 = .ok (.invokevirtual 146, 3) := by decide +kernel
theorem dX2_perform_239 : decode cX2_perform 239 = .ok (.goto 16, 3) := by decide +kernel
theorem dX2_perform_242 : decode cX2_perform 242 = .ok (.aload_n 0, 1) := by decide +kernel
theorem dX2_perform_243 : decode cX2_perform 243 = .ok (.invokevirtual 156, 3) := by decide +kernel
theorem dX2_perform_246 : decode cX2_perform 246 = .ok (.goto 9, 3) := by decide +kernel
theorem dX2_perform_249 : decode cX2_perform 249 = .ok (.aload_n 0, 1) := by decide +kernel
theorem dX2_perform_250 : decode cX2_perform 250 = .ok (.iload_n 1, 1) := by decide +kernel
theorem dX2_perform_251 : decode cX2_perform 251 = .ok (.iload_n 2, 1) := by decide +kernel
theorem dX2_perform_252 : decode cX2_perform 252 = .ok (.invokevirtual 159, 3) := by decide +kernel
theorem dX2_perform_255 : decode cX2_perform 255 = .ok (.return_, 1) := by decide +kernel
theorem dX2_performPlain_0 : decode cX2_performPlain 0 = .ok (.iload_n 1, 1) := by decide +kernel
theorem dX2_performPlain_1 : decode cX2_performPlain 1 = .ok (.tableswitch 171 9 19 #[59, 71, 87, 101, 171, 171, 171, 115, 126, 144, 155], 59) := by decide +kernel
theorem dX2_performPlain_60 : decode cX2_performPlain 60 = .ok (.aload_n 0, 1) := by decide +kernel
theorem dX2_performPlain_61 : decode cX2_performPlain 61 = .ok (.aload_n 0, 1) := by decide +kernel
theorem dX2_performPlain_62 : decode cX2_performPlain 62 = .ok (.invokevirtual 149, 3) := by decide +kernel
theorem dX2_performPlain_65 : decode cX2_performPlain 65 = .ok (.ineg, 1) := by decide +kernel
theorem dX2_performPlain_66 : decode cX2_performPlain 66 = .ok (.invokevirtual 117, 3) := by decide +kernel
theorem dX2_performPlain_69 : decode cX2_performPlain 69 = .ok (.goto 118, 3) := by decide +kernel
theorem dX2_performPlain_72 : decode cX2_performPlain 72 = .ok (.aload_n 0, 1) := by decide +kernel
theorem dX2_performPlain_73 : decode cX2_performPlain 73 = .ok (.aload_n 0, 1) := by decide +kernel
theorem dX2_performPlain_74 : decode cX2_performPlain 74 = .ok (.getfield 64, 3) := by decide +kernel
theorem dX2_performPlain_77 : decode cX2_performPlain 77 = .ok (.getfield 162, 3) := by decide +kernel
theorem dX2_performPlain_80 : decode cX2_performPlain 80 = .ok (.iload_n 2, 1) := by decide +kernel
theorem dX2_performPlain_81 : decode cX2_performPlain 81 = .ok (.iaload, 1) := by decide +kernel
theorem dX2_performPlain_82 : decode cX2_performPlain 82 = .ok (.invokevirtual 117, 3) := by decide +kernel
theorem dX2_performPlain_85 : decode cX2_performPlain 85 = .ok (.goto 102, 3) := by decide +kernel
theorem dX2_performPlain_88 : decode cX2_performPlain 88 = .ok (.aload_n 0, 1) := by decide +kernel
theorem dX2_performPlain_89 : decode cX2_performPlain 89 = .ok (.aload_n 0, 1) := by decide +kernel
theorem dX2_performPlain_90 : decode cX2_performPlain 90 = .ok (.getfield 25, 3) := by decide +kernel
theorem dX2_performPlain_93 : decode cX2_performPlain 93 = .ok (.getfield 165, 3) := by decide +kernel
theorem dX2_performPlain_96 : decode cX2_performPlain 96 = .ok (.invokevirtual 117, 3) := by decide +kernel
theorem dX2_performPlain_99 : decode cX2_performPlain 99 = .ok (.goto 88, 3) := by decide +kernel
theorem dX2_performPlain_102 : decode cX2_performPlain 102 = .ok (.aload_n 0, 1) := by decide +kernel
theorem dX2_performPlain_103 : decode cX2_performPlain 103 = .ok (.aload_n 0, 1) := by decide +kernel
theorem dX2_performPlain_104 : decode cX2_performPlain 104 = .ok (.getfield 64, 3) := by decide +kernel
theorem dX2_performPlain_107 : decode cX2_performPlain 107 = .ok (.getfield 168, 3) := by decide +kernel
theorem dX2_performPlain_110 : decode cX2_performPlain 110 = .ok (.invokevirtual 117, 3) := by decide +kernel
theorem dX2_performPlain_113 : decode cX2_performPlain 113 = .ok (.goto 74, 3) := by decide +kernel
theorem dX2_performPlain_116 : decode cX2_performPlain 116 = .ok (.aload_n 0, 1) := by decide +kernel
theorem dX2_performPlain_117 : decode cX2_performPlain 117 = .ok (.getfield 25, 3) := by decide +kernel
theorem dX2_performPlain_120 : decode cX2_performPlain 120 = .ok (.iload_n 2, 1) := by decide +kernel
theorem dX2_performPlain_121 : decode cX2_performPlain 121 = .ok (.putfield 95, 3) := by decide +kernel
theorem dX2_performPlain_124 : decode cX2_performPlain 124 = .ok (.goto 63, 3) := by decide +kernel
theorem dX2_performPlain_127 : decode cX2_performPlain 127 = .ok (.aload_n 0, 1) := by decide +kernel
theorem dX2_performPlain_128 : decode cX2_performPlain 128 = .ok (.invokevirtual 149, 3) := by decide +kernel
theorem dX2_performPlain_131 : decode cX2_performPlain 131 = .ok (.ifCond .ne 56, 3) := by decide +kernel
theorem dX2_performPlain_134 : decode cX2_performPlain 134 = .ok (.aload_n 0, 1) := by decide +kernel
theorem dX2_performPlain_135 : decode cX2_performPlain 135 = .ok (.getfield 25, 3) := by decide +kernel
theorem dX2_performPlain_138 : decode cX2_performPlain 138 = .ok (.iload_n 2, 1) := by decide +kernel
theorem dX2_performPlain_139 : decode cX2_performPlain 139 = .ok (.putfield 95, 3) := by decide +kernel
theorem dX2_performPlain_142 : decode cX2_performPlain 142 = .ok (.goto 45, 3) := by decide +kernel
theorem dX2_performPlain_145 : decode cX2_performPlain 145 = .ok (.aload_n 0, 1) := by decide +kernel
theorem dX2_performPlain_146 : decode cX2_performPlain 146 = .ok (.getfield 25, 3) := by decide +kernel
theorem dX2_performPlain_149 : decode cX2_performPlain 149 = .ok (.iload_n 2, 1) := by decide +kernel
theorem dX2_performPlain_150 : decode cX2_performPlain 150 = .ok (.invokevirtual 171, 3) := by decide +kernel
theorem dX2_performPlain_153 : decode cX2_performPlain 153 = .ok (.goto 34, 3) := by decide +kernel
theorem dX2_performPlain_156 : decode cX2_performPlain 156 = .ok (.aload_n 0, 1) := by decide +kernel
theorem dX2_performPlain_157 : decode cX2_performPlain 157 = .ok (.getfield 25, 3) := by decide +kernel
theorem dX2_performPlain_160 : decode cX2_performPlain 160 = .ok (.dup, 1) := by decide +kernel
theorem dX2_performPlain_161 : decode cX2_performPlain 161 = .ok (.getfield 174, 3) := by decide +kernel
theorem dX2_performPlain_164 : decode cX2_performPlain 164 = .ok (.iconst 1, 1) := by decide +kernel
theorem dX2_performPlain_165 : decode cX2_performPlain 165 = .ok (.isub, 1) := by decide +kernel
theorem dX2_performPlain_166 : decode cX2_performPlain 166 = .ok (.putfield 174, 3) := by decide +kernel
theorem dX2_performPlain_169 : decode cX2_performPlain 169 = .ok (.goto 18, 3) := by decide +kernel
theorem dX2_performPlain_172 : decode cX2_performPlain 172 = .ok (.aload_n 0, 1) := by decide +kernel
theorem dX2_performPlain_173 : decode cX2_performPlain 173 = .ok (.invokevirtual 149, 3) := by decide +kernel
theorem dX2_performPlain_176 : decode cX2_performPlain 176 = .ok (.istore_n 3, 1) := by decide +kernel
theorem dX2_performPlain_177 : decode cX2_performPlain 177 = .ok (.aload_n 0, 1) := by decide +kernel
theorem dX2_performPlain_178 : decode cX2_performPlain 178 = .ok (.iload_n 1, 1) := by decide +kernel
theorem dX2_performPlain_179 : decode cX2_performPlain 179 = .ok (.aload_n 0, 1) := by decide +kernel
theorem dX2_performPlain_180 : decode cX2_performPlain 180 = .ok (.invokevirtual 149, 3) := by decide +kernel
theorem dX2_performPlain_183 : decode cX2_performPlain 183 = .ok (.iload_n 3, 1) := by decide +kernel
theorem dX2_performPlain_184 : decode cX2_performPlain 184 = .ok (.invokevirtual 177, 3) := by decide +kernel
theorem dX2_performPlain_187 : decode cX2_performPlain 187 = .ok (.return_, 1) := by decide +kernel
theorem dX2_reckon_0 : decode cX2_reckon 0 = .ok (.iload_n 1, 1) := by decide +kernel
theorem dX2_reckon_1 : decode cX2_reckon 1 = .ok (.lookupswitch 115 #[(42, 71), (43, 51), (45, 61), (60, 81), (61, 98)], 51) := by decide +kernel
theorem dX2_reckon_52 : decode cX2_reckon 52 = .ok (.aload_n 0, 1) := by decide +kernel
theorem dX2_reckon_53 : decode cX2_reckon 53 = .ok (.iload_n 2, 1) := by decide +kernel
theorem dX2_reckon_54 : decode cX2_reckon 54 = .ok (.iload_n 3, 1) := by decide +kernel
theorem dX2_reckon_55 : decode cX2_reckon 55 = .ok (.iadd, 1) := by decide +kernel
theorem dX2_reckon_56 : decode cX2_reckon 56 = .ok (.invokevirtual 117, 3) := by decide +kernel
theorem dX2_reckon_59 : decode cX2_reckon 59 = .ok (.goto 89, 3) := by decide +kernel
theorem dX2_reckon_62 : decode cX2_reckon 62 = .ok (.aload_n 0, 1) := by decide +kernel
theorem dX2_reckon_63 : decode cX2_reckon 63 = .ok (.iload_n 2, 1) := by decide +kernel
theorem dX2_reckon_64 : decode cX2_reckon 64 = .ok (.iload_n 3, 1) := by decide +kernel
theorem dX2_reckon_65 : decode cX2_reckon 65 = .ok (.isub, 1) := by decide +kernel
theorem dX2_reckon_66 : decode cX2_reckon 66 = .ok (.invokevirtual 117, 3) := by decide +kernel
theorem dX2_reckon_69 : decode cX2_reckon 69 = .ok (.goto 79, 3) := by decide +kernel
theorem dX2_reckon_72 : decode cX2_reckon 72 = .ok (.aload_n 0, 1) := by decide +kernel
theorem dX2_reckon_73 : decode cX2_reckon 73 = .ok (.iload_n 2, 1) := by decide +kernel
theorem dX2_reckon_74 : decode cX2_reckon 74 = .ok (.iload_n 3, 1) := by decide +kernel
theorem dX2_reckon_75 : decode cX2_reckon 75 = .ok (.imul, 1) := by decide +kernel
theorem dX2_reckon_76 : decode cX2_reckon 76 = .ok (.invokevirtual 117, 3) := by decide +kernel
theorem dX2_reckon_79 : decode cX2_reckon 79 = .ok (.goto 69, 3) := by decide +kernel
theorem dX2_reckon_82 : decode cX2_reckon 82 = .ok (.aload_n 0, 1) := by decide +kernel
theorem dX2_reckon_83 : decode cX2_reckon 83 = .ok (.iload_n 2, 1) := by decide +kernel
theorem dX2_reckon_84 : decode cX2_reckon 84 = .ok (.iload_n 3, 1) := by decide +kernel
theorem dX2_reckon_85 : decode cX2_reckon 85 = .ok (.if_icmp .ge 7, 3) := by decide +kernel
theorem dX2_reckon_88 : decode cX2_reckon 88 = .ok (.iconst 1, 1) := by decide +kernel
theorem dX2_reckon_89 : decode cX2_reckon 89 = .ok (.goto 4, 3) := by decide +kernel
theorem dX2_reckon_92 : decode cX2_reckon 92 = .ok (.iconst 0, 1) := by decide +kernel
theorem dX2_reckon_93 : decode cX2_reckon 93 = .ok (.invokevirtual 117, 3) := by decide +kernel
theorem dX2_reckon_96 : decode cX2_reckon 96 = .ok (.goto 52, 3) := by decide +kernel
theorem dX2_reckon_99 : decode cX2_reckon 99 = .ok (.aload_n 0, 1) := by decide +kernel
theorem dX2_reckon_100 : decode cX2_reckon 100 = .ok (.iload_n 2, 1) := by decide +kernel
theorem dX2_reckon_101 : decode cX2_reckon 101 = .ok (.iload_n 3, 1) := by decide +kernel
theorem dX2_reckon_102 : decode cX2_reckon 102 = .ok (.if_icmp .ne 7, 3) := by decide +kernel
theorem dX2_reckon_105 : decode cX2_reckon 105 = .ok (.iconst 1, 1) := by decide +kernel
theorem dX2_reckon_106 : decode cX2_reckon 106 = .ok (.goto 4, 3) := by decide +kernel
theorem dX2_reckon_109 : decode cX2_reckon 109 = .ok (.iconst 0, 1) := by decide +kernel
theorem dX2_reckon_110 : decode cX2_reckon 110 = .ok (.invokevirtual 117, 3) := by decide +kernel
theorem dX2_reckon_113 : decode cX2_reckon 113 = .ok (.goto 35, 3) := by decide +kernel
theorem dX2_reckon_116 : decode cX2_reckon 116 = .ok (.iload_n 3, 1) := by decide +kernel
theorem dX2_reckon_117 : decode cX2_reckon 117 = .ok (.ifCond .ne 12, 3) := by decide +kernel
theorem dX2_reckon_120 : decode cX2_reckon 120 = .ok (.aload_n 0, 1) := by decide +kernel
theorem dX2_reckon_121 : decode cX2_reckon 121 = .ok (.bipush 13, 2) := by decide +kernel
theorem dX2_reckon_123 : decode cX2_reckon 123 = .ok (.invokevirtual 146, 3) := by decide +kernel
theorem dX2_reckon_126 : decode cX2_reckon 126 = .ok (.goto 22, 3) := by decide +kernel
theorem dX2_reckon_129 : decode cX2_reckon 129 = .ok (.aload_n 0, 1) := by decide +kernel
theorem dX2_reckon_130 : decode cX2_reckon 130 = .ok (.iload_n 1, 1) := by decide +kernel
theorem dX2_reckon_131 : decode cX2_reckon 131 = .ok (.bipush 47, 2) := by decide +kernel
theorem dX2_reckon_133 : decode cX2_reckon 133 = .ok (.if_icmp .ne 9, 3) := by decide +kernel
theorem dX2_reckon_136 : decode cX2_reckon 136 = .ok (.iload_n 2, 1) := by decide +kernel
theorem dX2_reckon_137 : decode cX2_reckon 137 = .ok (.iload_n 3, 1) := by decide +kernel
theorem dX2_reckon_138 : decode cX2_reckon 138 = .ok (.idiv, 1) := by decide +kernel
theorem dX2_reckon_139 : decode cX2_reckon 139 = .ok (.goto 6, 3) := by decide +kernel
theorem dX2_reckon_142 : decode cX2_reckon 142 = .ok (.iload_n 2, 1) := by decide +kernel
theorem dX2_reckon_143 : decode cX2_reckon 143 = .ok (.iload_n 3, 1) := by decide +kernel
theorem dX2_reckon_144 : decode cX2_reckon 144 = .ok (.irem, 1) := by decide +kernel
theorem dX2_reckon_145 : decode cX2_reckon 145 = .ok (.invokevirtual 117, 3) := by decide +kernel
theorem dX2_reckon_148 : decode cX2_reckon 148 = .ok (.return_, 1) := by decide +kernel
theorem dX2_push_0 : decode cX2_push 0 = .ok (.aload_n 0, 1) := by decide +kernel
theorem dX2_push_1 : decode cX2_push 1 = .ok (.getfield 33, 3) := by decide +kernel
theorem dX2_push_4 : decode cX2_push 4 = .ok (.aload_n 0, 1) := by decide +kernel
theorem dX2_push_5 : decode cX2_push 5 = .ok (.getfield 17, 3) := by decide +kernel
theorem dX2_push_8 : decode cX2_push 8 = .ok (.arraylength, 1) := by decide +kernel
theorem dX2_push_9 : decode cX2_push 9 = .ok (.if_icmp .ge 23, 3) := by decide +kernel
theorem dX2_push_12 : decode cX2_push 12 = .ok (.aload_n 0, 1) := by decide +kernel
theorem dX2_push_13 : decode cX2_push 13 = .ok (.getfield 17, 3) := by decide +kernel
theorem dX2_push_16 : decode cX2_push 16 = .ok (.aload_n 0, 1) := by decide +kernel
theorem dX2_push_17 : decode cX2_push 17 = .ok (.getfield 33, 3) := by decide +kernel
theorem dX2_push_20 : decode cX2_push 20 = .ok (.iload_n 1, 1) := by decide +kernel
theorem dX2_push_21 : decode cX2_push 21 = .ok (.iastore, 1) := by decide +kernel
theorem dX2_push_22 : decode cX2_push 22 = .ok (.aload_n 0, 1) := by decide +kernel
theorem dX2_push_23 : decode cX2_push 23 = .ok (.dup, 1) := by decide +kernel
theorem dX2_push_24 : decode cX2_push 24 = .ok (.getfield 33, 3) := by decide +kernel
theorem dX2_push_27 : decode cX2_push 27 = .ok (.iconst 1, 1) := by decide +kernel
theorem dX2_push_28 : decode cX2_push 28 = .ok (.iadd, 1) := by decide +kernel
theorem dX2_push_29 : decode cX2_push 29 = .ok (.putfield 33, 3) := by decide +kernel
theorem dX2_push_32 : decode cX2_push 32 = .ok (.return_, 1) := by decide +kernel
theorem dX2_pop_0 : decode cX2_pop 0 = .ok (.aload_n 0, 1) := by decide +kernel
theorem dX2_pop_1 : decode cX2_pop 1 = .ok (.getfield 33, 3) := by decide +kernel
theorem dX2_pop_4 : decode cX2_pop 4 = .ok (.ifCond .gt 5, 3) := by decide +kernel
theorem dX2_pop_7 : decode cX2_pop 7 = .ok (.iconst 0, 1) := by decide +kernel
theorem dX2_pop_8 : decode cX2_pop 8 = .ok (.ireturn, 1) := by decide +kernel
theorem dX2_pop_9 : decode cX2_pop 9 = .ok (.aload_n 0, 1) := by decide +kernel
theorem dX2_pop_10 : decode cX2_pop 10 = .ok (.dup, 1) := by decide +kernel
theorem dX2_pop_11 : decode cX2_pop 11 = .ok (.getfield 33, 3) := by decide +kernel
theorem dX2_pop_14 : decode cX2_pop 14 = .ok (.iconst 1, 1) := by decide +kernel
theorem dX2_pop_15 : decode cX2_pop 15 = .ok (.isub, 1) := by decide +kernel
theorem dX2_pop_16 : decode cX2_pop 16 = .ok (.putfield 33, 3) := by decide +kernel
theorem dX2_pop_19 : decode cX2_pop 19 = .ok (.aload_n 0, 1) := by decide +kernel
theorem dX2_pop_20 : decode cX2_pop 20 = .ok (.getfield 17, 3) := by decide +kernel
theorem dX2_pop_23 : decode cX2_pop 23 = .ok (.aload_n 0, 1) := by decide +kernel
theorem dX2_pop_24 : decode cX2_pop 24 = .ok (.getfield 33, 3) := by decide +kernel
theorem dX2_pop_27 : decode cX2_pop 27 = .ok (.iaload, 1) := by decide +kernel
theorem dX2_pop_28 : decode cX2_pop 28 = .ok (.ireturn, 1) := by decide +kernel
theorem dX2_step_0 : decode cX2_step 0 = .ok (.aload_n 0, 1) := by decide +kernel
theorem dX2_step_1 : decode cX2_step 1 = .ok (.getfield 43, 3) := by decide +kernel
theorem dX2_step_4 : decode cX2_step 4 = .ok (.ifCond .le 12, 3) := by decide +kernel
theorem dX2_step_7 : decode cX2_step 7 = .ok (.aload_n 0, 1) := by decide +kernel
theorem dX2_step_8 : decode cX2_step 8 = .ok (.getfield 46, 3) := by decide +kernel
theorem dX2_step_11 : decode cX2_step 11 = .ok (.ldc 180, 2) := by decide +kernel
theorem dX2_step_13 : decode cX2_step 13 = .ok (.if_icmp .lt 49, 3) := by decide +kernel
theorem dX2_step_16 : decode cX2_step 16 = .ok (.aload_n 0, 1) := by decide +kernel
theorem dX2_step_17 : decode cX2_step 17 = .ok (.iconst 1, 1) := by decide +kernel
theorem dX2_step_18 : decode cX2_step 18 = .ok (.putfield 55, 3) := by decide +kernel
theorem dX2_step_21 : decode cX2_step 21 = .ok (.aload_n 0, 1) := by decide +kernel
theorem dX2_step_22 : decode cX2_step 22 = .ok (.iconst 0, 1) := by decide +kernel
theorem dX2_step_23 : decode cX2_step 23 = .ok (.putfield 52, 3) := by decide +kernel
theorem dX2_step_26 : decode cX2_step 26 = .ok (.iconst 1, 1) := by decide +kernel
theorem dX2_step_27 : decode cX2_step 27 = .ok (.istore_n 1, 1) := by decide +kernel
theorem dX2_step_28 : decode cX2_step 28 = .ok (.iload_n 1, 1) := by decide +kernel
theorem dX2_step_29 : decode cX2_step 29 = .ok (.aload_n 0, 1) := by decide +kernel
theorem dX2_step_30 : decode cX2_step 30 = .ok (.getfield 29, 3) := by decide +kernel
theorem dX2_step_33 : decode cX2_step 33 = .ok (.if_icmp .ge 28, 3) := by decide +kernel
theorem dX2_step_36 : decode cX2_step 36 = .ok (.aload_n 0, 1) := by decide +kernel
theorem dX2_step_37 : decode cX2_step 37 = .ok (.getfield 64, 3) := by decide +kernel
theorem dX2_step_40 : decode cX2_step 40 = .ok (.aload_n 0, 1) := by decide +kernel
theorem dX2_step_41 : decode cX2_step 41 = .ok (.getfield 11, 3) := by decide +kernel
theorem dX2_step_44 : decode cX2_step 44 = .ok (.iload_n 1, 1) := by decide +kernel
theorem dX2_step_45 : decode cX2_step 45 = .ok (.aaload, 1) := by decide +kernel
theorem dX2_step_46 : decode cX2_step 46 = .ok (.getfield 134, 3) := by decide +kernel
theorem dX2_step_49 : decode cX2_step 49 = .ok (.bipush 22, 2) := by decide +kernel
theorem dX2_step_51 : decode cX2_step 51 = .ok (.iconst 0, 1) := by decide +kernel
theorem dX2_step_52 : decode cX2_step 52 = .ok (.invokevirtual 181, 3) := by decide +kernel
theorem dX2_step_55 : decode cX2_step 55 = .ok (.iinc 1 1, 3) := by decide +kernel
theorem dX2_step_58 : decode cX2_step 58 = .ok (.goto (-30), 3) := by decide +kernel
theorem dX2_step_61 : decode cX2_step 61 = .ok (.return_, 1) := by decide +kernel
theorem dX2_step_62 : decode cX2_step 62 = .ok (.aload_n 0, 1) := by decide +kernel
theorem dX2_step_63 : decode cX2_step 63 = .ok (.dup, 1) := by decide +kernel
theorem dX2_step_64 : decode cX2_step 64 = .ok (.getfield 43, 3) := by decide +kernel
theorem dX2_step_67 : decode cX2_step 67 = .ok (.iconst 1, 1) := by decide +kernel
theorem dX2_step_68 : decode cX2_step 68 = .ok (.isub, 1) := by decide +kernel
theorem dX2_step_69 : decode cX2_step 69 = .ok (.putfield 43, 3) := by decide +kernel
theorem dX2_step_72 : decode cX2_step 72 = .ok (.aload_n 0, 1) := by decide +kernel
theorem dX2_step_73 : decode cX2_step 73 = .ok (.dup, 1) := by decide +kernel
theorem dX2_step_74 : decode cX2_step 74 = .ok (.getfield 46, 3) := by decide +kernel
theorem dX2_step_77 : decode cX2_step 77 = .ok (.iconst 1, 1) := by decide +kernel
theorem dX2_step_78 : decode cX2_step 78 = .ok (.iadd, 1) := by decide +kernel
theorem dX2_step_79 : decode cX2_step 79 = .ok (.putfield 46, 3) := by decide +kernel
theorem dX2_step_82 : decode cX2_step 82 = .ok (.aload_n 0, 1) := by decide +kernel
theorem dX2_step_83 : decode cX2_step 83 = .ok (.dup, 1) := by decide +kernel
theorem dX2_step_84 : decode cX2_step 84 = .ok (.getfield 49, 3) := by decide +kernel
theorem dX2_step_87 : decode cX2_step 87 = .ok (.iconst 1, 1) := by decide +kernel
theorem dX2_step_88 : decode cX2_step 88 = .ok (.iadd, 1) := by decide +kernel
theorem dX2_step_89 : decode cX2_step 89 = .ok (.putfield 49, 3) := by decide +kernel
theorem dX2_step_92 : decode cX2_step 92 = .ok (.return_, 1) := by decide +kernel
theorem dX2_noteNeed_0 : decode cX2_noteNeed 0 = .ok (.aload_n 0, 1) := by decide +kernel
theorem dX2_noteNeed_1 : decode cX2_noteNeed 1 = .ok (.getfield 39, 3) := by decide +kernel
theorem dX2_noteNeed_4 : decode cX2_noteNeed 4 = .ok (.ifCond .ne 39, 3) := by decide +kernel
theorem dX2_noteNeed_7 : decode cX2_noteNeed 7 = .ok (.aload_n 0, 1) := by decide +kernel
theorem dX2_noteNeed_8 : decode cX2_noteNeed 8 = .ok (.getfield 25, 3) := by decide +kernel
theorem dX2_noteNeed_11 : decode cX2_noteNeed 11 = .ok (.getfield 134, 3) := by decide +kernel
theorem dX2_noteNeed_14 : decode cX2_noteNeed 14 = .ok (.ifCond .lt 29, 3) := by decide +kernel
theorem dX2_noteNeed_17 : decode cX2_noteNeed 17 = .ok (.aload_n 0, 1) := by decide +kernel
theorem dX2_noteNeed_18 : decode cX2_noteNeed 18 = .ok (.getfield 25, 3) := by decide +kernel
theorem dX2_noteNeed_21 : decode cX2_noteNeed 21 = .ok (.getfield 134, 3) := by decide +kernel
theorem dX2_noteNeed_24 : decode cX2_noteNeed 24 = .ok (.iload_n 1, 1) := by decide +kernel
theorem dX2_noteNeed_25 : decode cX2_noteNeed 25 = .ok (.if_icmp .eq 18, 3) := by decide +kernel
theorem dX2_noteNeed_28 : decode cX2_noteNeed 28 = .ok (.aload_n 0, 1) := by decide +kernel
theorem dX2_noteNeed_29 : decode cX2_noteNeed 29 = .ok (.getfield 64, 3) := by decide +kernel
theorem dX2_noteNeed_32 : decode cX2_noteNeed 32 = .ok (.aload_n 0, 1) := by decide +kernel
theorem dX2_noteNeed_33 : decode cX2_noteNeed 33 = .ok (.getfield 25, 3) := by decide +kernel
theorem dX2_noteNeed_36 : decode cX2_noteNeed 36 = .ok (.getfield 134, 3) := by decide +kernel
theorem dX2_noteNeed_39 : decode cX2_noteNeed 39 = .ok (.iload_n 1, 1) := by decide +kernel
theorem dX2_noteNeed_40 : decode cX2_noteNeed 40 = .ok (.invokevirtual 184, 3) := by decide +kernel
theorem dX2_noteNeed_43 : decode cX2_noteNeed 43 = .ok (.return_, 1) := by decide +kernel
theorem dX2_isThere_0 : decode cX2_isThere 0 = .ok (.aload_n 0, 1) := by decide +kernel
theorem dX2_isThere_1 : decode cX2_isThere 1 = .ok (.getfield 64, 3) := by decide +kernel
theorem dX2_isThere_4 : decode cX2_isThere 4 = .ok (.getfield 186, 3) := by decide +kernel
theorem dX2_isThere_7 : decode cX2_isThere 7 = .ok (.iload_n 1, 1) := by decide +kernel
theorem dX2_isThere_8 : decode cX2_isThere 8 = .ok (.iaload, 1) := by decide +kernel
theorem dX2_isThere_9 : decode cX2_isThere 9 = .ok (.istore_n 2, 1) := by decide +kernel
theorem dX2_isThere_10 : decode cX2_isThere 10 = .ok (.aload_n 0, 1) := by decide +kernel
theorem dX2_isThere_11 : decode cX2_isThere 11 = .ok (.getfield 39, 3) := by decide +kernel
theorem dX2_isThere_14 : decode cX2_isThere 14 = .ok (.ifCond .ne 13, 3) := by decide +kernel
theorem dX2_isThere_17 : decode cX2_isThere 17 = .ok (.iload_n 2, 1) := by decide +kernel
theorem dX2_isThere_18 : decode cX2_isThere 18 = .ok (.iconst 2, 1) := by decide +kernel
theorem dX2_isThere_19 : decode cX2_isThere 19 = .ok (.if_icmp .eq 8, 3) := by decide +kernel
theorem dX2_isThere_22 : decode cX2_isThere 22 = .ok (.iload_n 2, 1) := by decide +kernel
theorem dX2_isThere_23 : decode cX2_isThere 23 = .ok (.iconst 1, 1) := by decide +kernel
theorem dX2_isThere_24 : decode cX2_isThere 24 = .ok (.if_icmp .ne 5, 3) := by decide +kernel
theorem dX2_isThere_27 : decode cX2_isThere 27 = .ok (.iconst 1, 1) := by decide +kernel
theorem dX2_isThere_28 : decode cX2_isThere 28 = .ok (.ireturn, 1) := by decide +kernel
theorem dX2_isThere_29 : decode cX2_isThere 29 = .ok (.iload_n 2, 1) := by decide +kernel
theorem dX2_isThere_30 : decode cX2_isThere 30 = .ok (.ifCond .ne 46, 3) := by decide +kernel
theorem dX2_isThere_33 : decode cX2_isThere 33 = .ok (.aload_n 0, 1) := by decide +kernel
theorem dX2_isThere_34 : decode cX2_isThere 34 = .ok (.getfield 25, 3) := by decide +kernel
theorem dX2_isThere_37 : decode cX2_isThere 37 = .ok (.dup, 1) := by decide +kernel
theorem dX2_isThere_38 : decode cX2_isThere 38 = .ok (.getfield 95, 3) := by decide +kernel
theorem dX2_isThere_41 : decode cX2_isThere 41 = .ok (.iconst 1, 1) := by decide +kernel
theorem dX2_isThere_42 : decode cX2_isThere 42 = .ok (.isub, 1) := by decide +kernel
theorem dX2_isThere_43 : decode cX2_isThere 43 = .ok (.putfield 95, 3) := by decide +kernel
theorem dX2_isThere_46 : decode cX2_isThere 46 = .ok (.aload_n 0, 1) := by decide +kernel
theorem dX2_isThere_47 : decode cX2_isThere 47 = .ok (.getfield 64, 3) := by decide +kernel
theorem dX2_isThere_50 : decode cX2_isThere 50 = .ok (.getfield 186, 3) := by decide +kernel
theorem dX2_isThere_53 : decode cX2_isThere 53 = .ok (.iload_n 1, 1) := by decide +kernel
theorem dX2_isThere_54 : decode cX2_isThere 54 = .ok (.iconst 1, 1) := by decide +kernel
theorem dX2_isThere_55 : decode cX2_isThere 55 = .ok (.iastore, 1) := by decide +kernel
theorem dX2_isThere_56 : decode cX2_isThere 56 = .ok (.aload_n 0, 1) := by decide +kernel
theorem dX2_isThere_57 : decode cX2_isThere 57 = .ok (.iload_n 1, 1) := by decide +kernel
theorem dX2_isThere_58 : decode cX2_isThere 58 = .ok (.aload_n 0, 1) := by decide +kernel
theorem dX2_isThere_59 : decode cX2_isThere 59 = .ok (.getfield 21, 3) := by decide +kernel
theorem dX2_isThere_62 : decode cX2_isThere 62 = .ok (.getfield 82, 3) := by decide +kernel
theorem dX2_isThere_65 : decode cX2_isThere 65 = .ok (.iload_n 1, 1) := by decide +kernel
theorem dX2_isThere_66 : decode cX2_isThere 66 = .ok (.aaload, 1) := by decide +kernel
theorem dX2_isThere_67 : decode cX2_isThere 67 = .ok (.getfield 189, 3) := by decide +kernel
theorem dX2_isThere_70 : decode cX2_isThere 70 = .ok (.invokevirtual 90, 3) := by decide +kernel
theorem dX2_isThere_73 : decode cX2_isThere 73 = .ok (.goto 9, 3) := by decide +kernel
theorem dX2_isThere_76 : decode cX2_isThere 76 = .ok (.aload_n 0, 1) := by decide +kernel
theorem dX2_isThere_77 : decode cX2_isThere 77 = .ok (.bipush 21, 2) := by decide +kernel
theorem dX2_isThere_79 : decode cX2_isThere 79 = .ok (.invokevirtual 146, 3) := by decide +kernel
theorem dX2_isThere_82 : decode cX2_isThere 82 = .ok (.iconst 0, 1) := by decide +kernel
theorem dX2_isThere_83 : decode cX2_isThere 83 = .ok (.ireturn, 1) := by decide +kernel
theorem dX2_look_0 : decode cX2_look 0 = .ok (.aload_n 0, 1) := by decide +kernel
theorem dX2_look_1 : decode cX2_look 1 = .ok (.iload_n 1, 1) := by decide +kernel
theorem dX2_look_2 : decode cX2_look 2 = .ok (.invokevirtual 121, 3) := by decide +kernel
theorem dX2_look_5 : decode cX2_look 5 = .ok (.aload_n 0, 1) := by decide +kernel
theorem dX2_look_6 : decode cX2_look 6 = .ok (.iload_n 1, 1) := by decide +kernel
theorem dX2_look_7 : decode cX2_look 7 = .ok (.invokevirtual 130, 3) := by decide +kernel
theorem dX2_look_10 : decode cX2_look 10 = .ok (.ifCond .ne 4, 3) := by decide +kernel
theorem dX2_look_13 : decode cX2_look 13 = .ok (.return_, 1) := by decide +kernel
theorem dX2_look_14 : decode cX2_look 14 = .ok (.aload_n 0, 1) := by decide +kernel
theorem dX2_look_15 : decode cX2_look 15 = .ok (.getfield 39, 3) := by decide +kernel
theorem dX2_look_18 : decode cX2_look 18 = .ok (.ifCond .ne 43, 3) := by decide +kernel
theorem dX2_look_21 : decode cX2_look 21 = .ok (.aload_n 0, 1) := by decide +kernel
theorem dX2_look_22 : decode cX2_look 22 = .ok (.getfield 64, 3) := by decide +kernel
theorem dX2_look_25 : decode cX2_look 25 = .ok (.getfield 186, 3) := by decide +kernel
theorem dX2_look_28 : decode cX2_look 28 = .ok (.iload_n 1, 1) := by decide +kernel
theorem dX2_look_29 : decode cX2_look 29 = .ok (.iaload, 1) := by decide +kernel
theorem dX2_look_30 : decode cX2_look 30 = .ok (.iconst 1, 1) := by decide +kernel
theorem dX2_look_31 : decode cX2_look 31 = .ok (.if_icmp .ne 30, 3) := by decide +kernel
theorem dX2_look_34 : decode cX2_look 34 = .ok (.aload_n 0, 1) := by decide +kernel
theorem dX2_look_35 : decode cX2_look 35 = .ok (.getfield 25, 3) := by decide +kernel
theorem dX2_look_38 : decode cX2_look 38 = .ok (.getfield 134, 3) := by decide +kernel
theorem dX2_look_41 : decode cX2_look 41 = .ok (.iload_n 1, 1) := by decide +kernel
theorem dX2_look_42 : decode cX2_look 42 = .ok (.if_icmp .eq 19, 3) := by decide +kernel
theorem dX2_look_45 : decode cX2_look 45 = .ok (.aload_n 0, 1) := by decide +kernel
theorem dX2_look_46 : decode cX2_look 46 = .ok (.getfield 68, 3) := by decide +kernel
theorem dX2_look_49 : decode cX2_look 49 = .ok (.aload_n 0, 1) := by decide +kernel
theorem dX2_look_50 : decode cX2_look 50 = .ok (.getfield 25, 3) := by decide +kernel
theorem dX2_look_53 : decode cX2_look 53 = .ok (.getfield 134, 3) := by decide +kernel
theorem dX2_look_56 : decode cX2_look 56 = .ok (.iload_n 1, 1) := by decide +kernel
theorem dX2_look_57 : decode cX2_look 57 = .ok (.iload_n 2, 1) := by decide +kernel
theorem dX2_look_58 : decode cX2_look 58 = .ok (.invokevirtual 192, 3) := by decide +kernel
theorem dX2_look_61 : decode cX2_look 61 = .ok (.aload_n 0, 1) := by decide +kernel
theorem dX2_look_62 : decode cX2_look 62 = .ok (.aload_n 0, 1) := by decide +kernel
theorem dX2_look_63 : decode cX2_look 63 = .ok (.getfield 64, 3) := by decide +kernel
theorem dX2_look_66 : decode cX2_look 66 = .ok (.getfield 197, 3) := by decide +kernel
theorem dX2_look_69 : decode cX2_look 69 = .ok (.iload_n 1, 1) := by decide +kernel
theorem dX2_look_70 : decode cX2_look 70 = .ok (.bipush 8, 2) := by decide +kernel
theorem dX2_look_72 : decode cX2_look 72 = .ok (.imul, 1) := by decide +kernel
theorem dX2_look_73 : decode cX2_look 73 = .ok (.iload_n 2, 1) := by decide +kernel
theorem dX2_look_74 : decode cX2_look 74 = .ok (.iadd, 1) := by decide +kernel
theorem dX2_look_75 : decode cX2_look 75 = .ok (.iaload, 1) := by decide +kernel
theorem dX2_look_76 : decode cX2_look 76 = .ok (.invokevirtual 117, 3) := by decide +kernel
theorem dX2_look_79 : decode cX2_look 79 = .ok (.return_, 1) := by decide +kernel
theorem dX2_store_0 : decode cX2_store 0 = .ok (.aload_n 0, 1) := by decide +kernel
theorem dX2_store_1 : decode cX2_store 1 = .ok (.iload_n 1, 1) := by decide +kernel
theorem dX2_store_2 : decode cX2_store 2 = .ok (.invokevirtual 121, 3) := by decide +kernel
theorem dX2_store_5 : decode cX2_store 5 = .ok (.aload_n 0, 1) := by decide +kernel
theorem dX2_store_6 : decode cX2_store 6 = .ok (.iload_n 1, 1) := by decide +kernel
theorem dX2_store_7 : decode cX2_store 7 = .ok (.invokevirtual 130, 3) := by decide +kernel
theorem dX2_store_10 : decode cX2_store 10 = .ok (.ifCond .eq 21, 3) := by decide +kernel
theorem dX2_store_13 : decode cX2_store 13 = .ok (.aload_n 0, 1) := by decide +kernel
theorem dX2_store_14 : decode cX2_store 14 = .ok (.getfield 64, 3) := by decide +kernel
theorem dX2_store_17 : decode cX2_store 17 = .ok (.getfield 197, 3) := by decide +kernel
theorem dX2_store_20 : decode cX2_store 20 = .ok (.iload_n 1, 1) := by decide +kernel
theorem dX2_store_21 : decode cX2_store 21 = .ok (.bipush 8, 2) := by decide +kernel
theorem dX2_store_23 : decode cX2_store 23 = .ok (.imul, 1) := by decide +kernel
theorem dX2_store_24 : decode cX2_store 24 = .ok (.iload_n 2, 1) := by decide +kernel
theorem dX2_store_25 : decode cX2_store 25 = .ok (.iadd, 1) := by decide +kernel
theorem dX2_store_26 : decode cX2_store 26 = .ok (.aload_n 0, 1) := by decide +kernel
theorem dX2_store_27 : decode cX2_store 27 = .ok (.invokevirtual 149, 3) := by decide +kernel
theorem dX2_store_30 : decode cX2_store 30 = .ok (.iastore, 1) := by decide +kernel
theorem dX2_store_31 : decode cX2_store 31 = .ok (.return_, 1) := by decide +kernel
theorem dX2_giveOrder_0 : decode cX2_giveOrder 0 = .ok (.iload_n 2, 1) := by decide +kernel
theorem dX2_giveOrder_1 : decode cX2_giveOrder 1 = .ok (.aload_n 0, 1) := by decide +kernel
theorem dX2_giveOrder_2 : decode cX2_giveOrder 2 = .ok (.getfield 21, 3) := by decide +kernel
theorem dX2_giveOrder_5 : decode cX2_giveOrder 5 = .ok (.getfield 200, 3) := by decide +kernel
theorem dX2_giveOrder_8 : decode cX2_giveOrder 8 = .ok (.iload_n 1, 1) := by decide +kernel
theorem dX2_giveOrder_9 : decode cX2_giveOrder 9 = .ok (.iaload, 1) := by decide +kernel
theorem dX2_giveOrder_10 : decode cX2_giveOrder 10 = .ok (.if_icmp .lt 20, 3) := by decide +kernel
theorem dX2_giveOrder_13 : decode cX2_giveOrder 13 = .ok (.iload_n 2, 1) := by decide +kernel
theorem dX2_giveOrder_14 : decode cX2_giveOrder 14 = .ok (.aload_n 0, 1) := by decide +kernel
theorem dX2_giveOrder_15 : decode cX2_giveOrder 15 = .ok (.getfield 21, 3) := by decide +kernel
theorem dX2_giveOrder_18 : decode cX2_giveOrder 18 = .ok (.getfield 203, 3) := by decide +kernel
theorem dX2_giveOrder_21 : decode cX2_giveOrder 21 = .ok (.iload_n 1, 1) := by decide +kernel
theorem dX2_giveOrder_22 : decode cX2_giveOrder 22 = .ok (.iaload, 1) := by decide +kernel
theorem dX2_giveOrder_23 : decode cX2_giveOrder 23 = .ok (.if_icmp .gt 7, 3) := by decide +kernel
theorem dX2_giveOrder_26 : decode cX2_giveOrder 26 = .ok (.iconst 1, 1) := by decide +kernel
theorem dX2_giveOrder_27 : decode cX2_giveOrder 27 = .ok (.goto 4, 3) := by decide +kernel
theorem dX2_giveOrder_30 : decode cX2_giveOrder 30 = .ok (.iconst 0, 1) := by decide +kernel
theorem dX2_giveOrder_31 : decode cX2_giveOrder 31 = .ok (.istore_n 3, 1) := by decide +kernel
theorem dX2_giveOrder_32 : decode cX2_giveOrder 32 = .ok (.aload_n 0, 1) := by decide +kernel
theorem dX2_giveOrder_33 : decode cX2_giveOrder 33 = .ok (.getfield 68, 3) := by decide +kernel
theorem dX2_giveOrder_36 : decode cX2_giveOrder 36 = .ok (.aload_n 0, 1) := by decide +kernel
theorem dX2_giveOrder_37 : decode cX2_giveOrder 37 = .ok (.getfield 25, 3) := by decide +kernel
theorem dX2_giveOrder_40 : decode cX2_giveOrder 40 = .ok (.getfield 134, 3) := by decide +kernel
theorem dX2_giveOrder_43 : decode cX2_giveOrder 43 = .ok (.iload_n 1, 1) := by decide +kernel
theorem dX2_giveOrder_44 : decode cX2_giveOrder 44 = .ok (.iload_n 2, 1) := by decide +kernel
theorem dX2_giveOrder_45 : decode cX2_giveOrder 45 = .ok (.iload_n 3, 1) := by decide +kernel
theorem dX2_giveOrder_46 : decode cX2_giveOrder 46 = .ok (.invokevirtual 206, 3) := by decide +kernel
theorem dX2_giveOrder_49 : decode cX2_giveOrder 49 = .ok (.iload_n 3, 1) := by decide +kernel
theorem dX2_giveOrder_50 : decode cX2_giveOrder 50 = .ok (.ifCond .eq 16, 3) := by decide +kernel
theorem dX2_giveOrder_53 : decode cX2_giveOrder 53 = .ok (.aload_n 0, 1) := by decide +kernel
theorem dX2_giveOrder_54 : decode cX2_giveOrder 54 = .ok (.getfield 64, 3) := by decide +kernel
theorem dX2_giveOrder_57 : decode cX2_giveOrder 57 = .ok (.getfield 210, 3) := by decide +kernel
theorem dX2_giveOrder_60 : decode cX2_giveOrder 60 = .ok (.iload_n 1, 1) := by decide +kernel
theorem dX2_giveOrder_61 : decode cX2_giveOrder 61 = .ok (.iload_n 2, 1) := by decide +kernel
theorem dX2_giveOrder_62 : decode cX2_giveOrder 62 = .ok (.iastore, 1) := by decide +kernel
theorem dX2_giveOrder_63 : decode cX2_giveOrder 63 = .ok (.goto 9, 3) := by decide +kernel
theorem dX2_giveOrder_66 : decode cX2_giveOrder 66 = .ok (.aload_n 0, 1) := by decide +kernel
theorem dX2_giveOrder_67 : decode cX2_giveOrder 67 = .ok (.bipush 12, 2) := by decide +kernel
theorem dX2_giveOrder_69 : decode cX2_giveOrder 69 = .ok (.invokevirtual 146, 3) := by decide +kernel
theorem dX2_giveOrder_72 : decode cX2_giveOrder 72 = .ok (.return_, 1) := by decide +kernel
theorem dX2_leave_0 : decode cX2_leave 0 = .ok (.aload_n 0, 1) := by decide +kernel
theorem dX2_leave_1 : decode cX2_leave 1 = .ok (.getfield 29, 3) := by decide +kernel
theorem dX2_leave_4 : decode cX2_leave 4 = .ok (.iconst 1, 1) := by decide +kernel
theorem dX2_leave_5 : decode cX2_leave 5 = .ok (.if_icmp .gt 9, 3) := by decide +kernel
theorem dX2_leave_8 : decode cX2_leave 8 = .ok (.aload_n 0, 1) := by decide +kernel
theorem dX2_leave_9 : decode cX2_leave 9 = .ok (.iconst 0, 1) := by decide +kernel
theorem dX2_leave_10 : decode cX2_leave 10 = .ok (.putfield 52, 3) := by decide +kernel
theorem dX2_leave_13 : decode cX2_leave 13 = .ok (.return_, 1) := by decide +kernel
theorem dX2_leave_14 : decode cX2_leave 14 = .ok (.aload_n 0, 1) := by decide +kernel
theorem dX2_leave_15 : decode cX2_leave 15 = .ok (.getfield 25, 3) := by decide +kernel
theorem dX2_leave_18 : decode cX2_leave 18 = .ok (.getfield 134, 3) := by decide +kernel
theorem dX2_leave_21 : decode cX2_leave 21 = .ok (.istore_n 1, 1) := by decide +kernel
theorem dX2_leave_22 : decode cX2_leave 22 = .ok (.aload_n 0, 1) := by decide +kernel
theorem dX2_leave_23 : decode cX2_leave 23 = .ok (.getfield 64, 3) := by decide +kernel
theorem dX2_leave_26 : decode cX2_leave 26 = .ok (.getfield 186, 3) := by decide +kernel
theorem dX2_leave_29 : decode cX2_leave 29 = .ok (.iload_n 1, 1) := by decide +kernel
theorem dX2_leave_30 : decode cX2_leave 30 = .ok (.iconst 2, 1) := by decide +kernel
theorem dX2_leave_31 : decode cX2_leave 31 = .ok (.iastore, 1) := by decide +kernel
theorem dX2_leave_32 : decode cX2_leave 32 = .ok (.aload_n 0, 1) := by decide +kernel
theorem dX2_leave_33 : decode cX2_leave 33 = .ok (.getfield 68, 3) := by decide +kernel
theorem dX2_leave_36 : decode cX2_leave 36 = .ok (.iload_n 1, 1) := by decide +kernel
theorem dX2_leave_37 : decode cX2_leave 37 = .ok (.aload_n 0, 1) := by decide +kernel
theorem dX2_leave_38 : decode cX2_leave 38 = .ok (.getfield 64, 3) := by decide +kernel
theorem dX2_leave_41 : decode cX2_leave 41 = .ok (.getfield 137, 3) := by decide +kernel
theorem dX2_leave_44 : decode cX2_leave 44 = .ok (.iload_n 1, 1) := by decide +kernel
theorem dX2_leave_45 : decode cX2_leave 45 = .ok (.iaload, 1) := by decide +kernel
theorem dX2_leave_46 : decode cX2_leave 46 = .ok (.aload_n 0, 1) := by decide +kernel
theorem dX2_leave_47 : decode cX2_leave 47 = .ok (.getfield 36, 3) := by decide +kernel
theorem dX2_leave_50 : decode cX2_leave 50 = .ok (.invokevirtual 213, 3) := by decide +kernel
theorem dX2_leave_53 : decode cX2_leave 53 = .ok (.aload_n 0, 1) := by decide +kernel
theorem dX2_leave_54 : decode cX2_leave 54 = .ok (.invokevirtual 216, 3) := by decide +kernel
theorem dX2_leave_57 : decode cX2_leave 57 = .ok (.return_, 1) := by decide +kernel
theorem dX2_drop_0 : decode cX2_drop 0 = .ok (.aload_n 0, 1) := by decide +kernel
theorem dX2_drop_1 : decode cX2_drop 1 = .ok (.dup, 1) := by decide +kernel
theorem dX2_drop_2 : decode cX2_drop 2 = .ok (.getfield 29, 3) := by decide +kernel
theorem dX2_drop_5 : decode cX2_drop 5 = .ok (.iconst 1, 1) := by decide +kernel
theorem dX2_drop_6 : decode cX2_drop 6 = .ok (.isub, 1) := by decide +kernel
theorem dX2_drop_7 : decode cX2_drop 7 = .ok (.putfield 29, 3) := by decide +kernel
theorem dX2_drop_10 : decode cX2_drop 10 = .ok (.aload_n 0, 1) := by decide +kernel
theorem dX2_drop_11 : decode cX2_drop 11 = .ok (.aload_n 0, 1) := by decide +kernel
theorem dX2_drop_12 : decode cX2_drop 12 = .ok (.getfield 11, 3) := by decide +kernel
theorem dX2_drop_15 : decode cX2_drop 15 = .ok (.aload_n 0, 1) := by decide +kernel
theorem dX2_drop_16 : decode cX2_drop 16 = .ok (.getfield 29, 3) := by decide +kernel
theorem dX2_drop_19 : decode cX2_drop 19 = .ok (.iconst 1, 1) := by decide +kernel
theorem dX2_drop_20 : decode cX2_drop 20 = .ok (.isub, 1) := by decide +kernel
theorem dX2_drop_21 : decode cX2_drop 21 = .ok (.aaload, 1) := by decide +kernel
theorem dX2_drop_22 : decode cX2_drop 22 = .ok (.putfield 25, 3) := by decide +kernel
theorem dX2_drop_25 : decode cX2_drop 25 = .ok (.return_, 1) := by decide +kernel
theorem dX2_raise_0 : decode cX2_raise 0 = .ok (.iload_n 1, 1) := by decide +kernel
theorem dX2_raise_1 : decode cX2_raise 1 = .ok (.istore_n 2, 1) := by decide +kernel
theorem dX2_raise_2 : decode cX2_raise 2 = .ok (.iconst 0, 1) := by decide +kernel
theorem dX2_raise_3 : decode cX2_raise 3 = .ok (.istore_n 3, 1) := by decide +kernel
theorem dX2_raise_4 : decode cX2_raise 4 = .ok (.iconst 0, 1) := by decide +kernel
theorem dX2_raise_5 : decode cX2_raise 5 = .ok (.istore 4, 2) := by decide +kernel
theorem dX2_raise_7 : decode cX2_raise 7 = .ok (.iload 4, 2) := by decide +kernel
theorem dX2_raise_9 : decode cX2_raise 9 = .ok (.bipush 25, 2) := by decide +kernel
theorem dX2_raise_11 : decode cX2_raise 11 = .ok (.if_icmp .ge 135, 3) := by decide +kernel
theorem dX2_raise_14 : decode cX2_raise 14 = .ok (.aload_n 0, 1) := by decide +kernel
theorem dX2_raise_15 : decode cX2_raise 15 = .ok (.getfield 25, 3) := by decide +kernel
theorem dX2_raise_18 : decode cX2_raise 18 = .ok (.getfield 174, 3) := by decide +kernel
theorem dX2_raise_21 : decode cX2_raise 21 = .ok (.ifCond .le 58, 3) := by decide +kernel
theorem dX2_raise_24 : decode cX2_raise 24 = .ok (.aload_n 0, 1) := by decide +kernel
theorem dX2_raise_25 : decode cX2_raise 25 = .ok (.getfield 25, 3) := by decide +kernel
theorem dX2_raise_28 : decode cX2_raise 28 = .ok (.dup, 1) := by decide +kernel
theorem dX2_raise_29 : decode cX2_raise 29 = .ok (.getfield 174, 3) := by decide +kernel
theorem dX2_raise_32 : decode cX2_raise 32 = .ok (.iconst 1, 1) := by decide +kernel
theorem dX2_raise_33 : decode cX2_raise 33 = .ok (.isub, 1) := by decide +kernel
theorem dX2_raise_34 : decode cX2_raise 34 = .ok (.putfield 174, 3) := by decide +kernel
theorem dX2_raise_37 : decode cX2_raise 37 = .ok (.aload_n 0, 1) := by decide +kernel
theorem dX2_raise_38 : decode cX2_raise 38 = .ok (.getfield 25, 3) := by decide +kernel
theorem dX2_raise_41 : decode cX2_raise 41 = .ok (.iload_n 2, 1) := by decide +kernel
theorem dX2_raise_42 : decode cX2_raise 42 = .ok (.putfield 165, 3) := by decide +kernel
theorem dX2_raise_45 : decode cX2_raise 45 = .ok (.aload_n 0, 1) := by decide +kernel
theorem dX2_raise_46 : decode cX2_raise 46 = .ok (.getfield 25, 3) := by decide +kernel
theorem dX2_raise_49 : decode cX2_raise 49 = .ok (.aload_n 0, 1) := by decide +kernel
theorem dX2_raise_50 : decode cX2_raise 50 = .ok (.getfield 25, 3) := by decide +kernel
theorem dX2_raise_53 : decode cX2_raise 53 = .ok (.getfield 219, 3) := by decide +kernel
theorem dX2_raise_56 : decode cX2_raise 56 = .ok (.aload_n 0, 1) := by decide +kernel
theorem dX2_raise_57 : decode cX2_raise 57 = .ok (.getfield 25, 3) := by decide +kernel
theorem dX2_raise_60 : decode cX2_raise 60 = .ok (.getfield 174, 3) := by decide +kernel
theorem dX2_raise_63 : decode cX2_raise 63 = .ok (.iaload, 1) := by decide +kernel
theorem dX2_raise_64 : decode cX2_raise 64 = .ok (.putfield 95, 3) := by decide +kernel
theorem dX2_raise_67 : decode cX2_raise 67 = .ok (.aload_n 0, 1) := by decide +kernel
theorem dX2_raise_68 : decode cX2_raise 68 = .ok (.aload_n 0, 1) := by decide +kernel
theorem dX2_raise_69 : decode cX2_raise 69 = .ok (.getfield 25, 3) := by decide +kernel
theorem dX2_raise_72 : decode cX2_raise 72 = .ok (.getfield 222, 3) := by decide +kernel
theorem dX2_raise_75 : decode cX2_raise 75 = .ok (.putfield 33, 3) := by decide +kernel
theorem dX2_raise_78 : decode cX2_raise 78 = .ok (.return_, 1) := by decide +kernel
theorem dX2_raise_79 : decode cX2_raise 79 = .ok (.aload_n 0, 1) := by decide +kernel
theorem dX2_raise_80 : decode cX2_raise 80 = .ok (.getfield 29, 3) := by decide +kernel
theorem dX2_raise_83 : decode cX2_raise 83 = .ok (.iconst 1, 1) := by decide +kernel
theorem dX2_raise_84 : decode cX2_raise 84 = .ok (.if_icmp .gt 19, 3) := by decide +kernel
theorem dX2_raise_87 : decode cX2_raise 87 = .ok (.aload_n 0, 1) := by decide +kernel
theorem dX2_raise_88 : decode cX2_raise 88 = .ok (.iload_n 2, 1) := by decide +kernel
theorem dX2_raise_89 : decode cX2_raise 89 = .ok (.putfield 58, 3) := by decide +kernel
theorem dX2_raise_92 : decode cX2_raise 92 = .ok (.aload_n 0, 1) := by decide +kernel
theorem dX2_raise_93 : decode cX2_raise 93 = .ok (.iload_n 3, 1) := by decide +kernel
theorem dX2_raise_94 : decode cX2_raise 94 = .ok (.putfield 61, 3) := by decide +kernel
theorem dX2_raise_97 : decode cX2_raise 97 = .ok (.aload_n 0, 1) := by decide +kernel
theorem dX2_raise_98 : decode cX2_raise 98 = .ok (.iconst 0, 1) := by decide +kernel
theorem dX2_raise_99 : decode cX2_raise 99 = .ok (.putfield 52, 3) := by decide +kernel
theorem dX2_raise_102 : decode cX2_raise 102 = .ok (.return_, 1) := by decide +kernel
theorem dX2_raise_103 : decode cX2_raise 103 = .ok (.iload_n 2, 1) := by decide +kernel
theorem dX2_raise_104 : decode cX2_raise 104 = .ok (.bipush 20, 2) := by decide +kernel
theorem dX2_raise_106 : decode cX2_raise 106 = .ok (.if_icmp .eq 14, 3) := by decide +kernel
theorem dX2_raise_109 : decode cX2_raise 109 = .ok (.iload_n 2, 1) := by decide +kernel
theorem dX2_raise_110 : decode cX2_raise 110 = .ok (.bipush 21, 2) := by decide +kernel
theorem dX2_raise_112 : decode cX2_raise 112 = .ok (.if_icmp .eq 8, 3) := by decide +kernel
theorem dX2_raise_115 : decode cX2_raise 115 = .ok (.iload_n 2, 1) := by decide +kernel
theorem dX2_raise_116 : decode cX2_raise 116 = .ok (.istore_n 3, 1) := by decide +kernel
theorem dX2_raise_117 : decode cX2_raise 117 = .ok (.bipush 20, 2) := by decide +kernel
theorem dX2_raise_119 : decode cX2_raise 119 = .ok (.istore_n 2, 1) := by decide +kernel
theorem dX2_raise_120 : decode cX2_raise 120 = .ok (.aload_n 0, 1) := by decide +kernel
theorem dX2_raise_121 : decode cX2_raise 121 = .ok (.getfield 64, 3) := by decide +kernel
theorem dX2_raise_124 : decode cX2_raise 124 = .ok (.aload_n 0, 1) := by decide +kernel
theorem dX2_raise_125 : decode cX2_raise 125 = .ok (.getfield 25, 3) := by decide +kernel
theorem dX2_raise_128 : decode cX2_raise 128 = .ok (.getfield 134, 3) := by decide +kernel
theorem dX2_raise_131 : decode cX2_raise 131 = .ok (.iload_n 2, 1) := by decide +kernel
theorem dX2_raise_132 : decode cX2_raise 132 = .ok (.iload_n 3, 1) := by decide +kernel
theorem dX2_raise_133 : decode cX2_raise 133 = .ok (.invokevirtual 181, 3) := by decide +kernel
theorem dX2_raise_136 : decode cX2_raise 136 = .ok (.aload_n 0, 1) := by decide +kernel
theorem dX2_raise_137 : decode cX2_raise 137 = .ok (.invokevirtual 216, 3) := by decide +kernel
theorem dX2_raise_140 : decode cX2_raise 140 = .ok (.iinc 4 1, 3) := by decide +kernel
theorem dX2_raise_143 : decode cX2_raise 143 = .ok (.goto (-136), 3) := by decide +kernel
theorem dX2_raise_146 : decode cX2_raise 146 = .ok (.return_, 1) := by decide +kernel
theorem dX3_init_0 : decode cX3_init 0 = .ok (.aload_n 0, 1) := by decide +kernel
theorem dX3_init_1 : decode cX3_init 1 = .ok (.invokespecial 3, 3) := by decide +kernel
theorem dX3_init_4 : decode cX3_init 4 = .ok (.aload_n 0, 1) := by decide +kernel
theorem dX3_init_5 : decode cX3_init 5 = .ok (.aconst_null, 1) := by decide +kernel
theorem dX3_init_6 : decode cX3_init 6 = .ok (.putfield 9, 3) := by decide +kernel
theorem dX3_init_9 : decode cX3_init 9 = .ok (.aload_n 0, 1) := by decide +kernel
theorem dX3_init_10 : decode cX3_init 10 = .ok (.iconst 0, 1) := by decide +kernel
theorem dX3_init_11 : decode cX3_init 11 = .ok (.putfield 15, 3) := by decide +kernel
theorem dX3_init_14 : decode cX3_init 14 = .ok (.aload_n 0, 1) := by decide +kernel
theorem dX3_init_15 : decode cX3_init 15 = .ok (.iconst 0, 1) := by decide +kernel
theorem dX3_init_16 : decode cX3_init 16 = .ok (.putfield 19, 3) := by decide +kernel
theorem dX3_init_19 : decode cX3_init 19 = .ok (.aload_n 0, 1) := by decide +kernel
theorem dX3_init_20 : decode cX3_init 20 = .ok (.iconst (-1), 1) := by decide +kernel
theorem dX3_init_21 : decode cX3_init 21 = .ok (.putfield 22, 3) := by decide +kernel
theorem dX3_init_24 : decode cX3_init 24 = .ok (.aload_n 0, 1) := by decide +kernel
theorem dX3_init_25 : decode cX3_init 25 = .ok (.iconst 0, 1) := by decide +kernel
theorem dX3_init_26 : decode cX3_init 26 = .ok (.putfield 25, 3) := by decide +kernel
theorem dX3_init_29 : decode cX3_init 29 = .ok (.aload_n 0, 1) := by decide +kernel
theorem dX3_init_30 : decode cX3_init 30 = .ok (.aload_n 1, 1) := by decide +kernel
theorem dX3_init_31 : decode cX3_init 31 = .ok (.putfield 28, 3) := by decide +kernel
theorem dX3_init_34 : decode cX3_init 34 = .ok (.return_, 1) := by decide +kernel
theorem dX3_make_0 : decode cX3_make 0 = .ok (.aload_n 0, 1) := by decide +kernel
theorem dX3_make_1 : decode cX3_make 1 = .ok (.new 32, 3) := by decide +kernel
theorem dX3_make_4 : decode cX3_make 4 = .ok (.dup, 1) := by decide +kernel
theorem dX3_make_5 : decode cX3_make 5 = .ok (.aload_n 0, 1) := by decide +kernel
theorem dX3_make_6 : decode cX3_make 6 = .ok (.getfield 28, 3) := by decide +kernel
theorem dX3_make_9 : decode cX3_make 9 = .ok (.getfield 34, 3) := by decide +kernel
theorem dX3_make_12 : decode cX3_make 12 = .ok (.invokespecial 39, 3) := by decide +kernel
theorem dX3_make_15 : decode cX3_make 15 = .ok (.putfield 9, 3) := by decide +kernel
theorem dX3_make_18 : decode cX3_make 18 = .ok (.aload_n 0, 1) := by decide +kernel
theorem dX3_make_19 : decode cX3_make 19 = .ok (.iconst 0, 1) := by decide +kernel
theorem dX3_make_20 : decode cX3_make 20 = .ok (.invokevirtual 42, 3) := by decide +kernel
theorem dX3_make_23 : decode cX3_make 23 = .ok (.iconst 0, 1) := by decide +kernel
theorem dX3_make_24 : decode cX3_make 24 = .ok (.istore_n 1, 1) := by decide +kernel
theorem dX3_make_25 : decode cX3_make 25 = .ok (.iload_n 1, 1) := by decide +kernel
theorem dX3_make_26 : decode cX3_make 26 = .ok (.aload_n 0, 1) := by decide +kernel
theorem dX3_make_27 : decode cX3_make 27 = .ok (.getfield 28, 3) := by decide +kernel
theorem dX3_make_30 : decode cX3_make 30 = .ok (.getfield 34, 3) := by decide +kernel
theorem dX3_make_33 : decode cX3_make 33 = .ok (.if_icmp .ge 103, 3) := by decide +kernel
theorem dX3_make_36 : decode cX3_make 36 = .ok (.aload_n 0, 1) := by decide +kernel
theorem dX3_make_37 : decode cX3_make 37 = .ok (.getfield 19, 3) := by decide +kernel
theorem dX3_make_40 : decode cX3_make 40 = .ok (.ifCond .eq 96, 3) := by decide +kernel
theorem dX3_make_43 : decode cX3_make 43 = .ok (.aload_n 0, 1) := by decide +kernel
theorem dX3_make_44 : decode cX3_make 44 = .ok (.getfield 19, 3) := by decide +kernel
theorem dX3_make_47 : decode cX3_make 47 = .ok (.tableswitch 78 128 138 #[57, 78, 78, 78, 64, 64, 78, 64, 78, 78, 71], 57) := by decide +kernel
theorem dX3_make_104 : decode cX3_make 104 = .ok (.aload_n 0, 1) := by decide +kernel
theorem dX3_make_105 : decode cX3_make 105 = .ok (.invokevirtual 45, 3) := by decide +kernel
theorem dX3_make_108 : decode cX3_make 108 = .ok (.goto 22, 3) := by decide +kernel
theorem dX3_make_111 : decode cX3_make 111 = .ok (.aload_n 0, 1) := by decide +kernel
theorem dX3_make_112 : decode cX3_make 112 = .ok (.invokevirtual 48, 3) := by decide +kernel
theorem dX3_make_115 : decode cX3_make 115 = .ok (.goto 15, 3) := by decide +kernel
theorem dX3_make_118 : decode cX3_make 118 = .ok (.aload_n 0, 1) := by decide +kernel
theorem dX3_make_119 : decode cX3_make 119 = .ok (.invokevirtual 51, 3) := by decide +kernel
theorem dX3_make_122 : decode cX3_make 122 = .ok (.goto 8, 3) := by decide +kernel
theorem dX3_make_125 : decode cX3_make 125 = .ok (.aload_n 0, 1) := by decide +kernel
theorem dX3_make_126 : decode cX3_make 126 = .ok (.iconst 1, 1) := by decide +kernel
theorem dX3_make_127 : decode cX3_make 127 = .ok (.invokevirtual 54, 3) := by decide +kernel
theorem dX3_make_130 : decode cX3_make 130 = .ok (.iinc 1 1, 3) := by decide +kernel
theorem dX3_make_133 : decode cX3_make 133 = .ok (.goto (-108), 3) := by decide +kernel
theorem dX3_make_136 : decode cX3_make 136 = .ok (.aload_n 0, 1) := by decide +kernel
theorem dX3_make_137 : decode cX3_make 137 = .ok (.invokevirtual 57, 3) := by decide +kernel
theorem dX3_make_140 : decode cX3_make 140 = .ok (.aload_n 0, 1) := by decide +kernel
theorem dX3_make_141 : decode cX3_make 141 = .ok (.getfield 9, 3) := by decide +kernel
theorem dX3_make_144 : decode cX3_make 144 = .ok (.invokevirtual 60, 3) := by decide +kernel
theorem dX3_make_147 : decode cX3_make 147 = .ok (.aload_n 0, 1) := by decide +kernel
theorem dX3_make_148 : decode cX3_make 148 = .ok (.getfield 9, 3) := by decide +kernel
theorem dX3_make_151 : decode cX3_make 151 = .ok (.areturn, 1) := by decide +kernel
theorem dX3_moveTo_0 : decode cX3_moveTo 0 = .ok (.aload_n 0, 1) := by decide +kernel
theorem dX3_moveTo_1 : decode cX3_moveTo 1 = .ok (.iload_n 1, 1) := by decide +kernel
theorem dX3_moveTo_2 : decode cX3_moveTo 2 = .ok (.putfield 15, 3) := by decide +kernel
theorem dX3_moveTo_5 : decode cX3_moveTo 5 = .ok (.aload_n 0, 1) := by decide +kernel
theorem dX3_moveTo_6 : decode cX3_moveTo 6 = .ok (.iload_n 1, 1) := by decide +kernel
theorem dX3_moveTo_7 : decode cX3_moveTo 7 = .ok (.aload_n 0, 1) := by decide +kernel
theorem dX3_moveTo_8 : decode cX3_moveTo 8 = .ok (.getfield 28, 3) := by decide +kernel
theorem dX3_moveTo_11 : decode cX3_moveTo 11 = .ok (.getfield 34, 3) := by decide +kernel
theorem dX3_moveTo_14 : decode cX3_moveTo 14 = .ok (.if_icmp .ge 15, 3) := by decide +kernel
theorem dX3_moveTo_17 : decode cX3_moveTo 17 = .ok (.aload_n 0, 1) := by decide +kernel
theorem dX3_moveTo_18 : decode cX3_moveTo 18 = .ok (.getfield 28, 3) := by decide +kernel
theorem dX3_moveTo_21 : decode cX3_moveTo 21 = .ok (.getfield 63, 3) := by decide +kernel
theorem dX3_moveTo_24 : decode cX3_moveTo 24 = .ok (.iload_n 1, 1) := by decide +kernel
theorem dX3_moveTo_25 : decode cX3_moveTo 25 = .ok (.iaload, 1) := by decide +kernel
theorem dX3_moveTo_26 : decode cX3_moveTo 26 = .ok (.goto 4, 3) := by decide +kernel
theorem dX3_moveTo_29 : decode cX3_moveTo 29 = .ok (.iconst 0, 1) := by decide +kernel
theorem dX3_moveTo_30 : decode cX3_moveTo 30 = .ok (.putfield 19, 3) := by decide +kernel
theorem dX3_moveTo_33 : decode cX3_moveTo 33 = .ok (.return_, 1) := by decide +kernel
theorem dX3_refuse_0 : decode cX3_refuse 0 = .ok (.aload_n 0, 1) := by decide +kernel
theorem dX3_refuse_1 : decode cX3_refuse 1 = .ok (.iload_n 1, 1) := by decide +kernel
theorem dX3_refuse_2 : decode cX3_refuse 2 = .ok (.bipush 16, 2) := by decide +kernel
theorem dX3_refuse_4 : decode cX3_refuse 4 = .ok (.aload_n 0, 1) := by decide +kernel
theorem dX3_refuse_5 : decode cX3_refuse 5 = .ok (.getfield 15, 3) := by decide +kernel
theorem dX3_refuse_8 : decode cX3_refuse 8 = .ok (.aload_n 0, 1) := by decide +kernel
theorem dX3_refuse_9 : decode cX3_refuse 9 = .ok (.getfield 28, 3) := by decide +kernel
theorem dX3_refuse_12 : decode cX3_refuse 12 = .ok (.getfield 34, 3) := by decide +kernel
theorem dX3_refuse_15 : decode cX3_refuse 15 = .ok (.if_icmp .ge 18, 3) := by decide +kernel
theorem dX3_refuse_18 : decode cX3_refuse 18 = .ok (.aload_n 0, 1) := by decide +kernel
theorem dX3_refuse_19 : decode cX3_refuse 19 = .ok (.getfield 28, 3) := by decide +kernel
theorem dX3_refuse_22 : decode cX3_refuse 22 = .ok (.getfield 67, 3) := by decide +kernel
theorem dX3_refuse_25 : decode cX3_refuse 25 = .ok (.aload_n 0, 1) := by decide +kernel
theorem dX3_refuse_26 : decode cX3_refuse 26 = .ok (.getfield 15, 3) := by decide +kernel
theorem dX3_refuse_29 : decode cX3_refuse 29 = .ok (.iaload, 1) := by decide +kernel
theorem dX3_refuse_30 : decode cX3_refuse 30 = .ok (.goto 10, 3) := by decide +kernel
theorem dX3_refuse_33 : decode cX3_refuse 33 = .ok (.aload_n 0, 1) := by decide +kernel
theorem dX3_refuse_34 : decode cX3_refuse 34 = .ok (.getfield 28, 3) := by decide +kernel
theorem dX3_refuse_37 : decode cX3_refuse 37 = .ok (.getfield 70, 3) := by decide +kernel
theorem dX3_refuse_40 : decode cX3_refuse 40 = .ok (.imul, 1) := by decide +kernel
theorem dX3_refuse_41 : decode cX3_refuse 41 = .ok (.iadd, 1) := by decide +kernel
theorem dX3_refuse_42 : decode cX3_refuse 42 = .ok (.putfield 25, 3) := by decide +kernel
theorem dX3_refuse_45 : decode cX3_refuse 45 = .ok (.new 73, 3) := by decide +kernel
theorem dX3_refuse_48 : decode cX3_refuse 48 = .ok (.dup, 1) := by decide +kernel
theorem dX3_refuse_49 : decode cX3_refuse 49 = .ok (.ldc 75, 2) := by decide +kernel
theorem dX3_refuse_51 : decode cX3_refuse 51 = .ok (.invokespecial 77, 3) := by decide +kernel
theorem dX3_refuse_54 : decode cX3_refuse 54 = .ok (.athrow, 1) := by decide +kernel
theorem dX3_emit_0 : decode cX3_emit 0 = .ok (.aload_n 0, 1) := by decide +kernel
theorem dX3_emit_1 : decode cX3_emit 1 = .ok (.getfield 9, 3) := by decide +kernel
theorem dX3_emit_4 : decode cX3_emit 4 = .ok (.iload_n 1, 1) := by decide +kernel
theorem dX3_emit_5 : decode cX3_emit 5 = .ok (.iload_n 2, 1) := by decide +kernel
theorem dX3_emit_6 : decode cX3_emit 6 = .ok (.iload_n 3, 1) := by decide +kernel
theorem dX3_emit_7 : decode cX3_emit 7 = .ok (.invokestatic 80, 3) := by decide +kernel
theorem dX3_emit_10 : decode cX3_emit 10 = .ok (.invokevirtual 84, 3) := by decide +kernel
theorem dX3_emit_13 : decode cX3_emit 13 = .ok (.ireturn, 1) := by decide +kernel
theorem dX3_take_0 : decode cX3_take 0 = .ok (.aload_n 0, 1) := by decide +kernel
theorem dX3_take_1 : decode cX3_take 1 = .ok (.getfield 19, 3) := by decide +kernel
theorem dX3_take_4 : decode cX3_take 4 = .ok (.iload_n 1, 1) := by decide +kernel
theorem dX3_take_5 : decode cX3_take 5 = .ok (.if_icmp .eq 8, 3) := by decide +kernel
theorem dX3_take_8 : decode cX3_take 8 = .ok (.aload_n 0, 1) := by decide +kernel
theorem dX3_take_9 : decode cX3_take 9 = .ok (.iconst 1, 1) := by decide +kernel
theorem dX3_take_10 : decode cX3_take 10 = .ok (.invokevirtual 54, 3) := by decide +kernel
theorem dX3_take_13 : decode cX3_take 13 = .ok (.aload_n 0, 1) := by decide +kernel
theorem dX3_take_14 : decode cX3_take 14 = .ok (.aload_n 0, 1) := by decide +kernel
theorem dX3_take_15 : decode cX3_take 15 = .ok (.getfield 15, 3) := by decide +kernel
theorem dX3_take_18 : decode cX3_take 18 = .ok (.iconst 1, 1) := by decide +kernel
theorem dX3_take_19 : decode cX3_take 19 = .ok (.iadd, 1) := by decide +kernel
theorem dX3_take_20 : decode cX3_take 20 = .ok (.invokevirtual 42, 3) := by decide +kernel
theorem dX3_take_23 : decode cX3_take 23 = .ok (.return_, 1) := by decide +kernel
theorem dX3_takeNumber_0 : decode cX3_takeNumber 0 = .ok (.aload_n 0, 1) := by decide +kernel
theorem dX3_takeNumber_1 : decode cX3_takeNumber 1 = .ok (.getfield 19, 3) := by decide +kernel
theorem dX3_takeNumber_4 : decode cX3_takeNumber 4 = .ok (.iconst 3, 1) := by decide +kernel
theorem dX3_takeNumber_5 : decode cX3_takeNumber 5 = .ok (.if_icmp .eq 8, 3) := by decide +kernel
theorem dX3_takeNumber_8 : decode cX3_takeNumber 8 = .ok (.aload_n 0, 1) := by decide +kernel
theorem dX3_takeNumber_9 : decode cX3_takeNumber 9 = .ok (.iconst 1, 1) := by decide +kernel
theorem dX3_takeNumber_10 : decode cX3_takeNumber 10 = .ok (.invokevirtual 54, 3) := by decide +kernel
theorem dX3_takeNumber_13 : decode cX3_takeNumber 13 = .ok (.aload_n 0, 1) := by decide +kernel
theorem dX3_takeNumber_14 : decode cX3_takeNumber 14 = .ok (.getfield 28, 3) := by decide +kernel
theorem dX3_takeNumber_17 : decode cX3_takeNumber 17 = .ok (.aload_n 0, 1) := by decide +kernel
theorem dX3_takeNumber_18 : decode cX3_takeNumber 18 = .ok (.getfield 15, 3) := by decide +kernel
theorem dX3_takeNumber_21 : decode cX3_takeNumber 21 = .ok (.invokevirtual 88, 3) := by decide +kernel
theorem dX3_takeNumber_24 : decode cX3_takeNumber 24 = .ok (.lstore_n 3, 1) := by decide +kernel
theorem dX3_takeNumber_25 : decode cX3_takeNumber 25 = .ok (.lload_n 3, 1) := by decide +kernel
theorem dX3_takeNumber_26 : decode cX3_takeNumber 26 = .ok (.iload_n 1, 1) := by decide +kernel
theorem dX3_takeNumber_27 : decode cX3_takeNumber 27 = .ok (.i2l, 1) := by decide +kernel
theorem dX3_takeNumber_28 : decode cX3_takeNumber 28 = .ok (.lcmp, 1) := by decide +kernel
theorem dX3_takeNumber_29 : decode cX3_takeNumber 29 = .ok (.ifCond .lt 10, 3) := by decide +kernel
theorem dX3_takeNumber_32 : decode cX3_takeNumber 32 = .ok (.lload_n 3, 1) := by decide +kernel
theorem dX3_takeNumber_33 : decode cX3_takeNumber 33 = .ok (.iload_n 2, 1) := by decide +kernel
theorem dX3_takeNumber_34 : decode cX3_takeNumber 34 = .ok (.i2l, 1) := by decide +kernel
theorem dX3_takeNumber_35 : decode cX3_takeNumber 35 = .ok (.lcmp, 1) := by decide +kernel
theorem dX3_takeNumber_36 : decode cX3_takeNumber 36 = .ok (.ifCond .le 8, 3) := by decide +kernel
theorem dX3_takeNumber_39 : decode cX3_takeNumber 39 = .ok (.aload_n 0, 1) := by decide +kernel
theorem dX3_takeNumber_40 : decode cX3_takeNumber 40 = .ok (.iconst 4, 1) := by decide +kernel
theorem dX3_takeNumber_41 : decode cX3_takeNumber 41 = .ok (.invokevirtual 54, 3) := by decide +kernel
theorem dX3_takeNumber_44 : decode cX3_takeNumber 44 = .ok (.aload_n 0, 1) := by decide +kernel
theorem dX3_takeNumber_45 : decode cX3_takeNumber 45 = .ok (.aload_n 0, 1) := by decide +kernel
theorem dX3_takeNumber_46 : decode cX3_takeNumber 46 = .ok (.getfield 15, 3) := by decide +kernel
theorem dX3_takeNumber_49 : decode cX3_takeNumber 49 = .ok (.iconst 1, 1) := by decide +kernel
theorem dX3_takeNumber_50 : decode cX3_takeNumber 50 = .ok (.iadd, 1) := by decide +kernel
theorem dX3_takeNumber_51 : decode cX3_takeNumber 51 = .ok (.invokevirtual 42, 3) := by decide +kernel
theorem dX3_takeNumber_54 : decode cX3_takeNumber 54 = .ok (.lload_n 3, 1) := by decide +kernel
theorem dX3_takeNumber_55 : decode cX3_takeNumber 55 = .ok (.l2i, 1) := by decide +kernel
theorem dX3_takeNumber_56 : decode cX3_takeNumber 56 = .ok (.ireturn, 1) := by decide +kernel
theorem dX3_takeNewName_0 : decode cX3_takeNewName 0 = .ok (.aload_n 0, 1) := by decide +kernel
theorem dX3_takeNewName_1 : decode cX3_takeNewName 1 = .ok (.getfield 19, 3) := by decide +kernel
theorem dX3_takeNewName_4 : decode cX3_takeNewName 4 = .ok (.iconst 2, 1) := by decide +kernel
theorem dX3_takeNewName_5 : decode cX3_takeNewName 5 = .ok (.if_icmp .eq 8, 3) := by decide +kernel
theorem dX3_takeNewName_8 : decode cX3_takeNewName 8 = .ok (.aload_n 0, 1) := by decide +kernel
theorem dX3_takeNewName_9 : decode cX3_takeNewName 9 = .ok (.iconst 1, 1) := by decide +kernel
theorem dX3_takeNewName_10 : decode cX3_takeNewName 10 = .ok (.invokevirtual 54, 3) := by decide +kernel
theorem dX3_takeNewName_13 : decode cX3_takeNewName 13 = .ok (.aload_n 0, 1) := by decide +kernel
theorem dX3_takeNewName_14 : decode cX3_takeNewName 14 = .ok (.getfield 28, 3) := by decide +kernel
theorem dX3_takeNewName_17 : decode cX3_takeNewName 17 = .ok (.aload_n 0, 1) := by decide +kernel
theorem dX3_takeNewName_18 : decode cX3_takeNewName 18 = .ok (.getfield 15, 3) := by decide +kernel
theorem dX3_takeNewName_21 : decode cX3_takeNewName 21 = .ok (.invokevirtual 88, 3) := by decide +kernel
theorem dX3_takeNewName_24 : decode cX3_takeNewName 24 = .ok (.lstore_n 1, 1) := by decide +kernel
theorem dX3_takeNewName_25 : decode cX3_takeNewName 25 = .ok (.aload_n 0, 1) := by decide +kernel
theorem dX3_takeNewName_26 : decode cX3_takeNewName 26 = .ok (.getfield 9, 3) := by decide +kernel
theorem dX3_takeNewName_29 : decode cX3_takeNewName 29 = .ok (.lload_n 1, 1) := by decide +kernel
theorem dX3_takeNewName_30 : decode cX3_takeNewName 30 = .ok (.invokevirtual 92, 3) := by decide +kernel
theorem dX3_takeNewName_33 : decode cX3_takeNewName 33 = .ok (.ifCond .eq 8, 3) := by decide +kernel
theorem dX3_takeNewName_36 : decode cX3_takeNewName 36 = .ok (.aload_n 0, 1) := by decide +kernel
theorem dX3_takeNewName_37 : decode cX3_takeNewName 37 = .ok (.iconst 3, 1) := by decide +kernel
theorem dX3_takeNewName_38 : decode cX3_takeNewName 38 = .ok (.invokevirtual 54, 3) := by decide +kernel
theorem dX3_takeNewName_41 : decode cX3_takeNewName 41 = .ok (.aload_n 0, 1) := by decide +kernel
theorem dX3_takeNewName_42 : decode cX3_takeNewName 42 = .ok (.aload_n 0, 1) := by decide +kernel
theorem dX3_takeNewName_43 : decode cX3_takeNewName 43 = .ok (.getfield 15, 3) := by decide +kernel
theorem dX3_takeNewName_46 : decode cX3_takeNewName 46 = .ok (.iconst 1, 1) := by decide +kernel
theorem dX3_takeNewName_47 : decode cX3_takeNewName 47 = .ok (.iadd, 1) := by decide +kernel
theorem dX3_takeNewName_48 : decode cX3_takeNewName 48 = .ok (.invokevirtual 42, 3) := by decide +kernel
theorem dX3_takeNewName_51 : decode cX3_takeNewName 51 = .ok (.lload_n 1, 1) := by decide +kernel
theorem dX3_takeNewName_52 : decode cX3_takeNewName 52 = .ok (.lreturn, 1) := by decide +kernel
theorem dX3_takeNewItemName_0 : decode cX3_takeNewItemName 0 = .ok (.aload_n 0, 1) := by decide +kernel
theorem dX3_takeNewItemName_1 : decode cX3_takeNewItemName 1 = .ok (.getfield 19, 3) := by decide +kernel
theorem dX3_takeNewItemName_4 : decode cX3_takeNewItemName 4 = .ok (.iconst 2, 1) := by decide +kernel
theorem dX3_takeNewItemName_5 : decode cX3_takeNewItemName 5 = .ok (.if_icmp .eq 8, 3) := by decide +kernel
theorem dX3_takeNewItemName_8 : decode cX3_takeNewItemName 8 = .ok (.aload_n 0, 1) := by decide +kernel
theorem dX3_takeNewItemName_9 : decode cX3_takeNewItemName 9 = .ok (.iconst 1, 1) := by decide +kernel
theorem dX3_takeNewItemName_10 : decode cX3_takeNewItemName 10 = .ok (.invokevirtual 54, 3) := by decide +kernel
theorem dX3_takeNewItemName_13 : decode cX3_takeNewItemName 13 = .ok (.aload_n 0, 1) := by decide +kernel
theorem dX3_takeNewItemName_14 : decode cX3_takeNewItemName 14 = .ok (.getfield 28, 3) := by decide +kernel
theorem dX3_takeNewItemName_17 : decode cX3_takeNewItemName 17 = .ok (.aload_n 0, 1) := by decide +kernel
theorem dX3_takeNewItemName_18 : decode cX3_takeNewItemName 18 = .ok (.getfield 15, 3) := by decide +kernel
theorem dX3_takeNewItemName_21 : decode cX3_takeNewItemName 21 = .ok (.invokevirtual 88, 3) := by decide +kernel
theorem dX3_takeNewItemName_24 : decode cX3_takeNewItemName 24 = .ok (.lstore_n 2, 1) := by decide +kernel
theorem dX3_takeNewItemName_25 : decode cX3_takeNewItemName 25 = .ok (.lload_n 2, 1) := by decide +kernel
theorem dX3_takeNewItemName_26 : decode cX3_takeNewItemName 26 = .ok (.aload_n 1, 1) := by decide +kernel
theorem dX3_takeNewItemName_27 : decode cX3_takeNewItemName 27 = .ok (.getfield 96, 3) := by decide +kernel
theorem dX3_takeNewItemName_30 : decode cX3_takeNewItemName 30 = .ok (.aload_n 1, 1) := by decide +kernel
theorem dX3_takeNewItemName_31 : decode cX3_takeNewItemName 31 = .ok (.getfield 102, 3) := by decide +kernel
theorem dX3_takeNewItemName_34 : decode cX3_takeNewItemName 34 = .ok (.invokestatic 105, 3) := by decide +kernel
theorem dX3_takeNewItemName_37 : decode cX3_takeNewItemName 37 = .ok (.ifCond .lt 8, 3) := by decide +kernel
theorem dX3_takeNewItemName_40 : decode cX3_takeNewItemName 40 = .ok (.aload_n 0, 1) := by decide +kernel
theorem dX3_takeNewItemName_41 : decode cX3_takeNewItemName 41 = .ok (.iconst 3, 1) := by decide +kernel
theorem dX3_takeNewItemName_42 : decode cX3_takeNewItemName 42 = .ok (.invokevirtual 54, 3) := by decide +kernel
theorem dX3_takeNewItemName_45 : decode cX3_takeNewItemName 45 = .ok (.aload_n 1, 1) := by decide +kernel
theorem dX3_takeNewItemName_46 : decode cX3_takeNewItemName 46 = .ok (.getfield 102, 3) := by decide +kernel
theorem dX3_takeNewItemName_49 : decode cX3_takeNewItemName 49 = .ok (.bipush 8, 2) := by decide +kernel
theorem dX3_takeNewItemName_51 : decode cX3_takeNewItemName 51 = .ok (.if_icmp .lt 8, 3) := by decide +kernel
theorem dX3_takeNewItemName_54 : decode cX3_takeNewItemName 54 = .ok (.aload_n 0, 1) := by decide +kernel
theorem dX3_takeNewItemName_55 : decode cX3_takeNewItemName 55 = .ok (.iconst 5, 1) := by decide +kernel
theorem dX3_takeNewItemName_56 : decode cX3_takeNewItemName 56 = .ok (.invokevirtual 54, 3) := by decide +kernel
theorem dX3_takeNewItemName_59 : decode cX3_takeNewItemName 59 = .ok (.aload_n 0, 1) := by decide +kernel
theorem dX3_takeNewItemName_60 : decode cX3_takeNewItemName 60 = .ok (.aload_n 0, 1) := by decide +kernel
theorem dX3_takeNewItemName_61 : decode cX3_takeNewItemName 61 = .ok (.getfield 15, 3) := by decide +kernel
theorem dX3_takeNewItemName_64 : decode cX3_takeNewItemName 64 = .ok (.iconst 1, 1) := by decide +kernel
theorem dX3_takeNewItemName_65 : decode cX3_takeNewItemName 65 = .ok (.iadd, 1) := by decide +kernel
theorem dX3_takeNewItemName_66 : decode cX3_takeNewItemName 66 = .ok (.invokevirtual 42, 3) := by decide +kernel
theorem dX3_takeNewItemName_69 : decode cX3_takeNewItemName 69 = .ok (.lload_n 2, 1) := by decide +kernel
theorem dX3_takeNewItemName_70 : decode cX3_takeNewItemName 70 = .ok (.lreturn, 1) := by decide +kernel
theorem dX3_takeDevice_0 : decode cX3_takeDevice 0 = .ok (.aload_n 0, 1) := by decide +kernel
theorem dX3_takeDevice_1 : decode cX3_takeDevice 1 = .ok (.getfield 19, 3) := by decide +kernel
theorem dX3_takeDevice_4 : decode cX3_takeDevice 4 = .ok (.iconst 2, 1) := by decide +kernel
theorem dX3_takeDevice_5 : decode cX3_takeDevice 5 = .ok (.if_icmp .eq 8, 3) := by decide +kernel
theorem dX3_takeDevice_8 : decode cX3_takeDevice 8 = .ok (.aload_n 0, 1) := by decide +kernel
theorem dX3_takeDevice_9 : decode cX3_takeDevice 9 = .ok (.iconst 1, 1) := by decide +kernel
theorem dX3_takeDevice_10 : decode cX3_takeDevice 10 = .ok (.invokevirtual 54, 3) := by decide +kernel
theorem dX3_takeDevice_13 : decode cX3_takeDevice 13 = .ok (.aload_n 0, 1) := by decide +kernel
theorem dX3_takeDevice_14 : decode cX3_takeDevice 14 = .ok (.getfield 28, 3) := by decide +kernel
theorem dX3_takeDevice_17 : decode cX3_takeDevice 17 = .ok (.aload_n 0, 1) := by decide +kernel
theorem dX3_takeDevice_18 : decode cX3_takeDevice 18 = .ok (.getfield 15, 3) := by decide +kernel
theorem dX3_takeDevice_21 : decode cX3_takeDevice 21 = .ok (.invokevirtual 88, 3) := by decide +kernel
theorem dX3_takeDevice_24 : decode cX3_takeDevice 24 = .ok (.aload_n 0, 1) := by decide +kernel
theorem dX3_takeDevice_25 : decode cX3_takeDevice 25 = .ok (.getfield 9, 3) := by decide +kernel
theorem dX3_takeDevice_28 : decode cX3_takeDevice 28 = .ok (.getfield 109, 3) := by decide +kernel
theorem dX3_takeDevice_31 : decode cX3_takeDevice 31 = .ok (.aload_n 0, 1) := by decide +kernel
theorem dX3_takeDevice_32 : decode cX3_takeDevice 32 = .ok (.getfield 9, 3) := by decide +kernel
theorem dX3_takeDevice_35 : decode cX3_takeDevice 35 = .ok (.getfield 112, 3) := by decide +kernel
theorem dX3_takeDevice_38 : decode cX3_takeDevice 38 = .ok (.invokestatic 105, 3) := by decide +kernel
theorem dX3_takeDevice_41 : decode cX3_takeDevice 41 = .ok (.istore_n 1, 1) := by decide +kernel
theorem dX3_takeDevice_42 : decode cX3_takeDevice 42 = .ok (.iload_n 1, 1) := by decide +kernel
theorem dX3_takeDevice_43 : decode cX3_takeDevice 43 = .ok (.ifCond .ge 8, 3) := by decide +kernel
theorem dX3_takeDevice_46 : decode cX3_takeDevice 46 = .ok (.aload_n 0, 1) := by decide +kernel
theorem dX3_takeDevice_47 : decode cX3_takeDevice 47 = .ok (.iconst 2, 1) := by decide +kernel
theorem dX3_takeDevice_48 : decode cX3_takeDevice 48 = .ok (.invokevirtual 54, 3) := by decide +kernel
