theorem dX3_takeDevice_51 : decode cX3_takeDevice 51 = .ok (.aload_n 0, 1) := by decide +kernel
theorem dX3_takeDevice_52 : decode cX3_takeDevice 52 = .ok (.aload_n 0, 1) := by decide +kernel
theorem dX3_takeDevice_53 : decode cX3_takeDevice 53 = .ok (.getfield 15, 3) := by decide +kernel
theorem dX3_takeDevice_56 : decode cX3_takeDevice 56 = .ok (.iconst 1, 1) := by decide +kernel
theorem dX3_takeDevice_57 : decode cX3_takeDevice 57 = .ok (.iadd, 1) := by decide +kernel
theorem dX3_takeDevice_58 : decode cX3_takeDevice 58 = .ok (.invokevirtual 42, 3) := by decide +kernel
theorem dX3_takeDevice_61 : decode cX3_takeDevice 61 = .ok (.iload_n 1, 1) := by decide +kernel
theorem dX3_takeDevice_62 : decode cX3_takeDevice 62 = .ok (.ireturn, 1) := by decide +kernel
theorem dX3_readDevice_0 : decode cX3_readDevice 0 = .ok (.aload_n 0, 1) := by decide +kernel
theorem dX3_readDevice_1 : decode cX3_readDevice 1 = .ok (.getfield 9, 3) := by decide +kernel
theorem dX3_readDevice_4 : decode cX3_readDevice 4 = .ok (.getfield 112, 3) := by decide +kernel
theorem dX3_readDevice_7 : decode cX3_readDevice 7 = .ok (.bipush 24, 2) := by decide +kernel
theorem dX3_readDevice_9 : decode cX3_readDevice 9 = .ok (.if_icmp .lt 8, 3) := by decide +kernel
theorem dX3_readDevice_12 : decode cX3_readDevice 12 = .ok (.aload_n 0, 1) := by decide +kernel
theorem dX3_readDevice_13 : decode cX3_readDevice 13 = .ok (.iconst 5, 1) := by decide +kernel
theorem dX3_readDevice_14 : decode cX3_readDevice 14 = .ok (.invokevirtual 54, 3) := by decide +kernel
theorem dX3_readDevice_17 : decode cX3_readDevice 17 = .ok (.aload_n 0, 1) := by decide +kernel
theorem dX3_readDevice_18 : decode cX3_readDevice 18 = .ok (.aload_n 0, 1) := by decide +kernel
theorem dX3_readDevice_19 : decode cX3_readDevice 19 = .ok (.getfield 15, 3) := by decide +kernel
theorem dX3_readDevice_22 : decode cX3_readDevice 22 = .ok (.iconst 1, 1) := by decide +kernel
theorem dX3_readDevice_23 : decode cX3_readDevice 23 = .ok (.iadd, 1) := by decide +kernel
theorem dX3_readDevice_24 : decode cX3_readDevice 24 = .ok (.invokevirtual 42, 3) := by decide +kernel
theorem dX3_readDevice_27 : decode cX3_readDevice 27 = .ok (.aload_n 0, 1) := by decide +kernel
theorem dX3_readDevice_28 : decode cX3_readDevice 28 = .ok (.invokevirtual 115, 3) := by decide +kernel
theorem dX3_readDevice_31 : decode cX3_readDevice 31 = .ok (.lstore_n 1, 1) := by decide +kernel
theorem dX3_readDevice_32 : decode cX3_readDevice 32 = .ok (.aload_n 0, 1) := by decide +kernel
theorem dX3_readDevice_33 : decode cX3_readDevice 33 = .ok (.sipush 129, 3) := by decide +kernel
theorem dX3_readDevice_36 : decode cX3_readDevice 36 = .ok (.invokevirtual 119, 3) := by decide +kernel
theorem dX3_readDevice_39 : decode cX3_readDevice 39 = .ok (.aload_n 0, 1) := by decide +kernel
theorem dX3_readDevice_40 : decode cX3_readDevice 40 = .ok (.iconst 0, 1) := by decide +kernel
theorem dX3_readDevice_41 : decode cX3_readDevice 41 = .ok (.ldc 122, 2) := by decide +kernel
theorem dX3_readDevice_43 : decode cX3_readDevice 43 = .ok (.invokevirtual 123, 3) := by decide +kernel
theorem dX3_readDevice_46 : decode cX3_readDevice 46 = .ok (.istore_n 3, 1) := by decide +kernel
theorem dX3_readDevice_47 : decode cX3_readDevice 47 = .ok (.aload_n 0, 1) := by decide +kernel
theorem dX3_readDevice_48 : decode cX3_readDevice 48 = .ok (.sipush 130, 3) := by decide +kernel
theorem dX3_readDevice_51 : decode cX3_readDevice 51 = .ok (.invokevirtual 119, 3) := by decide +kernel
theorem dX3_readDevice_54 : decode cX3_readDevice 54 = .ok (.aload_n 0, 1) := by decide +kernel
theorem dX3_readDevice_55 : decode cX3_readDevice 55 = .ok (.iload_n 3, 1) := by decide +kernel
theorem dX3_readDevice_56 : decode cX3_readDevice 56 = .ok (.ldc 122, 2) := by decide +kernel
theorem dX3_readDevice_58 : decode cX3_readDevice 58 = .ok (.invokevirtual 123, 3) := by decide +kernel
theorem dX3_readDevice_61 : decode cX3_readDevice 61 = .ok (.istore 4, 2) := by decide +kernel
theorem dX3_readDevice_63 : decode cX3_readDevice 63 = .ok (.aload_n 0, 1) := by decide +kernel
theorem dX3_readDevice_64 : decode cX3_readDevice 64 = .ok (.sipush 131, 3) := by decide +kernel
theorem dX3_readDevice_67 : decode cX3_readDevice 67 = .ok (.invokevirtual 119, 3) := by decide +kernel
theorem dX3_readDevice_70 : decode cX3_readDevice 70 = .ok (.aload_n 0, 1) := by decide +kernel
theorem dX3_readDevice_71 : decode cX3_readDevice 71 = .ok (.iconst 1, 1) := by decide +kernel
theorem dX3_readDevice_72 : decode cX3_readDevice 72 = .ok (.ldc 122, 2) := by decide +kernel
theorem dX3_readDevice_74 : decode cX3_readDevice 74 = .ok (.invokevirtual 123, 3) := by decide +kernel
theorem dX3_readDevice_77 : decode cX3_readDevice 77 = .ok (.istore 5, 2) := by decide +kernel
theorem dX3_readDevice_79 : decode cX3_readDevice 79 = .ok (.aload_n 0, 1) := by decide +kernel
theorem dX3_readDevice_80 : decode cX3_readDevice 80 = .ok (.bipush 59, 2) := by decide +kernel
theorem dX3_readDevice_82 : decode cX3_readDevice 82 = .ok (.invokevirtual 119, 3) := by decide +kernel
theorem dX3_readDevice_85 : decode cX3_readDevice 85 = .ok (.aload_n 0, 1) := by decide +kernel
theorem dX3_readDevice_86 : decode cX3_readDevice 86 = .ok (.getfield 9, 3) := by decide +kernel
theorem dX3_readDevice_89 : decode cX3_readDevice 89 = .ok (.lload_n 1, 1) := by decide +kernel
theorem dX3_readDevice_90 : decode cX3_readDevice 90 = .ok (.iload_n 3, 1) := by decide +kernel
theorem dX3_readDevice_91 : decode cX3_readDevice 91 = .ok (.iload 4, 2) := by decide +kernel
theorem dX3_readDevice_93 : decode cX3_readDevice 93 = .ok (.iload 5, 2) := by decide +kernel
theorem dX3_readDevice_95 : decode cX3_readDevice 95 = .ok (.invokevirtual 127, 3) := by decide +kernel
theorem dX3_readDevice_98 : decode cX3_readDevice 98 = .ok (.return_, 1) := by decide +kernel
theorem dX3_readDemand_0 : decode cX3_readDemand 0 = .ok (.aload_n 0, 1) := by decide +kernel
theorem dX3_readDemand_1 : decode cX3_readDemand 1 = .ok (.getfield 9, 3) := by decide +kernel
theorem dX3_readDemand_4 : decode cX3_readDemand 4 = .ok (.getfield 131, 3) := by decide +kernel
theorem dX3_readDemand_7 : decode cX3_readDemand 7 = .ok (.bipush 20, 2) := by decide +kernel
theorem dX3_readDemand_9 : decode cX3_readDemand 9 = .ok (.if_icmp .lt 8, 3) := by decide +kernel
theorem dX3_readDemand_12 : decode cX3_readDemand 12 = .ok (.aload_n 0, 1) := by decide +kernel
theorem dX3_readDemand_13 : decode cX3_readDemand 13 = .ok (.iconst 5, 1) := by decide +kernel
theorem dX3_readDemand_14 : decode cX3_readDemand 14 = .ok (.invokevirtual 54, 3) := by decide +kernel
theorem dX3_readDemand_17 : decode cX3_readDemand 17 = .ok (.aload_n 0, 1) := by decide +kernel
theorem dX3_readDemand_18 : decode cX3_readDemand 18 = .ok (.aload_n 0, 1) := by decide +kernel
theorem dX3_readDemand_19 : decode cX3_readDemand 19 = .ok (.getfield 15, 3) := by decide +kernel
theorem dX3_readDemand_22 : decode cX3_readDemand 22 = .ok (.iconst 1, 1) := by decide +kernel
theorem dX3_readDemand_23 : decode cX3_readDemand 23 = .ok (.iadd, 1) := by decide +kernel
theorem dX3_readDemand_24 : decode cX3_readDemand 24 = .ok (.invokevirtual 42, 3) := by decide +kernel
theorem dX3_readDemand_27 : decode cX3_readDemand 27 = .ok (.aload_n 0, 1) := by decide +kernel
theorem dX3_readDemand_28 : decode cX3_readDemand 28 = .ok (.iconst (-1), 1) := by decide +kernel
theorem dX3_readDemand_29 : decode cX3_readDemand 29 = .ok (.putfield 22, 3) := by decide +kernel
theorem dX3_readDemand_32 : decode cX3_readDemand 32 = .ok (.aload_n 0, 1) := by decide +kernel
theorem dX3_readDemand_33 : decode cX3_readDemand 33 = .ok (.getfield 9, 3) := by decide +kernel
theorem dX3_readDemand_36 : decode cX3_readDemand 36 = .ok (.aload_n 0, 1) := by decide +kernel
theorem dX3_readDemand_37 : decode cX3_readDemand 37 = .ok (.invokevirtual 115, 3) := by decide +kernel
theorem dX3_readDemand_40 : decode cX3_readDemand 40 = .ok (.aload_n 0, 1) := by decide +kernel
theorem dX3_readDemand_41 : decode cX3_readDemand 41 = .ok (.getfield 9, 3) := by decide +kernel
theorem dX3_readDemand_44 : decode cX3_readDemand 44 = .ok (.getfield 134, 3) := by decide +kernel
theorem dX3_readDemand_47 : decode cX3_readDemand 47 = .ok (.invokevirtual 137, 3) := by decide +kernel
theorem dX3_readDemand_50 : decode cX3_readDemand 50 = .ok (.aload_n 0, 1) := by decide +kernel
theorem dX3_readDemand_51 : decode cX3_readDemand 51 = .ok (.iconst 0, 1) := by decide +kernel
theorem dX3_readDemand_52 : decode cX3_readDemand 52 = .ok (.invokevirtual 141, 3) := by decide +kernel
theorem dX3_readDemand_55 : decode cX3_readDemand 55 = .ok (.aload_n 0, 1) := by decide +kernel
theorem dX3_readDemand_56 : decode cX3_readDemand 56 = .ok (.bipush 20, 2) := by decide +kernel
theorem dX3_readDemand_58 : decode cX3_readDemand 58 = .ok (.iconst 0, 1) := by decide +kernel
theorem dX3_readDemand_59 : decode cX3_readDemand 59 = .ok (.iconst 0, 1) := by decide +kernel
theorem dX3_readDemand_60 : decode cX3_readDemand 60 = .ok (.invokevirtual 144, 3) := by decide +kernel
theorem dX3_readDemand_63 : decode cX3_readDemand 63 = .ok (.pop, 1) := by decide +kernel
theorem dX3_readDemand_64 : decode cX3_readDemand 64 = .ok (.return_, 1) := by decide +kernel
theorem dX3_readUnit_0 : decode cX3_readUnit 0 = .ok (.aload_n 0, 1) := by decide +kernel
theorem dX3_readUnit_1 : decode cX3_readUnit 1 = .ok (.getfield 9, 3) := by decide +kernel
theorem dX3_readUnit_4 : decode cX3_readUnit 4 = .ok (.getfield 147, 3) := by decide +kernel
theorem dX3_readUnit_7 : decode cX3_readUnit 7 = .ok (.bipush 24, 2) := by decide +kernel
theorem dX3_readUnit_9 : decode cX3_readUnit 9 = .ok (.if_icmp .lt 8, 3) := by decide +kernel
theorem dX3_readUnit_12 : decode cX3_readUnit 12 = .ok (.aload_n 0, 1) := by decide +kernel
theorem dX3_readUnit_13 : decode cX3_readUnit 13 = .ok (.iconst 5, 1) := by decide +kernel
theorem dX3_readUnit_14 : decode cX3_readUnit 14 = .ok (.invokevirtual 54, 3) := by decide +kernel
theorem dX3_readUnit_17 : decode cX3_readUnit 17 = .ok (.aload_n 0, 1) := by decide +kernel
theorem dX3_readUnit_18 : decode cX3_readUnit 18 = .ok (.aload_n 0, 1) := by decide +kernel
theorem dX3_readUnit_19 : decode cX3_readUnit 19 = .ok (.getfield 9, 3) := by decide +kernel
theorem dX3_readUnit_22 : decode cX3_readUnit 22 = .ok (.getfield 147, 3) := by decide +kernel
theorem dX3_readUnit_25 : decode cX3_readUnit 25 = .ok (.putfield 22, 3) := by decide +kernel
theorem dX3_readUnit_28 : decode cX3_readUnit 28 = .ok (.aload_n 0, 1) := by decide +kernel
theorem dX3_readUnit_29 : decode cX3_readUnit 29 = .ok (.getfield 19, 3) := by decide +kernel
theorem dX3_readUnit_32 : decode cX3_readUnit 32 = .ok (.sipush 135, 3) := by decide +kernel
theorem dX3_readUnit_35 : decode cX3_readUnit 35 = .ok (.if_icmp .ne 10, 3) := by decide +kernel
theorem dX3_readUnit_38 : decode cX3_readUnit 38 = .ok (.aload_n 0, 1) := by decide +kernel
theorem dX3_readUnit_39 : decode cX3_readUnit 39 = .ok (.invokevirtual 150, 3) := by decide +kernel
theorem dX3_readUnit_42 : decode cX3_readUnit 42 = .ok (.goto 7, 3) := by decide +kernel
theorem dX3_readUnit_45 : decode cX3_readUnit 45 = .ok (.aload_n 0, 1) := by decide +kernel
theorem dX3_readUnit_46 : decode cX3_readUnit 46 = .ok (.invokevirtual 154, 3) := by decide +kernel
theorem dX3_readUnit_49 : decode cX3_readUnit 49 = .ok (.astore_n 1, 1) := by decide +kernel
theorem dX3_readUnit_50 : decode cX3_readUnit 50 = .ok (.aload_n 1, 1) := by decide +kernel
theorem dX3_readUnit_51 : decode cX3_readUnit 51 = .ok (.aload_n 0, 1) := by decide +kernel
theorem dX3_readUnit_52 : decode cX3_readUnit 52 = .ok (.getfield 9, 3) := by decide +kernel
theorem dX3_readUnit_55 : decode cX3_readUnit 55 = .ok (.getfield 134, 3) := by decide +kernel
theorem dX3_readUnit_58 : decode cX3_readUnit 58 = .ok (.putfield 157, 3) := by decide +kernel
theorem dX3_readUnit_61 : decode cX3_readUnit 61 = .ok (.aload_n 0, 1) := by decide +kernel
theorem dX3_readUnit_62 : decode cX3_readUnit 62 = .ok (.aload_n 1, 1) := by decide +kernel
theorem dX3_readUnit_63 : decode cX3_readUnit 63 = .ok (.invokevirtual 160, 3) := by decide +kernel
theorem dX3_readUnit_66 : decode cX3_readUnit 66 = .ok (.aload_n 0, 1) := by decide +kernel
theorem dX3_readUnit_67 : decode cX3_readUnit 67 = .ok (.bipush 123, 2) := by decide +kernel
theorem dX3_readUnit_69 : decode cX3_readUnit 69 = .ok (.invokevirtual 119, 3) := by decide +kernel
theorem dX3_readUnit_72 : decode cX3_readUnit 72 = .ok (.iconst 0, 1) := by decide +kernel
theorem dX3_readUnit_73 : decode cX3_readUnit 73 = .ok (.istore_n 2, 1) := by decide +kernel
theorem dX3_readUnit_74 : decode cX3_readUnit 74 = .ok (.iload_n 2, 1) := by decide +kernel
theorem dX3_readUnit_75 : decode cX3_readUnit 75 = .ok (.aload_n 0, 1) := by decide +kernel
theorem dX3_readUnit_76 : decode cX3_readUnit 76 = .ok (.getfield 28, 3) := by decide +kernel
theorem dX3_readUnit_79 : decode cX3_readUnit 79 = .ok (.getfield 34, 3) := by decide +kernel
theorem dX3_readUnit_82 : decode cX3_readUnit 82 = .ok (.if_icmp .ge 81, 3) := by decide +kernel
theorem dX3_readUnit_85 : decode cX3_readUnit 85 = .ok (.aload_n 0, 1) := by decide +kernel
theorem dX3_readUnit_86 : decode cX3_readUnit 86 = .ok (.getfield 19, 3) := by decide +kernel
theorem dX3_readUnit_89 : decode cX3_readUnit 89 = .ok (.bipush 125, 2) := by decide +kernel
theorem dX3_readUnit_91 : decode cX3_readUnit 91 = .ok (.if_icmp .eq 72, 3) := by decide +kernel
theorem dX3_readUnit_94 : decode cX3_readUnit 94 = .ok (.aload_n 0, 1) := by decide +kernel
theorem dX3_readUnit_95 : decode cX3_readUnit 95 = .ok (.getfield 19, 3) := by decide +kernel
theorem dX3_readUnit_98 : decode cX3_readUnit 98 = .ok (.sipush 139, 3) := by decide +kernel
theorem dX3_readUnit_101 : decode cX3_readUnit 101 = .ok (.if_icmp .eq 62, 3) := by decide +kernel
theorem dX3_readUnit_104 : decode cX3_readUnit 104 = .ok (.aload_n 0, 1) := by decide +kernel
theorem dX3_readUnit_105 : decode cX3_readUnit 105 = .ok (.getfield 19, 3) := by decide +kernel
theorem dX3_readUnit_108 : decode cX3_readUnit 108 = .ok (.lookupswitch 44 #[(140, 28), (141, 36)], 28) := by decide +kernel
theorem dX3_readUnit_136 : decode cX3_readUnit 136 = .ok (.aload_n 0, 1) := by decide +kernel
theorem dX3_readUnit_137 : decode cX3_readUnit 137 = .ok (.aload_n 1, 1) := by decide +kernel
theorem dX3_readUnit_138 : decode cX3_readUnit 138 = .ok (.invokevirtual 164, 3) := by decide +kernel
theorem dX3_readUnit_141 : decode cX3_readUnit 141 = .ok (.goto 16, 3) := by decide +kernel
theorem dX3_readUnit_144 : decode cX3_readUnit 144 = .ok (.aload_n 0, 1) := by decide +kernel
theorem dX3_readUnit_145 : decode cX3_readUnit 145 = .ok (.aload_n 1, 1) := by decide +kernel
theorem dX3_readUnit_146 : decode cX3_readUnit 146 = .ok (.invokevirtual 167, 3) := by decide +kernel
theorem dX3_readUnit_149 : decode cX3_readUnit 149 = .ok (.goto 8, 3) := by decide +kernel
theorem dX3_readUnit_152 : decode cX3_readUnit 152 = .ok (.aload_n 0, 1) := by decide +kernel
theorem dX3_readUnit_153 : decode cX3_readUnit 153 = .ok (.iconst 0, 1) := by decide +kernel
theorem dX3_readUnit_154 : decode cX3_readUnit 154 = .ok (.invokevirtual 170, 3) := by decide +kernel
theorem dX3_readUnit_157 : decode cX3_readUnit 157 = .ok (.iinc 2 1, 3) := by decide +kernel
theorem dX3_readUnit_160 : decode cX3_readUnit 160 = .ok (.goto (-86), 3) := by decide +kernel
theorem dX3_readUnit_163 : decode cX3_readUnit 163 = .ok (.aload_n 0, 1) := by decide +kernel
theorem dX3_readUnit_164 : decode cX3_readUnit 164 = .ok (.bipush 20, 2) := by decide +kernel
theorem dX3_readUnit_166 : decode cX3_readUnit 166 = .ok (.iconst 0, 1) := by decide +kernel
theorem dX3_readUnit_167 : decode cX3_readUnit 167 = .ok (.iconst 0, 1) := by decide +kernel
theorem dX3_readUnit_168 : decode cX3_readUnit 168 = .ok (.invokevirtual 144, 3) := by decide +kernel
theorem dX3_readUnit_171 : decode cX3_readUnit 171 = .ok (.pop, 1) := by decide +kernel
theorem dX3_readUnit_172 : decode cX3_readUnit 172 = .ok (.aload_n 0, 1) := by decide +kernel
theorem dX3_readUnit_173 : decode cX3_readUnit 173 = .ok (.getfield 19, 3) := by decide +kernel
theorem dX3_readUnit_176 : decode cX3_readUnit 176 = .ok (.sipush 139, 3) := by decide +kernel
theorem dX3_readUnit_179 : decode cX3_readUnit 179 = .ok (.if_icmp .ne 45, 3) := by decide +kernel
theorem dX3_readUnit_182 : decode cX3_readUnit 182 = .ok (.aload_n 1, 1) := by decide +kernel
theorem dX3_readUnit_183 : decode cX3_readUnit 183 = .ok (.getfield 173, 3) := by decide +kernel
theorem dX3_readUnit_186 : decode cX3_readUnit 186 = .ok (.ifCond .eq 38, 3) := by decide +kernel
theorem dX3_readUnit_189 : decode cX3_readUnit 189 = .ok (.aload_n 0, 1) := by decide +kernel
theorem dX3_readUnit_190 : decode cX3_readUnit 190 = .ok (.aload_n 0, 1) := by decide +kernel
theorem dX3_readUnit_191 : decode cX3_readUnit 191 = .ok (.getfield 15, 3) := by decide +kernel
theorem dX3_readUnit_194 : decode cX3_readUnit 194 = .ok (.iconst 1, 1) := by decide +kernel
theorem dX3_readUnit_195 : decode cX3_readUnit 195 = .ok (.iadd, 1) := by decide +kernel
theorem dX3_readUnit_196 : decode cX3_readUnit 196 = .ok (.invokevirtual 42, 3) := by decide +kernel
theorem dX3_readUnit_199 : decode cX3_readUnit 199 = .ok (.aload_n 1, 1) := by decide +kernel
theorem dX3_readUnit_200 : decode cX3_readUnit 200 = .ok (.aload_n 0, 1) := by decide +kernel
theorem dX3_readUnit_201 : decode cX3_readUnit 201 = .ok (.getfield 9, 3) := by decide +kernel
theorem dX3_readUnit_204 : decode cX3_readUnit 204 = .ok (.getfield 134, 3) := by decide +kernel
theorem dX3_readUnit_207 : decode cX3_readUnit 207 = .ok (.putfield 177, 3) := by decide +kernel
theorem dX3_readUnit_210 : decode cX3_readUnit 210 = .ok (.aload_n 0, 1) := by decide +kernel
theorem dX3_readUnit_211 : decode cX3_readUnit 211 = .ok (.iconst 0, 1) := by decide +kernel
theorem dX3_readUnit_212 : decode cX3_readUnit 212 = .ok (.invokevirtual 141, 3) := by decide +kernel
theorem dX3_readUnit_215 : decode cX3_readUnit 215 = .ok (.aload_n 0, 1) := by decide +kernel
theorem dX3_readUnit_216 : decode cX3_readUnit 216 = .ok (.bipush 20, 2) := by decide +kernel
theorem dX3_readUnit_218 : decode cX3_readUnit 218 = .ok (.iconst 0, 1) := by decide +kernel
theorem dX3_readUnit_219 : decode cX3_readUnit 219 = .ok (.iconst 0, 1) := by decide +kernel
theorem dX3_readUnit_220 : decode cX3_readUnit 220 = .ok (.invokevirtual 144, 3) := by decide +kernel
theorem dX3_readUnit_223 : decode cX3_readUnit 223 = .ok (.pop, 1) := by decide +kernel
theorem dX3_readUnit_224 : decode cX3_readUnit 224 = .ok (.aload_n 0, 1) := by decide +kernel
theorem dX3_readUnit_225 : decode cX3_readUnit 225 = .ok (.bipush 125, 2) := by decide +kernel
theorem dX3_readUnit_227 : decode cX3_readUnit 227 = .ok (.invokevirtual 119, 3) := by decide +kernel
theorem dX3_readUnit_230 : decode cX3_readUnit 230 = .ok (.return_, 1) := by decide +kernel
theorem dX3_readRoleHead_0 : decode cX3_readRoleHead 0 = .ok (.aload_n 0, 1) := by decide +kernel
theorem dX3_readRoleHead_1 : decode cX3_readRoleHead 1 = .ok (.getfield 19, 3) := by decide +kernel
theorem dX3_readRoleHead_4 : decode cX3_readRoleHead 4 = .ok (.sipush 132, 3) := by decide +kernel
theorem dX3_readRoleHead_7 : decode cX3_readRoleHead 7 = .ok (.if_icmp .ne 7, 3) := by decide +kernel
theorem dX3_readRoleHead_10 : decode cX3_readRoleHead 10 = .ok (.iconst 1, 1) := by decide +kernel
theorem dX3_readRoleHead_11 : decode cX3_readRoleHead 11 = .ok (.goto 4, 3) := by decide +kernel
theorem dX3_readRoleHead_14 : decode cX3_readRoleHead 14 = .ok (.iconst 0, 1) := by decide +kernel
theorem dX3_readRoleHead_15 : decode cX3_readRoleHead 15 = .ok (.istore_n 1, 1) := by decide +kernel
theorem dX3_readRoleHead_16 : decode cX3_readRoleHead 16 = .ok (.iload_n 1, 1) := by decide +kernel
theorem dX3_readRoleHead_17 : decode cX3_readRoleHead 17 = .ok (.ifCond .eq 13, 3) := by decide +kernel
theorem dX3_readRoleHead_20 : decode cX3_readRoleHead 20 = .ok (.aload_n 0, 1) := by decide +kernel
theorem dX3_readRoleHead_21 : decode cX3_readRoleHead 21 = .ok (.aload_n 0, 1) := by decide +kernel
theorem dX3_readRoleHead_22 : decode cX3_readRoleHead 22 = .ok (.getfield 15, 3) := by decide +kernel
theorem dX3_readRoleHead_25 : decode cX3_readRoleHead 25 = .ok (.iconst 1, 1) := by decide +kernel
theorem dX3_readRoleHead_26 : decode cX3_readRoleHead 26 = .ok (.iadd, 1) := by decide +kernel
theorem dX3_readRoleHead_27 : decode cX3_readRoleHead 27 = .ok (.invokevirtual 42, 3) := by decide +kernel
theorem dX3_readRoleHead_30 : decode cX3_readRoleHead 30 = .ok (.aload_n 0, 1) := by decide +kernel
theorem dX3_readRoleHead_31 : decode cX3_readRoleHead 31 = .ok (.sipush 133, 3) := by decide +kernel
theorem dX3_readRoleHead_34 : decode cX3_readRoleHead 34 = .ok (.invokevirtual 119, 3) := by decide +kernel
theorem dX3_readRoleHead_37 : decode cX3_readRoleHead 37 = .ok (.new 97, 3) := by decide +kernel
theorem dX3_readRoleHead_40 : decode cX3_readRoleHead 40 = .ok (.dup, 1) := by decide +kernel
theorem dX3_readRoleHead_41 : decode cX3_readRoleHead 41 = .ok (.iconst 0, 1) := by decide +kernel
theorem dX3_readRoleHead_42 : decode cX3_readRoleHead 42 = .ok (.iload_n 1, 1) := by decide +kernel
theorem dX3_readRoleHead_43 : decode cX3_readRoleHead 43 = .ok (.invokespecial 180, 3) := by decide +kernel
theorem dX3_readRoleHead_46 : decode cX3_readRoleHead 46 = .ok (.astore_n 2, 1) := by decide +kernel
theorem dX3_readRoleHead_47 : decode cX3_readRoleHead 47 = .ok (.aload_n 0, 1) := by decide +kernel
theorem dX3_readRoleHead_48 : decode cX3_readRoleHead 48 = .ok (.invokevirtual 115, 3) := by decide +kernel
theorem dX3_readRoleHead_51 : decode cX3_readRoleHead 51 = .ok (.lstore_n 3, 1) := by decide +kernel
theorem dX3_readRoleHead_52 : decode cX3_readRoleHead 52 = .ok (.aload_n 0, 1) := by decide +kernel
theorem dX3_readRoleHead_53 : decode cX3_readRoleHead 53 = .ok (.getfield 19, 3) := by decide +kernel
theorem dX3_readRoleHead_56 : decode cX3_readRoleHead 56 = .ok (.sipush 134, 3) := by decide +kernel
theorem dX3_readRoleHead_59 : decode cX3_readRoleHead 59 = .ok (.if_icmp .ne 8, 3) := by decide +kernel
theorem dX3_readRoleHead_62 : decode cX3_readRoleHead 62 = .ok (.aload_n 0, 1) := by decide +kernel
theorem dX3_readRoleHead_63 : decode cX3_readRoleHead 63 = .ok (.aload_n 2, 1) := by decide +kernel
theorem dX3_readRoleHead_64 : decode cX3_readRoleHead 64 = .ok (.invokevirtual 183, 3) := by decide +kernel
theorem dX3_readRoleHead_67 : decode cX3_readRoleHead 67 = .ok (.aload_n 0, 1) := by decide +kernel
theorem dX3_readRoleHead_68 : decode cX3_readRoleHead 68 = .ok (.getfield 9, 3) := by decide +kernel
theorem dX3_readRoleHead_71 : decode cX3_readRoleHead 71 = .ok (.lload_n 3, 1) := by decide +kernel
theorem dX3_readRoleHead_72 : decode cX3_readRoleHead 72 = .ok (.aload_n 2, 1) := by decide +kernel
theorem dX3_readRoleHead_73 : decode cX3_readRoleHead 73 = .ok (.invokevirtual 186, 3) := by decide +kernel
theorem dX3_readRoleHead_76 : decode cX3_readRoleHead 76 = .ok (.aload_n 2, 1) := by decide +kernel
theorem dX3_readRoleHead_77 : decode cX3_readRoleHead 77 = .ok (.areturn, 1) := by decide +kernel
theorem dX3_readModuleHead_0 : decode cX3_readModuleHead 0 = .ok (.aload_n 0, 1) := by decide +kernel
theorem dX3_readModuleHead_1 : decode cX3_readModuleHead 1 = .ok (.aload_n 0, 1) := by decide +kernel
theorem dX3_readModuleHead_2 : decode cX3_readModuleHead 2 = .ok (.getfield 15, 3) := by decide +kernel
theorem dX3_readModuleHead_5 : decode cX3_readModuleHead 5 = .ok (.iconst 1, 1) := by decide +kernel
theorem dX3_readModuleHead_6 : decode cX3_readModuleHead 6 = .ok (.iadd, 1) := by decide +kernel
theorem dX3_readModuleHead_7 : decode cX3_readModuleHead 7 = .ok (.invokevirtual 42, 3) := by decide +kernel
theorem dX3_readModuleHead_10 : decode cX3_readModuleHead 10 = .ok (.new 97, 3) := by decide +kernel
theorem dX3_readModuleHead_13 : decode cX3_readModuleHead 13 = .ok (.dup, 1) := by decide +kernel
theorem dX3_readModuleHead_14 : decode cX3_readModuleHead 14 = .ok (.iconst 1, 1) := by decide +kernel
theorem dX3_readModuleHead_15 : decode cX3_readModuleHead 15 = .ok (.iconst 0, 1) := by decide +kernel
theorem dX3_readModuleHead_16 : decode cX3_readModuleHead 16 = .ok (.invokespecial 180, 3) := by decide +kernel
theorem dX3_readModuleHead_19 : decode cX3_readModuleHead 19 = .ok (.astore_n 1, 1) := by decide +kernel
theorem dX3_readModuleHead_20 : decode cX3_readModuleHead 20 = .ok (.aload_n 0, 1) := by decide +kernel
theorem dX3_readModuleHead_21 : decode cX3_readModuleHead 21 = .ok (.invokevirtual 115, 3) := by decide +kernel
theorem dX3_readModuleHead_24 : decode cX3_readModuleHead 24 = .ok (.lstore_n 2, 1) := by decide +kernel
theorem dX3_readModuleHead_25 : decode cX3_readModuleHead 25 = .ok (.aload_n 0, 1) := by decide +kernel
theorem dX3_readModuleHead_26 : decode cX3_readModuleHead 26 = .ok (.getfield 19, 3) := by decide +kernel
theorem dX3_readModuleHead_29 : decode cX3_readModuleHead 29 = .ok (.sipush 136, 3) := by decide +kernel
theorem dX3_readModuleHead_32 : decode cX3_readModuleHead 32 = .ok (.if_icmp .ne 21, 3) := by decide +kernel
theorem dX3_readModuleHead_35 : decode cX3_readModuleHead 35 = .ok (.aload_n 0, 1) := by decide +kernel
theorem dX3_readModuleHead_36 : decode cX3_readModuleHead 36 = .ok (.aload_n 0, 1) := by decide +kernel
theorem dX3_readModuleHead_37 : decode cX3_readModuleHead 37 = .ok (.getfield 15, 3) := by decide +kernel
theorem dX3_readModuleHead_40 : decode cX3_readModuleHead 40 = .ok (.iconst 1, 1) := by decide +kernel
theorem dX3_readModuleHead_41 : decode cX3_readModuleHead 41 = .ok (.iadd, 1) := by decide +kernel
theorem dX3_readModuleHead_42 : decode cX3_readModuleHead 42 = .ok (.invokevirtual 42, 3) := by decide +kernel
theorem dX3_readModuleHead_45 : decode cX3_readModuleHead 45 = .ok (.aload_n 1, 1) := by decide +kernel
theorem dX3_readModuleHead_46 : decode cX3_readModuleHead 46 = .ok (.aload_n 0, 1) := by decide +kernel
theorem dX3_readModuleHead_47 : decode cX3_readModuleHead 47 = .ok (.invokevirtual 190, 3) := by decide +kernel
theorem dX3_readModuleHead_50 : decode cX3_readModuleHead 50 = .ok (.putfield 194, 3) := by decide +kernel
theorem dX3_readModuleHead_53 : decode cX3_readModuleHead 53 = .ok (.aload_n 0, 1) := by decide +kernel
theorem dX3_readModuleHead_54 : decode cX3_readModuleHead 54 = .ok (.getfield 19, 3) := by decide +kernel
theorem dX3_readModuleHead_57 : decode cX3_readModuleHead 57 = .ok (.sipush 137, 3) := by decide +kernel
theorem dX3_readModuleHead_60 : decode cX3_readModuleHead 60 = .ok (.if_icmp .ne 8, 3) := by decide +kernel
theorem dX3_readModuleHead_63 : decode cX3_readModuleHead 63 = .ok (.aload_n 0, 1) := by decide +kernel
theorem dX3_readModuleHead_64 : decode cX3_readModuleHead 64 = .ok (.aload_n 1, 1) := by decide +kernel
theorem dX3_readModuleHead_65 : decode cX3_readModuleHead 65 = .ok (.invokevirtual 183, 3) := by decide +kernel
theorem dX3_readModuleHead_68 : decode cX3_readModuleHead 68 = .ok (.aload_n 0, 1) := by decide +kernel
theorem dX3_readModuleHead_69 : decode cX3_readModuleHead 69 = .ok (.getfield 9, 3) := by decide +kernel
theorem dX3_readModuleHead_72 : decode cX3_readModuleHead 72 = .ok (.lload_n 2, 1) := by decide +kernel
theorem dX3_readModuleHead_73 : decode cX3_readModuleHead 73 = .ok (.aload_n 1, 1) := by decide +kernel
theorem dX3_readModuleHead_74 : decode cX3_readModuleHead 74 = .ok (.invokevirtual 186, 3) := by decide +kernel
theorem dX3_readModuleHead_77 : decode cX3_readModuleHead 77 = .ok (.aload_n 1, 1) := by decide +kernel
theorem dX3_readModuleHead_78 : decode cX3_readModuleHead 78 = .ok (.areturn, 1) := by decide +kernel
theorem dX3_readBase_0 : decode cX3_readBase 0 = .ok (.aload_n 0, 1) := by decide +kernel
theorem dX3_readBase_1 : decode cX3_readBase 1 = .ok (.getfield 19, 3) := by decide +kernel
theorem dX3_readBase_4 : decode cX3_readBase 4 = .ok (.iconst 2, 1) := by decide +kernel
theorem dX3_readBase_5 : decode cX3_readBase 5 = .ok (.if_icmp .eq 8, 3) := by decide +kernel
theorem dX3_readBase_8 : decode cX3_readBase 8 = .ok (.aload_n 0, 1) := by decide +kernel
theorem dX3_readBase_9 : decode cX3_readBase 9 = .ok (.iconst 1, 1) := by decide +kernel
theorem dX3_readBase_10 : decode cX3_readBase 10 = .ok (.invokevirtual 54, 3) := by decide +kernel
theorem dX3_readBase_13 : decode cX3_readBase 13 = .ok (.aload_n 0, 1) := by decide +kernel
theorem dX3_readBase_14 : decode cX3_readBase 14 = .ok (.getfield 28, 3) := by decide +kernel
theorem dX3_readBase_17 : decode cX3_readBase 17 = .ok (.aload_n 0, 1) := by decide +kernel
theorem dX3_readBase_18 : decode cX3_readBase 18 = .ok (.getfield 15, 3) := by decide +kernel
theorem dX3_readBase_21 : decode cX3_readBase 21 = .ok (.invokevirtual 88, 3) := by decide +kernel
theorem dX3_readBase_24 : decode cX3_readBase 24 = .ok (.aload_n 0, 1) := by decide +kernel
theorem dX3_readBase_25 : decode cX3_readBase 25 = .ok (.getfield 9, 3) := by decide +kernel
theorem dX3_readBase_28 : decode cX3_readBase 28 = .ok (.getfield 197, 3) := by decide +kernel
theorem dX3_readBase_31 : decode cX3_readBase 31 = .ok (.aload_n 0, 1) := by decide +kernel
theorem dX3_readBase_32 : decode cX3_readBase 32 = .ok (.getfield 9, 3) := by decide +kernel
theorem dX3_readBase_35 : decode cX3_readBase 35 = .ok (.getfield 147, 3) := by decide +kernel
theorem dX3_readBase_38 : decode cX3_readBase 38 = .ok (.invokestatic 105, 3) := by decide +kernel
theorem dX3_readBase_41 : decode cX3_readBase 41 = .ok (.istore_n 1, 1) := by decide +kernel
theorem dX3_readBase_42 : decode cX3_readBase 42 = .ok (.iload_n 1, 1) := by decide +kernel
theorem dX3_readBase_43 : decode cX3_readBase 43 = .ok (.ifCond .ge 8, 3) := by decide +kernel
theorem dX3_readBase_46 : decode cX3_readBase 46 = .ok (.aload_n 0, 1) := by decide +kernel
theorem dX3_readBase_47 : decode cX3_readBase 47 = .ok (.iconst 2, 1) := by decide +kernel
theorem dX3_readBase_48 : decode cX3_readBase 48 = .ok (.invokevirtual 54, 3) := by decide +kernel
theorem dX3_readBase_51 : decode cX3_readBase 51 = .ok (.aload_n 0, 1) := by decide +kernel
theorem dX3_readBase_52 : decode cX3_readBase 52 = .ok (.getfield 9, 3) := by decide +kernel
theorem dX3_readBase_55 : decode cX3_readBase 55 = .ok (.getfield 200, 3) := by decide +kernel
theorem dX3_readBase_58 : decode cX3_readBase 58 = .ok (.iload_n 1, 1) := by decide +kernel
theorem dX3_readBase_59 : decode cX3_readBase 59 = .ok (.aaload, 1) := by decide +kernel
theorem dX3_readBase_60 : decode cX3_readBase 60 = .ok (.getfield 173, 3) := by decide +kernel
theorem dX3_readBase_63 : decode cX3_readBase 63 = .ok (.ifCond .ne 9, 3) := by decide +kernel
theorem dX3_readBase_66 : decode cX3_readBase 66 = .ok (.aload_n 0, 1) := by decide +kernel
theorem dX3_readBase_67 : decode cX3_readBase 67 = .ok (.bipush 6, 2) := by decide +kernel
theorem dX3_readBase_69 : decode cX3_readBase 69 = .ok (.invokevirtual 54, 3) := by decide +kernel
theorem dX3_readBase_72 : decode cX3_readBase 72 = .ok (.aload_n 0, 1) := by decide +kernel
theorem dX3_readBase_73 : decode cX3_readBase 73 = .ok (.aload_n 0, 1) := by decide +kernel
theorem dX3_readBase_74 : decode cX3_readBase 74 = .ok (.getfield 15, 3) := by decide +kernel
theorem dX3_readBase_77 : decode cX3_readBase 77 = .ok (.iconst 1, 1) := by decide +kernel
theorem dX3_readBase_78 : decode cX3_readBase 78 = .ok (.iadd, 1) := by decide +kernel
theorem dX3_readBase_79 : decode cX3_readBase 79 = .ok (.invokevirtual 42, 3) := by decide +kernel
theorem dX3_readBase_82 : decode cX3_readBase 82 = .ok (.iload_n 1, 1) := by decide +kernel
theorem dX3_readBase_83 : decode cX3_readBase 83 = .ok (.ireturn, 1) := by decide +kernel
theorem dX3_readRoles_0 : decode cX3_readRoles 0 = .ok (.aload_n 0, 1) := by decide +kernel
theorem dX3_readRoles_1 : decode cX3_readRoles 1 = .ok (.getfield 19, 3) := by decide +kernel
theorem dX3_readRoles_4 : decode cX3_readRoles 4 = .ok (.istore_n 2, 1) := by decide +kernel
theorem dX3_readRoles_5 : decode cX3_readRoles 5 = .ok (.iconst 0, 1) := by decide +kernel
theorem dX3_readRoles_6 : decode cX3_readRoles 6 = .ok (.istore_n 3, 1) := by decide +kernel
theorem dX3_readRoles_7 : decode cX3_readRoles 7 = .ok (.iload_n 3, 1) := by decide +kernel
theorem dX3_readRoles_8 : decode cX3_readRoles 8 = .ok (.aload_n 0, 1) := by decide +kernel
theorem dX3_readRoles_9 : decode cX3_readRoles 9 = .ok (.getfield 28, 3) := by decide +kernel
theorem dX3_readRoles_12 : decode cX3_readRoles 12 = .ok (.getfield 34, 3) := by decide +kernel
theorem dX3_readRoles_15 : decode cX3_readRoles 15 = .ok (.if_icmp .ge 149, 3) := by decide +kernel
theorem dX3_readRoles_18 : decode cX3_readRoles 18 = .ok (.aload_n 0, 1) := by decide +kernel
theorem dX3_readRoles_19 : decode cX3_readRoles 19 = .ok (.getfield 19, 3) := by decide +kernel
theorem dX3_readRoles_22 : decode cX3_readRoles 22 = .ok (.iload_n 2, 1) := by decide +kernel
theorem dX3_readRoles_23 : decode cX3_readRoles 23 = .ok (.if_icmp .ne 141, 3) := by decide +kernel
theorem dX3_readRoles_26 : decode cX3_readRoles 26 = .ok (.aload_n 0, 1) := by decide +kernel
theorem dX3_readRoles_27 : decode cX3_readRoles 27 = .ok (.aload_n 0, 1) := by decide +kernel
theorem dX3_readRoles_28 : decode cX3_readRoles 28 = .ok (.getfield 15, 3) := by decide +kernel
theorem dX3_readRoles_31 : decode cX3_readRoles 31 = .ok (.iconst 1, 1) := by decide +kernel
theorem dX3_readRoles_32 : decode cX3_readRoles 32 = .ok (.iadd, 1) := by decide +kernel
theorem dX3_readRoles_33 : decode cX3_readRoles 33 = .ok (.invokevirtual 42, 3) := by decide +kernel
theorem dX3_readRoles_36 : decode cX3_readRoles 36 = .ok (.bipush 44, 2) := by decide +kernel
theorem dX3_readRoles_38 : decode cX3_readRoles 38 = .ok (.istore_n 2, 1) := by decide +kernel
theorem dX3_readRoles_39 : decode cX3_readRoles 39 = .ok (.aload_n 0, 1) := by decide +kernel
theorem dX3_readRoles_40 : decode cX3_readRoles 40 = .ok (.getfield 19, 3) := by decide +kernel
theorem dX3_readRoles_43 : decode cX3_readRoles 43 = .ok (.iconst 2, 1) := by decide +kernel
theorem dX3_readRoles_44 : decode cX3_readRoles 44 = .ok (.if_icmp .eq 8, 3) := by decide +kernel
theorem dX3_readRoles_47 : decode cX3_readRoles 47 = .ok (.aload_n 0, 1) := by decide +kernel
theorem dX3_readRoles_48 : decode cX3_readRoles 48 = .ok (.iconst 1, 1) := by decide +kernel
theorem dX3_readRoles_49 : decode cX3_readRoles 49 = .ok (.invokevirtual 54, 3) := by decide +kernel
theorem dX3_readRoles_52 : decode cX3_readRoles 52 = .ok (.aload_n 0, 1) := by decide +kernel
theorem dX3_readRoles_53 : decode cX3_readRoles 53 = .ok (.getfield 28, 3) := by decide +kernel
theorem dX3_readRoles_56 : decode cX3_readRoles 56 = .ok (.aload_n 0, 1) := by decide +kernel
theorem dX3_readRoles_57 : decode cX3_readRoles 57 = .ok (.getfield 15, 3) := by decide +kernel
theorem dX3_readRoles_60 : decode cX3_readRoles 60 = .ok (.invokevirtual 88, 3) := by decide +kernel
theorem dX3_readRoles_63 : decode cX3_readRoles 63 = .ok (.aload_n 0, 1) := by decide +kernel
theorem dX3_readRoles_64 : decode cX3_readRoles 64 = .ok (.getfield 9, 3) := by decide +kernel
theorem dX3_readRoles_67 : decode cX3_readRoles 67 = .ok (.getfield 197, 3) := by decide +kernel
theorem dX3_readRoles_70 : decode cX3_readRoles 70 = .ok (.aload_n 0, 1) := by decide +kernel
theorem dX3_readRoles_71 : decode cX3_readRoles 71 = .ok (.getfield 9, 3) := by decide +kernel
theorem dX3_readRoles_74 : decode cX3_readRoles 74 = .ok (.getfield 147, 3) := by decide +kernel
theorem dX3_readRoles_77 : decode cX3_readRoles 77 = .ok (.invokestatic 105, 3) := by decide +kernel
theorem dX3_readRoles_80 : decode cX3_readRoles 80 = .ok (.istore 4, 2) := by decide +kernel
theorem dX3_readRoles_82 : decode cX3_readRoles 82 = .ok (.iload 4, 2) := by decide +kernel
theorem dX3_readRoles_84 : decode cX3_readRoles 84 = .ok (.ifCond .ge 8, 3) := by decide +kernel
theorem dX3_readRoles_87 : decode cX3_readRoles 87 = .ok (.aload_n 0, 1) := by decide +kernel
theorem dX3_readRoles_88 : decode cX3_readRoles 88 = .ok (.iconst 2, 1) := by decide +kernel
theorem dX3_readRoles_89 : decode cX3_readRoles 89 = .ok (.invokevirtual 54, 3) := by decide +kernel
theorem dX3_readRoles_92 : decode cX3_readRoles 92 = .ok (.aload_n 1, 1) := by decide +kernel
theorem dX3_readRoles_93 : decode cX3_readRoles 93 = .ok (.iload 4, 2) := by decide +kernel
theorem dX3_readRoles_95 : decode cX3_readRoles 95 = .ok (.invokevirtual 204, 3) := by decide +kernel
theorem dX3_readRoles_98 : decode cX3_readRoles 98 = .ok (.ifCond .eq 8, 3) := by decide +kernel
theorem dX3_readRoles_101 : decode cX3_readRoles 101 = .ok (.aload_n 0, 1) := by decide +kernel
theorem dX3_readRoles_102 : decode cX3_readRoles 102 = .ok (.iconst 3, 1) := by decide +kernel
theorem dX3_readRoles_103 : decode cX3_readRoles 103 = .ok (.invokevirtual 54, 3) := by decide +kernel
theorem dX3_readRoles_106 : decode cX3_readRoles 106 = .ok (.aload_n 1, 1) := by decide +kernel
theorem dX3_readRoles_107 : decode cX3_readRoles 107 = .ok (.getfield 208, 3) := by decide +kernel
theorem dX3_readRoles_110 : decode cX3_readRoles 110 = .ok (.bipush 6, 2) := by decide +kernel
theorem dX3_readRoles_112 : decode cX3_readRoles 112 = .ok (.if_icmp .lt 8, 3) := by decide +kernel
theorem dX3_readRoles_115 : decode cX3_readRoles 115 = .ok (.aload_n 0, 1) := by decide +kernel
theorem dX3_readRoles_116 : decode cX3_readRoles 116 = .ok (.iconst 5, 1) := by decide +kernel
theorem dX3_readRoles_117 : decode cX3_readRoles 117 = .ok (.invokevirtual 54, 3) := by decide +kernel
theorem dX3_readRoles_120 : decode cX3_readRoles 120 = .ok (.aload_n 0, 1) := by decide +kernel
theorem dX3_readRoles_121 : decode cX3_readRoles 121 = .ok (.getfield 9, 3) := by decide +kernel
theorem dX3_readRoles_124 : decode cX3_readRoles 124 = .ok (.getfield 200, 3) := by decide +kernel
theorem dX3_readRoles_127 : decode cX3_readRoles 127 = .ok (.iload 4, 2) := by decide +kernel
theorem dX3_readRoles_129 : decode cX3_readRoles 129 = .ok (.aaload, 1) := by decide +kernel
theorem dX3_readRoles_130 : decode cX3_readRoles 130 = .ok (.getfield 173, 3) := by decide +kernel
theorem dX3_readRoles_133 : decode cX3_readRoles 133 = .ok (.ifCond .eq 9, 3) := by decide +kernel
theorem dX3_readRoles_136 : decode cX3_readRoles 136 = .ok (.aload_n 0, 1) := by decide +kernel
theorem dX3_readRoles_137 : decode cX3_readRoles 137 = .ok (.bipush 6, 2) := by decide +kernel
theorem dX3_readRoles_139 : decode cX3_readRoles 139 = .ok (.invokevirtual 54, 3) := by decide +kernel
theorem dX3_readRoles_142 : decode cX3_readRoles 142 = .ok (.aload_n 1, 1) := by decide +kernel
theorem dX3_readRoles_143 : decode cX3_readRoles 143 = .ok (.iload 4, 2) := by decide +kernel
theorem dX3_readRoles_145 : decode cX3_readRoles 145 = .ok (.invokevirtual 211, 3) := by decide +kernel
theorem dX3_readRoles_148 : decode cX3_readRoles 148 = .ok (.aload_n 0, 1) := by decide +kernel
theorem dX3_readRoles_149 : decode cX3_readRoles 149 = .ok (.aload_n 0, 1) := by decide +kernel
theorem dX3_readRoles_150 : decode cX3_readRoles 150 = .ok (.getfield 15, 3) := by decide +kernel
theorem dX3_readRoles_153 : decode cX3_readRoles 153 = .ok (.iconst 1, 1) := by decide +kernel
theorem dX3_readRoles_154 : decode cX3_readRoles 154 = .ok (.iadd, 1) := by decide +kernel
theorem dX3_readRoles_155 : decode cX3_readRoles 155 = .ok (.invokevirtual 42, 3) := by decide +kernel
theorem dX3_readRoles_158 : decode cX3_readRoles 158 = .ok (.iinc 3 1, 3) := by decide +kernel
theorem dX3_readRoles_161 : decode cX3_readRoles 161 = .ok (.goto (-154), 3) := by decide +kernel
theorem dX3_readRoles_164 : decode cX3_readRoles 164 = .ok (.return_, 1) := by decide +kernel
theorem dX3_emitBringing_0 : decode cX3_emitBringing 0 = .ok (.aload_n 1, 1) := by decide +kernel
theorem dX3_emitBringing_1 : decode cX3_emitBringing 1 = .ok (.getfield 194, 3) := by decide +kernel
theorem dX3_emitBringing_4 : decode cX3_emitBringing 4 = .ok (.ifCond .lt 15, 3) := by decide +kernel
theorem dX3_emitBringing_7 : decode cX3_emitBringing 7 = .ok (.aload_n 0, 1) := by decide +kernel
theorem dX3_emitBringing_8 : decode cX3_emitBringing 8 = .ok (.bipush 7, 2) := by decide +kernel
theorem dX3_emitBringing_10 : decode cX3_emitBringing 10 = .ok (.aload_n 1, 1) := by decide +kernel
theorem dX3_emitBringing_11 : decode cX3_emitBringing 11 = .ok (.getfield 194, 3) := by decide +kernel
theorem dX3_emitBringing_14 : decode cX3_emitBringing 14 = .ok (.iconst 0, 1) := by decide +kernel
theorem dX3_emitBringing_15 : decode cX3_emitBringing 15 = .ok (.invokevirtual 144, 3) := by decide +kernel
theorem dX3_emitBringing_18 : decode cX3_emitBringing 18 = .ok (.pop, 1) := by decide +kernel
theorem dX3_emitBringing_19 : decode cX3_emitBringing 19 = .ok (.iconst 0, 1) := by decide +kernel
theorem dX3_emitBringing_20 : decode cX3_emitBringing 20 = .ok (.istore_n 2, 1) := by decide +kernel
theorem dX3_emitBringing_21 : decode cX3_emitBringing 21 = .ok (.aload_n 1, 1) := by decide +kernel
theorem dX3_emitBringing_22 : decode cX3_emitBringing 22 = .ok (.getfield 173, 3) := by decide +kernel
theorem dX3_emitBringing_25 : decode cX3_emitBringing 25 = .ok (.ifCond .eq 52, 3) := by decide +kernel
theorem dX3_emitBringing_28 : decode cX3_emitBringing 28 = .ok (.iload_n 2, 1) := by decide +kernel
theorem dX3_emitBringing_29 : decode cX3_emitBringing 29 = .ok (.aload_n 1, 1) := by decide +kernel
theorem dX3_emitBringing_30 : decode cX3_emitBringing 30 = .ok (.getfield 214, 3) := by decide +kernel
theorem dX3_emitBringing_33 : decode cX3_emitBringing 33 = .ok (.arraylength, 1) := by decide +kernel
theorem dX3_emitBringing_34 : decode cX3_emitBringing 34 = .ok (.if_icmp .ge 43, 3) := by decide +kernel
theorem dX3_emitBringing_37 : decode cX3_emitBringing 37 = .ok (.aload_n 0, 1) := by decide +kernel
theorem dX3_emitBringing_38 : decode cX3_emitBringing 38 = .ok (.getfield 9, 3) := by decide +kernel
theorem dX3_emitBringing_41 : decode cX3_emitBringing 41 = .ok (.getfield 200, 3) := by decide +kernel
theorem dX3_emitBringing_44 : decode cX3_emitBringing 44 = .ok (.aload_n 1, 1) := by decide +kernel
theorem dX3_emitBringing_45 : decode cX3_emitBringing 45 = .ok (.getfield 214, 3) := by decide +kernel
theorem dX3_emitBringing_48 : decode cX3_emitBringing 48 = .ok (.iload_n 2, 1) := by decide +kernel
theorem dX3_emitBringing_49 : decode cX3_emitBringing 49 = .ok (.iaload, 1) := by decide +kernel
theorem dX3_emitBringing_50 : decode cX3_emitBringing 50 = .ok (.aaload, 1) := by decide +kernel
theorem dX3_emitBringing_51 : decode cX3_emitBringing 51 = .ok (.getfield 217, 3) := by decide +kernel
theorem dX3_emitBringing_54 : decode cX3_emitBringing 54 = .ok (.ifCond .eq 17, 3) := by decide +kernel
theorem dX3_emitBringing_57 : decode cX3_emitBringing 57 = .ok (.aload_n 0, 1) := by decide +kernel
theorem dX3_emitBringing_58 : decode cX3_emitBringing 58 = .ok (.bipush 7, 2) := by decide +kernel
theorem dX3_emitBringing_60 : decode cX3_emitBringing 60 = .ok (.aload_n 1, 1) := by decide +kernel
theorem dX3_emitBringing_61 : decode cX3_emitBringing 61 = .ok (.getfield 214, 3) := by decide +kernel
theorem dX3_emitBringing_64 : decode cX3_emitBringing 64 = .ok (.iload_n 2, 1) := by decide +kernel
theorem dX3_emitBringing_65 : decode cX3_emitBringing 65 = .ok (.iaload, 1) := by decide +kernel
theorem dX3_emitBringing_66 : decode cX3_emitBringing 66 = .ok (.iconst 0, 1) := by decide +kernel
theorem dX3_emitBringing_67 : decode cX3_emitBringing 67 = .ok (.invokevirtual 144, 3) := by decide +kernel
theorem dX3_emitBringing_70 : decode cX3_emitBringing 70 = .ok (.pop, 1) := by decide +kernel
theorem dX3_emitBringing_71 : decode cX3_emitBringing 71 = .ok (.iinc 2 1, 3) := by decide +kernel
theorem dX3_emitBringing_74 : decode cX3_emitBringing 74 = .ok (.goto (-53), 3) := by decide +kernel
theorem dX3_emitBringing_77 : decode cX3_emitBringing 77 = .ok (.aload_n 0, 1) := by decide +kernel
theorem dX3_emitBringing_78 : decode cX3_emitBringing 78 = .ok (.bipush 8, 2) := by decide +kernel
theorem dX3_emitBringing_80 : decode cX3_emitBringing 80 = .ok (.iconst 0, 1) := by decide +kernel
theorem dX3_emitBringing_81 : decode cX3_emitBringing 81 = .ok (.iconst 0, 1) := by decide +kernel
theorem dX3_emitBringing_82 : decode cX3_emitBringing 82 = .ok (.invokevirtual 144, 3) := by decide +kernel
theorem dX3_emitBringing_85 : decode cX3_emitBringing 85 = .ok (.pop, 1) := by decide +kernel
theorem dX3_emitBringing_86 : decode cX3_emitBringing 86 = .ok (.return_, 1) := by decide +kernel
theorem dX3_readSetting_0 : decode cX3_readSetting 0 = .ok (.aload_n 0, 1) := by decide +kernel
theorem dX3_readSetting_1 : decode cX3_readSetting 1 = .ok (.aload_n 0, 1) := by decide +kernel
theorem dX3_readSetting_2 : decode cX3_readSetting 2 = .ok (.getfield 15, 3) := by decide +kernel
theorem dX3_readSetting_5 : decode cX3_readSetting 5 = .ok (.iconst 1, 1) := by decide +kernel
theorem dX3_readSetting_6 : decode cX3_readSetting 6 = .ok (.iadd, 1) := by decide +kernel
theorem dX3_readSetting_7 : decode cX3_readSetting 7 = .ok (.invokevirtual 42, 3) := by decide +kernel
theorem dX3_readSetting_10 : decode cX3_readSetting 10 = .ok (.aload_n 0, 1) := by decide +kernel
theorem dX3_readSetting_11 : decode cX3_readSetting 11 = .ok (.aload_n 1, 1) := by decide +kernel
theorem dX3_readSetting_12 : decode cX3_readSetting 12 = .ok (.invokevirtual 220, 3) := by decide +kernel
theorem dX3_readSetting_15 : decode cX3_readSetting 15 = .ok (.lstore_n 2, 1) := by decide +kernel
theorem dX3_readSetting_16 : decode cX3_readSetting 16 = .ok (.aload_n 0, 1) := by decide +kernel
theorem dX3_readSetting_17 : decode cX3_readSetting 17 = .ok (.bipush 61, 2) := by decide +kernel
theorem dX3_readSetting_19 : decode cX3_readSetting 19 = .ok (.invokevirtual 119, 3) := by decide +kernel
theorem dX3_readSetting_22 : decode cX3_readSetting 22 = .ok (.aload_n 0, 1) := by decide +kernel
theorem dX3_readSetting_23 : decode cX3_readSetting 23 = .ok (.getfield 19, 3) := by decide +kernel
theorem dX3_readSetting_26 : decode cX3_readSetting 26 = .ok (.bipush 45, 2) := by decide +kernel
theorem dX3_readSetting_28 : decode cX3_readSetting 28 = .ok (.if_icmp .ne 7, 3) := by decide +kernel
theorem dX3_readSetting_31 : decode cX3_readSetting 31 = .ok (.iconst 1, 1) := by decide +kernel
theorem dX3_readSetting_32 : decode cX3_readSetting 32 = .ok (.goto 4, 3) := by decide +kernel
theorem dX3_readSetting_35 : decode cX3_readSetting 35 = .ok (.iconst 0, 1) := by decide +kernel
theorem dX3_readSetting_36 : decode cX3_readSetting 36 = .ok (.istore 4, 2) := by decide +kernel
theorem dX3_readSetting_38 : decode cX3_readSetting 38 = .ok (.iload 4, 2) := by decide +kernel
theorem dX3_readSetting_40 : decode cX3_readSetting 40 = .ok (.ifCond .eq 13, 3) := by decide +kernel
theorem dX3_readSetting_43 : decode cX3_readSetting 43 = .ok (.aload_n 0, 1) := by decide +kernel
theorem dX3_readSetting_44 : decode cX3_readSetting 44 = .ok (.aload_n 0, 1) := by decide +kernel
theorem dX3_readSetting_45 : decode cX3_readSetting 45 = .ok (.getfield 15, 3) := by decide +kernel
theorem dX3_readSetting_48 : decode cX3_readSetting 48 = .ok (.iconst 1, 1) := by decide +kernel
theorem dX3_readSetting_49 : decode cX3_readSetting 49 = .ok (.iadd, 1) := by decide +kernel
theorem dX3_readSetting_50 : decode cX3_readSetting 50 = .ok (.invokevirtual 42, 3) := by decide +kernel
theorem dX3_readSetting_53 : decode cX3_readSetting 53 = .ok (.aload_n 0, 1) := by decide +kernel
theorem dX3_readSetting_54 : decode cX3_readSetting 54 = .ok (.iconst 0, 1) := by decide +kernel
theorem dX3_readSetting_55 : decode cX3_readSetting 55 = .ok (.ldc 122, 2) := by decide +kernel
theorem dX3_readSetting_57 : decode cX3_readSetting 57 = .ok (.invokevirtual 123, 3) := by decide +kernel
theorem dX3_readSetting_60 : decode cX3_readSetting 60 = .ok (.istore 5, 2) := by decide +kernel
theorem dX3_readSetting_62 : decode cX3_readSetting 62 = .ok (.aload_n 0, 1) := by decide +kernel
theorem dX3_readSetting_63 : decode cX3_readSetting 63 = .ok (.bipush 59, 2) := by decide +kernel
theorem dX3_readSetting_65 : decode cX3_readSetting 65 = .ok (.invokevirtual 119, 3) := by decide +kernel
theorem dX3_readSetting_68 : decode cX3_readSetting 68 = .ok (.aload_n 1, 1) := by decide +kernel
theorem dX3_readSetting_69 : decode cX3_readSetting 69 = .ok (.lload_n 2, 1) := by decide +kernel
theorem dX3_readSetting_70 : decode cX3_readSetting 70 = .ok (.iload 4, 2) := by decide +kernel
theorem dX3_readSetting_72 : decode cX3_readSetting 72 = .ok (.ifCond .eq 9, 3) := by decide +kernel
theorem dX3_readSetting_75 : decode cX3_readSetting 75 = .ok (.iload 5, 2) := by decide +kernel
theorem dX3_readSetting_77 : decode cX3_readSetting 77 = .ok (.ineg, 1) := by decide +kernel
theorem dX3_readSetting_78 : decode cX3_readSetting 78 = .ok (.goto 5, 3) := by decide +kernel
theorem dX3_readSetting_81 : decode cX3_readSetting 81 = .ok (.iload 5, 2) := by decide +kernel
theorem dX3_readSetting_83 : decode cX3_readSetting 83 = .ok (.invokevirtual 224, 3) := by decide +kernel
theorem dX3_readSetting_86 : decode cX3_readSetting 86 = .ok (.return_, 1) := by decide +kernel
theorem dX3_readStatic_0 : decode cX3_readStatic 0 = .ok (.aload_n 0, 1) := by decide +kernel
theorem dX3_readStatic_1 : decode cX3_readStatic 1 = .ok (.aload_n 0, 1) := by decide +kernel
theorem dX3_readStatic_2 : decode cX3_readStatic 2 = .ok (.getfield 15, 3) := by decide +kernel
theorem dX3_readStatic_5 : decode cX3_readStatic 5 = .ok (.iconst 1, 1) := by decide +kernel
theorem dX3_readStatic_6 : decode cX3_readStatic 6 = .ok (.iadd, 1) := by decide +kernel
theorem dX3_readStatic_7 : decode cX3_readStatic 7 = .ok (.invokevirtual 42, 3) := by decide +kernel
theorem dX3_readStatic_10 : decode cX3_readStatic 10 = .ok (.aload_n 0, 1) := by decide +kernel
theorem dX3_readStatic_11 : decode cX3_readStatic 11 = .ok (.iconst 1, 1) := by decide +kernel
theorem dX3_readStatic_12 : decode cX3_readStatic 12 = .ok (.iconst 0, 1) := by decide +kernel
theorem dX3_readStatic_13 : decode cX3_readStatic 13 = .ok (.iconst 0, 1) := by decide +kernel
theorem dX3_readStatic_14 : decode cX3_readStatic 14 = .ok (.invokevirtual 144, 3) := by decide +kernel
theorem dX3_readStatic_17 : decode cX3_readStatic 17 = .ok (.pop, 1) := by decide +kernel
theorem dX3_readStatic_18 : decode cX3_readStatic 18 = .ok (.aload_n 0, 1) := by decide +kernel
theorem dX3_readStatic_19 : decode cX3_readStatic 19 = .ok (.aload_n 1, 1) := by decide +kernel
theorem dX3_readStatic_20 : decode cX3_readStatic 20 = .ok (.invokevirtual 220, 3) := by decide +kernel
theorem dX3_readStatic_23 : decode cX3_readStatic 23 = .ok (.lstore_n 2, 1) := by decide +kernel
theorem dX3_readStatic_24 : decode cX3_readStatic 24 = .ok (.aload_n 0, 1) := by decide +kernel
theorem dX3_readStatic_25 : decode cX3_readStatic 25 = .ok (.bipush 61, 2) := by decide +kernel
theorem dX3_readStatic_27 : decode cX3_readStatic 27 = .ok (.invokevirtual 119, 3) := by decide +kernel
theorem dX3_readStatic_30 : decode cX3_readStatic 30 = .ok (.aload_n 0, 1) := by decide +kernel
theorem dX3_readStatic_31 : decode cX3_readStatic 31 = .ok (.iconst 0, 1) := by decide +kernel
theorem dX3_readStatic_32 : decode cX3_readStatic 32 = .ok (.iconst 0, 1) := by decide +kernel
theorem dX3_readStatic_33 : decode cX3_readStatic 33 = .ok (.invokevirtual 227, 3) := by decide +kernel
theorem dX3_readStatic_36 : decode cX3_readStatic 36 = .ok (.aload_n 0, 1) := by decide +kernel
theorem dX3_readStatic_37 : decode cX3_readStatic 37 = .ok (.bipush 59, 2) := by decide +kernel
theorem dX3_readStatic_39 : decode cX3_readStatic 39 = .ok (.invokevirtual 119, 3) := by decide +kernel
theorem dX3_readStatic_42 : decode cX3_readStatic 42 = .ok (.aload_n 0, 1) := by decide +kernel
theorem dX3_readStatic_43 : decode cX3_readStatic 43 = .ok (.iconst 5, 1) := by decide +kernel
theorem dX3_readStatic_44 : decode cX3_readStatic 44 = .ok (.aload_n 0, 1) := by decide +kernel
theorem dX3_readStatic_45 : decode cX3_readStatic 45 = .ok (.getfield 22, 3) := by decide +kernel
theorem dX3_readStatic_48 : decode cX3_readStatic 48 = .ok (.aload_n 1, 1) := by decide +kernel
theorem dX3_readStatic_49 : decode cX3_readStatic 49 = .ok (.lload_n 2, 1) := by decide +kernel
theorem dX3_readStatic_50 : decode cX3_readStatic 50 = .ok (.invokevirtual 231, 3) := by decide +kernel
theorem dX3_readStatic_53 : decode cX3_readStatic 53 = .ok (.invokevirtual 144, 3) := by decide +kernel
theorem dX3_readStatic_56 : decode cX3_readStatic 56 = .ok (.pop, 1) := by decide +kernel
theorem dX3_readStatic_57 : decode cX3_readStatic 57 = .ok (.return_, 1) := by decide +kernel
theorem dX3_readBlock_0 : decode cX3_readBlock 0 = .ok (.aload_n 0, 1) := by decide +kernel
theorem dX3_readBlock_1 : decode cX3_readBlock 1 = .ok (.getfield 19, 3) := by decide +kernel
theorem dX3_readBlock_4 : decode cX3_readBlock 4 = .ok (.bipush 123, 2) := by decide +kernel
theorem dX3_readBlock_6 : decode cX3_readBlock 6 = .ok (.if_icmp .eq 8, 3) := by decide +kernel
theorem dX3_readBlock_9 : decode cX3_readBlock 9 = .ok (.aload_n 0, 1) := by decide +kernel
theorem dX3_readBlock_10 : decode cX3_readBlock 10 = .ok (.iconst 1, 1) := by decide +kernel
theorem dX3_readBlock_11 : decode cX3_readBlock 11 = .ok (.invokevirtual 54, 3) := by decide +kernel
theorem dX3_readBlock_14 : decode cX3_readBlock 14 = .ok (.iload_n 1, 1) := by decide +kernel
theorem dX3_readBlock_15 : decode cX3_readBlock 15 = .ok (.bipush 10, 2) := by decide +kernel
theorem dX3_readBlock_17 : decode cX3_readBlock 17 = .ok (.if_icmp .lt 8, 3) := by decide +kernel
theorem dX3_readBlock_20 : decode cX3_readBlock 20 = .ok (.aload_n 0, 1) := by decide +kernel
theorem dX3_readBlock_21 : decode cX3_readBlock 21 = .ok (.iconst 5, 1) := by decide +kernel
theorem dX3_readBlock_22 : decode cX3_readBlock 22 = .ok (.invokevirtual 54, 3) := by decide +kernel
theorem dX3_readBlock_25 : decode cX3_readBlock 25 = .ok (.aload_n 0, 1) := by decide +kernel
theorem dX3_readBlock_26 : decode cX3_readBlock 26 = .ok (.aload_n 0, 1) := by decide +kernel
theorem dX3_readBlock_27 : decode cX3_readBlock 27 = .ok (.getfield 15, 3) := by decide +kernel
theorem dX3_readBlock_30 : decode cX3_readBlock 30 = .ok (.iconst 1, 1) := by decide +kernel
theorem dX3_readBlock_31 : decode cX3_readBlock 31 = .ok (.iadd, 1) := by decide +kernel
theorem dX3_readBlock_32 : decode cX3_readBlock 32 = .ok (.invokevirtual 42, 3) := by decide +kernel
theorem dX3_readBlock_35 : decode cX3_readBlock 35 = .ok (.iconst 0, 1) := by decide +kernel
theorem dX3_readBlock_36 : decode cX3_readBlock 36 = .ok (.istore_n 2, 1) := by decide +kernel
theorem dX3_readBlock_37 : decode cX3_readBlock 37 = .ok (.iload_n 2, 1) := by decide +kernel
theorem dX3_readBlock_38 : decode cX3_readBlock 38 = .ok (.aload_n 0, 1) := by decide +kernel
theorem dX3_readBlock_39 : decode cX3_readBlock 39 = .ok (.getfield 28, 3) := by decide +kernel
theorem dX3_readBlock_42 : decode cX3_readBlock 42 = .ok (.getfield 34, 3) := by decide +kernel
theorem dX3_readBlock_45 : decode cX3_readBlock 45 = .ok (.if_icmp .ge 25, 3) := by decide +kernel
theorem dX3_readBlock_48 : decode cX3_readBlock 48 = .ok (.aload_n 0, 1) := by decide +kernel
theorem dX3_readBlock_49 : decode cX3_readBlock 49 = .ok (.getfield 19, 3) := by decide +kernel
theorem dX3_readBlock_52 : decode cX3_readBlock 52 = .ok (.bipush 125, 2) := by decide +kernel
theorem dX3_readBlock_54 : decode cX3_readBlock 54 = .ok (.if_icmp .eq 16, 3) := by decide +kernel
theorem dX3_readBlock_57 : decode cX3_readBlock 57 = .ok (.aload_n 0, 1) := by decide +kernel
theorem dX3_readBlock_58 : decode cX3_readBlock 58 = .ok (.iload_n 1, 1) := by decide +kernel
theorem dX3_readBlock_59 : decode cX3_readBlock 59 = .ok (.iconst 1, 1) := by decide +kernel
theorem dX3_readBlock_60 : decode cX3_readBlock 60 = .ok (.iadd, 1) := by decide +kernel
theorem dX3_readBlock_61 : decode cX3_readBlock 61 = .ok (.invokevirtual 170, 3) := by decide +kernel
theorem dX3_readBlock_64 : decode cX3_readBlock 64 = .ok (.iinc 2 1, 3) := by decide +kernel
theorem dX3_readBlock_67 : decode cX3_readBlock 67 = .ok (.goto (-30), 3) := by decide +kernel
theorem dX3_readBlock_70 : decode cX3_readBlock 70 = .ok (.aload_n 0, 1) := by decide +kernel
theorem dX3_readBlock_71 : decode cX3_readBlock 71 = .ok (.bipush 125, 2) := by decide +kernel
theorem dX3_readBlock_73 : decode cX3_readBlock 73 = .ok (.invokevirtual 119, 3) := by decide +kernel
theorem dX3_readBlock_76 : decode cX3_readBlock 76 = .ok (.return_, 1) := by decide +kernel
theorem dX3_readStatement_0 : decode cX3_readStatement 0 = .ok (.aload_n 0, 1) := by decide +kernel
theorem dX3_readStatement_1 : decode cX3_readStatement 1 = .ok (.iconst 1, 1) := by decide +kernel
theorem dX3_readStatement_2 : decode cX3_readStatement 2 = .ok (.iconst 0, 1) := by decide +kernel
theorem dX3_readStatement_3 : decode cX3_readStatement 3 = .ok (.iconst 0, 1) := by decide +kernel
theorem dX3_readStatement_4 : decode cX3_readStatement 4 = .ok (.invokevirtual 144, 3) := by decide +kernel
theorem dX3_readStatement_7 : decode cX3_readStatement 7 = .ok (.istore_n 2, 1) := by decide +kernel
theorem dX3_readStatement_8 : decode cX3_readStatement 8 = .ok (.aload_n 0, 1) := by decide +kernel
theorem dX3_readStatement_9 : decode cX3_readStatement 9 = .ok (.getfield 19, 3) := by decide +kernel
theorem dX3_readStatement_12 : decode cX3_readStatement 12 = .ok (.lookupswitch 253 #[(2, 76), (142, 112), (143, 119), (144, 160), (145, 194), (146, 228), (148, 236), (149, 245)], 76) := by decide +kernel
theorem dX3_readStatement_88 : decode cX3_readStatement 88 = .ok (.aload_n 0, 1) := by decide +kernel
theorem dX3_readStatement_89 : decode cX3_readStatement 89 = .ok (.iconst 1, 1) := by decide +kernel
theorem dX3_readStatement_90 : decode cX3_readStatement 90 = .ok (.invokevirtual 234, 3) := by decide +kernel
theorem dX3_readStatement_93 : decode cX3_readStatement 93 = .ok (.lstore_n 3, 1) := by decide +kernel
theorem dX3_readStatement_94 : decode cX3_readStatement 94 = .ok (.aload_n 0, 1) := by decide +kernel
theorem dX3_readStatement_95 : decode cX3_readStatement 95 = .ok (.bipush 61, 2) := by decide +kernel
theorem dX3_readStatement_97 : decode cX3_readStatement 97 = .ok (.invokevirtual 119, 3) := by decide +kernel
theorem dX3_readStatement_100 : decode cX3_readStatement 100 = .ok (.aload_n 0, 1) := by decide +kernel
theorem dX3_readStatement_101 : decode cX3_readStatement 101 = .ok (.iconst 0, 1) := by decide +kernel
theorem dX3_readStatement_102 : decode cX3_readStatement 102 = .ok (.iload_n 1, 1) := by decide +kernel
theorem dX3_readStatement_103 : decode cX3_readStatement 103 = .ok (.invokevirtual 227, 3) := by decide +kernel
theorem dX3_readStatement_106 : decode cX3_readStatement 106 = .ok (.aload_n 0, 1) := by decide +kernel
theorem dX3_readStatement_107 : decode cX3_readStatement 107 = .ok (.bipush 59, 2) := by decide +kernel
theorem dX3_readStatement_109 : decode cX3_readStatement 109 = .ok (.invokevirtual 119, 3) := by decide +kernel
theorem dX3_readStatement_112 : decode cX3_readStatement 112 = .ok (.aload_n 0, 1) := by decide +kernel
theorem dX3_readStatement_113 : decode cX3_readStatement 113 = .ok (.getfield 9, 3) := by decide +kernel
theorem dX3_readStatement_116 : decode cX3_readStatement 116 = .ok (.lload_n 3, 1) := by decide +kernel
theorem dX3_readStatement_117 : decode cX3_readStatement 117 = .ok (.invokevirtual 84, 3) := by decide +kernel
theorem dX3_readStatement_120 : decode cX3_readStatement 120 = .ok (.pop, 1) := by decide +kernel
theorem dX3_readStatement_121 : decode cX3_readStatement 121 = .ok (.goto 149, 3) := by decide +kernel
theorem dX3_readStatement_124 : decode cX3_readStatement 124 = .ok (.aload_n 0, 1) := by decide +kernel
theorem dX3_readStatement_125 : decode cX3_readStatement 125 = .ok (.invokevirtual 238, 3) := by decide +kernel
theorem dX3_readStatement_128 : decode cX3_readStatement 128 = .ok (.goto 142, 3) := by decide +kernel
theorem dX3_readStatement_131 : decode cX3_readStatement 131 = .ok (.aload_n 0, 1) := by decide +kernel
theorem dX3_readStatement_132 : decode cX3_readStatement 132 = .ok (.aload_n 0, 1) := by decide +kernel
theorem dX3_readStatement_133 : decode cX3_readStatement 133 = .ok (.getfield 15, 3) := by decide +kernel
theorem dX3_readStatement_136 : decode cX3_readStatement 136 = .ok (.iconst 1, 1) := by decide +kernel
theorem dX3_readStatement_137 : decode cX3_readStatement 137 = .ok (.iadd, 1) := by decide +kernel
theorem dX3_readStatement_138 : decode cX3_readStatement 138 = .ok (.invokevirtual 42, 3) := by decide +kernel
theorem dX3_readStatement_141 : decode cX3_readStatement 141 = .ok (.aload_n 0, 1) := by decide +kernel
theorem dX3_readStatement_142 : decode cX3_readStatement 142 = .ok (.invokevirtual 241, 3) := by decide +kernel
theorem dX3_readStatement_145 : decode cX3_readStatement 145 = .ok (.istore 5, 2) := by decide +kernel
theorem dX3_readStatement_147 : decode cX3_readStatement 147 = .ok (.aload_n 0, 1) := by decide +kernel
theorem dX3_readStatement_148 : decode cX3_readStatement 148 = .ok (.iconst 0, 1) := by decide +kernel
theorem dX3_readStatement_149 : decode cX3_readStatement 149 = .ok (.iload_n 1, 1) := by decide +kernel
theorem dX3_readStatement_150 : decode cX3_readStatement 150 = .ok (.invokevirtual 227, 3) := by decide +kernel
theorem dX3_readStatement_153 : decode cX3_readStatement 153 = .ok (.aload_n 0, 1) := by decide +kernel
theorem dX3_readStatement_154 : decode cX3_readStatement 154 = .ok (.bipush 59, 2) := by decide +kernel
theorem dX3_readStatement_156 : decode cX3_readStatement 156 = .ok (.invokevirtual 119, 3) := by decide +kernel
theorem dX3_readStatement_159 : decode cX3_readStatement 159 = .ok (.aload_n 0, 1) := by decide +kernel
theorem dX3_readStatement_160 : decode cX3_readStatement 160 = .ok (.bipush 13, 2) := by decide +kernel
theorem dX3_readStatement_162 : decode cX3_readStatement 162 = .ok (.iload 5, 2) := by decide +kernel
theorem dX3_readStatement_164 : decode cX3_readStatement 164 = .ok (.iconst 0, 1) := by decide +kernel
theorem dX3_readStatement_165 : decode cX3_readStatement 165 = .ok (.invokevirtual 144, 3) := by decide +kernel
theorem dX3_readStatement_168 : decode cX3_readStatement 168 = .ok (.pop, 1) := by decide +kernel
theorem dX3_readStatement_169 : decode cX3_readStatement 169 = .ok (.goto 101, 3) := by decide +kernel
theorem dX3_readStatement_172 : decode cX3_readStatement 172 = .ok (.aload_n 0, 1) := by decide +kernel
theorem dX3_readStatement_173 : decode cX3_readStatement 173 = .ok (.aload_n 0, 1) := by decide +kernel
theorem dX3_readStatement_174 : decode cX3_readStatement 174 = .ok (.getfield 15, 3) := by decide +kernel
theorem dX3_readStatement_177 : decode cX3_readStatement 177 = .ok (.iconst 1, 1) := by decide +kernel
theorem dX3_readStatement_178 : decode cX3_readStatement 178 = .ok (.iadd, 1) := by decide +kernel
theorem dX3_readStatement_179 : decode cX3_readStatement 179 = .ok (.invokevirtual 42, 3) := by decide +kernel
theorem dX3_readStatement_182 : decode cX3_readStatement 182 = .ok (.aload_n 0, 1) := by decide +kernel
theorem dX3_readStatement_183 : decode cX3_readStatement 183 = .ok (.iconst 0, 1) := by decide +kernel
theorem dX3_readStatement_184 : decode cX3_readStatement 184 = .ok (.iload_n 1, 1) := by decide +kernel
theorem dX3_readStatement_185 : decode cX3_readStatement 185 = .ok (.invokevirtual 227, 3) := by decide +kernel
theorem dX3_readStatement_188 : decode cX3_readStatement 188 = .ok (.aload_n 0, 1) := by decide +kernel
theorem dX3_readStatement_189 : decode cX3_readStatement 189 = .ok (.bipush 59, 2) := by decide +kernel
theorem dX3_readStatement_191 : decode cX3_readStatement 191 = .ok (.invokevirtual 119, 3) := by decide +kernel
theorem dX3_readStatement_194 : decode cX3_readStatement 194 = .ok (.aload_n 0, 1) := by decide +kernel
theorem dX3_readStatement_195 : decode cX3_readStatement 195 = .ok (.bipush 14, 2) := by decide +kernel
theorem dX3_readStatement_197 : decode cX3_readStatement 197 = .ok (.iconst 0, 1) := by decide +kernel
theorem dX3_readStatement_198 : decode cX3_readStatement 198 = .ok (.iconst 0, 1) := by decide +kernel
theorem dX3_readStatement_199 : decode cX3_readStatement 199 = .ok (.invokevirtual 144, 3) := by decide +kernel
theorem dX3_readStatement_202 : decode cX3_readStatement 202 = .ok (.pop, 1) := by decide +kernel
theorem dX3_readStatement_203 : decode cX3_readStatement 203 = .ok (.goto 67, 3) := by decide +kernel
theorem dX3_readStatement_206 : decode cX3_readStatement 206 = .ok (.aload_n 0, 1) := by decide +kernel
theorem dX3_readStatement_207 : decode cX3_readStatement 207 = .ok (.aload_n 0, 1) := by decide +kernel
theorem dX3_readStatement_208 : decode cX3_readStatement 208 = .ok (.getfield 15, 3) := by decide +kernel
theorem dX3_readStatement_211 : decode cX3_readStatement 211 = .ok (.iconst 1, 1) := by decide +kernel
theorem dX3_readStatement_212 : decode cX3_readStatement 212 = .ok (.iadd, 1) := by decide +kernel
theorem dX3_readStatement_213 : decode cX3_readStatement 213 = .ok (.invokevirtual 42, 3) := by decide +kernel
theorem dX3_readStatement_216 : decode cX3_readStatement 216 = .ok (.aload_n 0, 1) := by decide +kernel
theorem dX3_readStatement_217 : decode cX3_readStatement 217 = .ok (.bipush 15, 2) := by decide +kernel
theorem dX3_readStatement_219 : decode cX3_readStatement 219 = .ok (.aload_n 0, 1) := by decide +kernel
theorem dX3_readStatement_220 : decode cX3_readStatement 220 = .ok (.iconst 1, 1) := by decide +kernel
theorem dX3_readStatement_221 : decode cX3_readStatement 221 = .ok (.bipush 9, 2) := by decide +kernel
theorem dX3_readStatement_223 : decode cX3_readStatement 223 = .ok (.invokevirtual 123, 3) := by decide +kernel
theorem dX3_readStatement_226 : decode cX3_readStatement 226 = .ok (.iconst 0, 1) := by decide +kernel
theorem dX3_readStatement_227 : decode cX3_readStatement 227 = .ok (.invokevirtual 144, 3) := by decide +kernel
theorem dX3_readStatement_230 : decode cX3_readStatement 230 = .ok (.pop, 1) := by decide +kernel
theorem dX3_readStatement_231 : decode cX3_readStatement 231 = .ok (.aload_n 0, 1) := by decide +kernel
theorem dX3_readStatement_232 : decode cX3_readStatement 232 = .ok (.bipush 59, 2) := by decide +kernel
theorem dX3_readStatement_234 : decode cX3_readStatement 234 = .ok (.invokevirtual 119, 3) := by decide +kernel
theorem dX3_readStatement_237 : decode cX3_readStatement 237 = .ok (.goto 33, 3) := by decide +kernel
theorem dX3_readStatement_240 : decode cX3_readStatement 240 = .ok (.aload_n 0, 1) := by decide +kernel
theorem dX3_readStatement_241 : decode cX3_readStatement 241 = .ok (.iload_n 1, 1) := by decide +kernel
theorem dX3_readStatement_242 : decode cX3_readStatement 242 = .ok (.invokevirtual 244, 3) := by decide +kernel
theorem dX3_readStatement_245 : decode cX3_readStatement 245 = .ok (.goto 25, 3) := by decide +kernel
theorem dX3_readStatement_248 : decode cX3_readStatement 248 = .ok (.aload_n 0, 1) := by decide +kernel
theorem dX3_readStatement_249 : decode cX3_readStatement 249 = .ok (.iload_n 1, 1) := by decide +kernel
theorem dX3_readStatement_250 : decode cX3_readStatement 250 = .ok (.iload_n 2, 1) := by decide +kernel
theorem dX3_readStatement_251 : decode cX3_readStatement 251 = .ok (.invokevirtual 247, 3) := by decide +kernel
theorem dX3_readStatement_254 : decode cX3_readStatement 254 = .ok (.goto 16, 3) := by decide +kernel
theorem dX3_readStatement_257 : decode cX3_readStatement 257 = .ok (.aload_n 0, 1) := by decide +kernel
theorem dX3_readStatement_258 : decode cX3_readStatement 258 = .ok (.iload_n 1, 1) := by decide +kernel
theorem dX3_readStatement_259 : decode cX3_readStatement 259 = .ok (.invokevirtual 250, 3) := by decide +kernel
theorem dX3_readStatement_262 : decode cX3_readStatement 262 = .ok (.goto 8, 3) := by decide +kernel
theorem dX3_readStatement_265 : decode cX3_readStatement 265 = .ok (.aload_n 0, 1) := by decide +kernel
theorem dX3_readStatement_266 : decode cX3_readStatement 266 = .ok (.iconst 1, 1) := by decide +kernel
theorem dX3_readStatement_267 : decode cX3_readStatement 267 = .ok (.invokevirtual 54, 3) := by decide +kernel
theorem dX3_readStatement_270 : decode cX3_readStatement 270 = .ok (.return_, 1) := by decide +kernel
theorem dX3_readIf_0 : decode cX3_readIf 0 = .ok (.aload_n 0, 1) := by decide +kernel
theorem dX3_readIf_1 : decode cX3_readIf 1 = .ok (.aload_n 0, 1) := by decide +kernel
theorem dX3_readIf_2 : decode cX3_readIf 2 = .ok (.getfield 15, 3) := by decide +kernel
theorem dX3_readIf_5 : decode cX3_readIf 5 = .ok (.iconst 1, 1) := by decide +kernel
theorem dX3_readIf_6 : decode cX3_readIf 6 = .ok (.iadd, 1) := by decide +kernel
theorem dX3_readIf_7 : decode cX3_readIf 7 = .ok (.invokevirtual 42, 3) := by decide +kernel
theorem dX3_readIf_10 : decode cX3_readIf 10 = .ok (.aload_n 0, 1) := by decide +kernel
theorem dX3_readIf_11 : decode cX3_readIf 11 = .ok (.iconst 0, 1) := by decide +kernel
theorem dX3_readIf_12 : decode cX3_readIf 12 = .ok (.iload_n 1, 1) := by decide +kernel
theorem dX3_readIf_13 : decode cX3_readIf 13 = .ok (.invokevirtual 227, 3) := by decide +kernel
theorem dX3_readIf_16 : decode cX3_readIf 16 = .ok (.aload_n 0, 1) := by decide +kernel
theorem dX3_readIf_17 : decode cX3_readIf 17 = .ok (.bipush 17, 2) := by decide +kernel
theorem dX3_readIf_19 : decode cX3_readIf 19 = .ok (.iconst 0, 1) := by decide +kernel
theorem dX3_readIf_20 : decode cX3_readIf 20 = .ok (.iconst 0, 1) := by decide +kernel
theorem dX3_readIf_21 : decode cX3_readIf 21 = .ok (.invokevirtual 144, 3) := by decide +kernel
theorem dX3_readIf_24 : decode cX3_readIf 24 = .ok (.istore_n 2, 1) := by decide +kernel
theorem dX3_readIf_25 : decode cX3_readIf 25 = .ok (.aload_n 0, 1) := by decide +kernel
theorem dX3_readIf_26 : decode cX3_readIf 26 = .ok (.iload_n 1, 1) := by decide +kernel
theorem dX3_readIf_27 : decode cX3_readIf 27 = .ok (.invokevirtual 141, 3) := by decide +kernel
theorem dX3_readIf_30 : decode cX3_readIf 30 = .ok (.aload_n 0, 1) := by decide +kernel
theorem dX3_readIf_31 : decode cX3_readIf 31 = .ok (.getfield 19, 3) := by decide +kernel
theorem dX3_readIf_34 : decode cX3_readIf 34 = .ok (.sipush 147, 3) := by decide +kernel
theorem dX3_readIf_37 : decode cX3_readIf 37 = .ok (.if_icmp .ne 46, 3) := by decide +kernel
theorem dX3_readIf_40 : decode cX3_readIf 40 = .ok (.aload_n 0, 1) := by decide +kernel
theorem dX3_readIf_41 : decode cX3_readIf 41 = .ok (.aload_n 0, 1) := by decide +kernel
theorem dX3_readIf_42 : decode cX3_readIf 42 = .ok (.getfield 15, 3) := by decide +kernel
theorem dX3_readIf_45 : decode cX3_readIf 45 = .ok (.iconst 1, 1) := by decide +kernel
theorem dX3_readIf_46 : decode cX3_readIf 46 = .ok (.iadd, 1) := by decide +kernel
theorem dX3_readIf_47 : decode cX3_readIf 47 = .ok (.invokevirtual 42, 3) := by decide +kernel
theorem dX3_readIf_50 : decode cX3_readIf 50 = .ok (.aload_n 0, 1) := by decide +kernel
theorem dX3_readIf_51 : decode cX3_readIf 51 = .ok (.bipush 16, 2) := by decide +kernel
theorem dX3_readIf_53 : decode cX3_readIf 53 = .ok (.iconst 0, 1) := by decide +kernel
theorem dX3_readIf_54 : decode cX3_readIf 54 = .ok (.iconst 0, 1) := by decide +kernel
theorem dX3_readIf_55 : decode cX3_readIf 55 = .ok (.invokevirtual 144, 3) := by decide +kernel
theorem dX3_readIf_58 : decode cX3_readIf 58 = .ok (.istore_n 3, 1) := by decide +kernel
theorem dX3_readIf_59 : decode cX3_readIf 59 = .ok (.aload_n 0, 1) := by decide +kernel
theorem dX3_readIf_60 : decode cX3_readIf 60 = .ok (.getfield 9, 3) := by decide +kernel
theorem dX3_readIf_63 : decode cX3_readIf 63 = .ok (.iload_n 2, 1) := by decide +kernel
theorem dX3_readIf_64 : decode cX3_readIf 64 = .ok (.invokevirtual 253, 3) := by decide +kernel
theorem dX3_readIf_67 : decode cX3_readIf 67 = .ok (.aload_n 0, 1) := by decide +kernel
theorem dX3_readIf_68 : decode cX3_readIf 68 = .ok (.iload_n 1, 1) := by decide +kernel
theorem dX3_readIf_69 : decode cX3_readIf 69 = .ok (.invokevirtual 141, 3) := by decide +kernel
theorem dX3_readIf_72 : decode cX3_readIf 72 = .ok (.aload_n 0, 1) := by decide +kernel
theorem dX3_readIf_73 : decode cX3_readIf 73 = .ok (.getfield 9, 3) := by decide +kernel
theorem dX3_readIf_76 : decode cX3_readIf 76 = .ok (.iload_n 3, 1) := by decide +kernel
theorem dX3_readIf_77 : decode cX3_readIf 77 = .ok (.invokevirtual 253, 3) := by decide +kernel
theorem dX3_readIf_80 : decode cX3_readIf 80 = .ok (.goto 11, 3) := by decide +kernel
theorem dX3_readIf_83 : decode cX3_readIf 83 = .ok (.aload_n 0, 1) := by decide +kernel
theorem dX3_readIf_84 : decode cX3_readIf 84 = .ok (.getfield 9, 3) := by decide +kernel
theorem dX3_readIf_87 : decode cX3_readIf 87 = .ok (.iload_n 2, 1) := by decide +kernel
theorem dX3_readIf_88 : decode cX3_readIf 88 = .ok (.invokevirtual 253, 3) := by decide +kernel
theorem dX3_readIf_91 : decode cX3_readIf 91 = .ok (.return_, 1) := by decide +kernel
theorem dX3_readWhile_0 : decode cX3_readWhile 0 = .ok (.aload_n 0, 1) := by decide +kernel
theorem dX3_readWhile_1 : decode cX3_readWhile 1 = .ok (.aload_n 0, 1) := by decide +kernel
theorem dX3_readWhile_2 : decode cX3_readWhile 2 = .ok (.getfield 15, 3) := by decide +kernel
theorem dX3_readWhile_5 : decode cX3_readWhile 5 = .ok (.iconst 1, 1) := by decide +kernel
theorem dX3_readWhile_6 : decode cX3_readWhile 6 = .ok (.iadd, 1) := by decide +kernel
theorem dX3_readWhile_7 : decode cX3_readWhile 7 = .ok (.invokevirtual 42, 3) := by decide +kernel
theorem dX3_readWhile_10 : decode cX3_readWhile 10 = .ok (.aload_n 0, 1) := by decide +kernel
theorem dX3_readWhile_11 : decode cX3_readWhile 11 = .ok (.iconst 0, 1) := by decide +kernel
theorem dX3_readWhile_12 : decode cX3_readWhile 12 = .ok (.iload_n 1, 1) := by decide +kernel
theorem dX3_readWhile_13 : decode cX3_readWhile 13 = .ok (.invokevirtual 227, 3) := by decide +kernel
theorem dX3_readWhile_16 : decode cX3_readWhile 16 = .ok (.aload_n 0, 1) := by decide +kernel
theorem dX3_readWhile_17 : decode cX3_readWhile 17 = .ok (.bipush 17, 2) := by decide +kernel
theorem dX3_readWhile_19 : decode cX3_readWhile 19 = .ok (.iconst 0, 1) := by decide +kernel
theorem dX3_readWhile_20 : decode cX3_readWhile 20 = .ok (.iconst 0, 1) := by decide +kernel
theorem dX3_readWhile_21 : decode cX3_readWhile 21 = .ok (.invokevirtual 144, 3) := by decide +kernel
theorem dX3_readWhile_24 : decode cX3_readWhile 24 = .ok (.istore_n 3, 1) := by decide +kernel
theorem dX3_readWhile_25 : decode cX3_readWhile 25 = .ok (.aload_n 0, 1) := by decide +kernel
theorem dX3_readWhile_26 : decode cX3_readWhile 26 = .ok (.iload_n 1, 1) := by decide +kernel
theorem dX3_readWhile_27 : decode cX3_readWhile 27 = .ok (.invokevirtual 141, 3) := by decide +kernel
theorem dX3_readWhile_30 : decode cX3_readWhile 30 = .ok (.aload_n 0, 1) := by decide +kernel
theorem dX3_readWhile_31 : decode cX3_readWhile 31 = .ok (.bipush 16, 2) := by decide +kernel
theorem dX3_readWhile_33 : decode cX3_readWhile 33 = .ok (.iload_n 2, 1) := by decide +kernel
theorem dX3_readWhile_34 : decode cX3_readWhile 34 = .ok (.iconst 0, 1) := by decide +kernel
theorem dX3_readWhile_35 : decode cX3_readWhile 35 = .ok (.invokevirtual 144, 3) := by decide +kernel
theorem dX3_readWhile_38 : decode cX3_readWhile 38 = .ok (.pop, 1) := by decide +kernel
theorem dX3_readWhile_39 : decode cX3_readWhile 39 = .ok (.aload_n 0, 1) := by decide +kernel
theorem dX3_readWhile_40 : decode cX3_readWhile 40 = .ok (.getfield 9, 3) := by decide +kernel
theorem dX3_readWhile_43 : decode cX3_readWhile 43 = .ok (.iload_n 3, 1) := by decide +kernel
theorem dX3_readWhile_44 : decode cX3_readWhile 44 = .ok (.invokevirtual 253, 3) := by decide +kernel
theorem dX3_readWhile_47 : decode cX3_readWhile 47 = .ok (.return_, 1) := by decide +kernel
theorem dX3_readTry_0 : decode cX3_readTry 0 = .ok (.aload_n 0, 1) := by decide +kernel
theorem dX3_readTry_1 : decode cX3_readTry 1 = .ok (.aload_n 0, 1) := by decide +kernel
theorem dX3_readTry_2 : decode cX3_readTry 2 = .ok (.getfield 15, 3) := by decide +kernel
theorem dX3_readTry_5 : decode cX3_readTry 5 = .ok (.iconst 1, 1) := by decide +kernel
theorem dX3_readTry_6 : decode cX3_readTry 6 = .ok (.iadd, 1) := by decide +kernel
theorem dX3_readTry_7 : decode cX3_readTry 7 = .ok (.invokevirtual 42, 3) := by decide +kernel
theorem dX3_readTry_10 : decode cX3_readTry 10 = .ok (.aload_n 0, 1) := by decide +kernel
theorem dX3_readTry_11 : decode cX3_readTry 11 = .ok (.bipush 18, 2) := by decide +kernel
theorem dX3_readTry_13 : decode cX3_readTry 13 = .ok (.iconst 0, 1) := by decide +kernel
theorem dX3_readTry_14 : decode cX3_readTry 14 = .ok (.iconst 0, 1) := by decide +kernel
theorem dX3_readTry_15 : decode cX3_readTry 15 = .ok (.invokevirtual 144, 3) := by decide +kernel
theorem dX3_readTry_18 : decode cX3_readTry 18 = .ok (.istore_n 2, 1) := by decide +kernel
theorem dX3_readTry_19 : decode cX3_readTry 19 = .ok (.aload_n 0, 1) := by decide +kernel
theorem dX3_readTry_20 : decode cX3_readTry 20 = .ok (.iload_n 1, 1) := by decide +kernel
theorem dX3_readTry_21 : decode cX3_readTry 21 = .ok (.invokevirtual 141, 3) := by decide +kernel
theorem dX3_readTry_24 : decode cX3_readTry 24 = .ok (.aload_n 0, 1) := by decide +kernel
theorem dX3_readTry_25 : decode cX3_readTry 25 = .ok (.bipush 19, 2) := by decide +kernel
theorem dX3_readTry_27 : decode cX3_readTry 27 = .ok (.iconst 0, 1) := by decide +kernel
theorem dX3_readTry_28 : decode cX3_readTry 28 = .ok (.iconst 0, 1) := by decide +kernel
theorem dX3_readTry_29 : decode cX3_readTry 29 = .ok (.invokevirtual 144, 3) := by decide +kernel
theorem dX3_readTry_32 : decode cX3_readTry 32 = .ok (.pop, 1) := by decide +kernel
theorem dX3_readTry_33 : decode cX3_readTry 33 = .ok (.aload_n 0, 1) := by decide +kernel
theorem dX3_readTry_34 : decode cX3_readTry 34 = .ok (.bipush 16, 2) := by decide +kernel
theorem dX3_readTry_36 : decode cX3_readTry 36 = .ok (.iconst 0, 1) := by decide +kernel
theorem dX3_readTry_37 : decode cX3_readTry 37 = .ok (.iconst 0, 1) := by decide +kernel
theorem dX3_readTry_38 : decode cX3_readTry 38 = .ok (.invokevirtual 144, 3) := by decide +kernel
theorem dX3_readTry_41 : decode cX3_readTry 41 = .ok (.istore_n 3, 1) := by decide +kernel
theorem dX3_readTry_42 : decode cX3_readTry 42 = .ok (.aload_n 0, 1) := by decide +kernel
theorem dX3_readTry_43 : decode cX3_readTry 43 = .ok (.sipush 136, 3) := by decide +kernel
theorem dX3_readTry_46 : decode cX3_readTry 46 = .ok (.invokevirtual 119, 3) := by decide +kernel
theorem dX3_readTry_49 : decode cX3_readTry 49 = .ok (.aload_n 0, 1) := by decide +kernel
theorem dX3_readTry_50 : decode cX3_readTry 50 = .ok (.getfield 9, 3) := by decide +kernel
theorem dX3_readTry_53 : decode cX3_readTry 53 = .ok (.iload_n 2, 1) := by decide +kernel
theorem dX3_readTry_54 : decode cX3_readTry 54 = .ok (.invokevirtual 253, 3) := by decide +kernel
theorem dX3_readTry_57 : decode cX3_readTry 57 = .ok (.aload_n 0, 1) := by decide +kernel
theorem dX3_readTry_58 : decode cX3_readTry 58 = .ok (.iload_n 1, 1) := by decide +kernel
theorem dX3_readTry_59 : decode cX3_readTry 59 = .ok (.invokevirtual 141, 3) := by decide +kernel
theorem dX3_readTry_62 : decode cX3_readTry 62 = .ok (.aload_n 0, 1) := by decide +kernel
theorem dX3_readTry_63 : decode cX3_readTry 63 = .ok (.getfield 9, 3) := by decide +kernel
theorem dX3_readTry_66 : decode cX3_readTry 66 = .ok (.iload_n 3, 1) := by decide +kernel
theorem dX3_readTry_67 : decode cX3_readTry 67 = .ok (.invokevirtual 253, 3) := by decide +kernel
theorem dX3_readTry_70 : decode cX3_readTry 70 = .ok (.return_, 1) := by decide +kernel
theorem dX3_readTouch_0 : decode cX3_readTouch 0 = .ok (.aload_n 0, 1) := by decide +kernel
theorem dX3_readTouch_1 : decode cX3_readTouch 1 = .ok (.aload_n 0, 1) := by decide +kernel
theorem dX3_readTouch_2 : decode cX3_readTouch 2 = .ok (.getfield 15, 3) := by decide +kernel
theorem dX3_readTouch_5 : decode cX3_readTouch 5 = .ok (.iconst 1, 1) := by decide +kernel
theorem dX3_readTouch_6 : decode cX3_readTouch 6 = .ok (.iadd, 1) := by decide +kernel
theorem dX3_readTouch_7 : decode cX3_readTouch 7 = .ok (.invokevirtual 42, 3) := by decide +kernel
theorem dX3_readTouch_10 : decode cX3_readTouch 10 = .ok (.aload_n 0, 1) := by decide +kernel
theorem dX3_readTouch_11 : decode cX3_readTouch 11 = .ok (.getfield 15, 3) := by decide +kernel
theorem dX3_readTouch_14 : decode cX3_readTouch 14 = .ok (.istore_n 1, 1) := by decide +kernel
theorem dX3_readTouch_15 : decode cX3_readTouch 15 = .ok (.aload_n 0, 1) := by decide +kernel
theorem dX3_readTouch_16 : decode cX3_readTouch 16 = .ok (.iconst 2, 1) := by decide +kernel
theorem dX3_readTouch_17 : decode cX3_readTouch 17 = .ok (.invokevirtual 119, 3) := by decide +kernel
theorem dX3_readTouch_20 : decode cX3_readTouch 20 = .ok (.aload_n 0, 1) := by decide +kernel
theorem dX3_readTouch_21 : decode cX3_readTouch 21 = .ok (.bipush 59, 2) := by decide +kernel
theorem dX3_readTouch_23 : decode cX3_readTouch 23 = .ok (.invokevirtual 119, 3) := by decide +kernel
theorem dX3_readTouch_26 : decode cX3_readTouch 26 = .ok (.aload_n 0, 1) := by decide +kernel
theorem dX3_readTouch_27 : decode cX3_readTouch 27 = .ok (.bipush 23, 2) := by decide +kernel
theorem dX3_readTouch_29 : decode cX3_readTouch 29 = .ok (.iload_n 1, 1) := by decide +kernel
theorem dX3_readTouch_30 : decode cX3_readTouch 30 = .ok (.aload_n 0, 1) := by decide +kernel
theorem dX3_readTouch_31 : decode cX3_readTouch 31 = .ok (.getfield 22, 3) := by decide +kernel
theorem dX3_readTouch_34 : decode cX3_readTouch 34 = .ok (.invokevirtual 144, 3) := by decide +kernel
theorem dX3_readTouch_37 : decode cX3_readTouch 37 = .ok (.pop, 1) := by decide +kernel
theorem dX3_readTouch_38 : decode cX3_readTouch 38 = .ok (.return_, 1) := by decide +kernel
theorem dX3_readPlace_0 : decode cX3_readPlace 0 = .ok (.aload_n 0, 1) := by decide +kernel
theorem dX3_readPlace_1 : decode cX3_readPlace 1 = .ok (.getfield 15, 3) := by decide +kernel
theorem dX3_readPlace_4 : decode cX3_readPlace 4 = .ok (.istore_n 2, 1) := by decide +kernel
theorem dX3_readPlace_5 : decode cX3_readPlace 5 = .ok (.aload_n 0, 1) := by decide +kernel
theorem dX3_readPlace_6 : decode cX3_readPlace 6 = .ok (.getfield 28, 3) := by decide +kernel
theorem dX3_readPlace_9 : decode cX3_readPlace 9 = .ok (.iload_n 2, 1) := by decide +kernel
theorem dX3_readPlace_10 : decode cX3_readPlace 10 = .ok (.iconst 1, 1) := by decide +kernel
theorem dX3_readPlace_11 : decode cX3_readPlace 11 = .ok (.iadd, 1) := by decide +kernel
theorem dX3_readPlace_12 : decode cX3_readPlace 12 = .ok (.invokevirtual 256, 3) := by decide +kernel
theorem dX3_readPlace_15 : decode cX3_readPlace 15 = .ok (.bipush 46, 2) := by decide +kernel
theorem dX3_readPlace_17 : decode cX3_readPlace 17 = .ok (.if_icmp .ne 35, 3) := by decide +kernel
theorem dX3_readPlace_20 : decode cX3_readPlace 20 = .ok (.aload_n 0, 1) := by decide +kernel
theorem dX3_readPlace_21 : decode cX3_readPlace 21 = .ok (.iload_n 2, 1) := by decide +kernel
theorem dX3_readPlace_22 : decode cX3_readPlace 22 = .ok (.iconst 2, 1) := by decide +kernel
theorem dX3_readPlace_23 : decode cX3_readPlace 23 = .ok (.iadd, 1) := by decide +kernel
theorem dX3_readPlace_24 : decode cX3_readPlace 24 = .ok (.invokevirtual 42, 3) := by decide +kernel
theorem dX3_readPlace_27 : decode cX3_readPlace 27 = .ok (.aload_n 0, 1) := by decide +kernel
theorem dX3_readPlace_28 : decode cX3_readPlace 28 = .ok (.iconst 2, 1) := by decide +kernel
theorem dX3_readPlace_29 : decode cX3_readPlace 29 = .ok (.invokevirtual 119, 3) := by decide +kernel
theorem dX3_readPlace_32 : decode cX3_readPlace 32 = .ok (.iload_n 1, 1) := by decide +kernel
theorem dX3_readPlace_33 : decode cX3_readPlace 33 = .ok (.ifCond .eq 8, 3) := by decide +kernel
theorem dX3_readPlace_36 : decode cX3_readPlace 36 = .ok (.bipush 22, 2) := by decide +kernel
theorem dX3_readPlace_38 : decode cX3_readPlace 38 = .ok (.goto 5, 3) := by decide +kernel
theorem dX3_readPlace_41 : decode cX3_readPlace 41 = .ok (.bipush 21, 2) := by decide +kernel
theorem dX3_readPlace_43 : decode cX3_readPlace 43 = .ok (.iload_n 2, 1) := by decide +kernel
theorem dX3_readPlace_44 : decode cX3_readPlace 44 = .ok (.aload_n 0, 1) := by decide +kernel
theorem dX3_readPlace_45 : decode cX3_readPlace 45 = .ok (.getfield 22, 3) := by decide +kernel
theorem dX3_readPlace_48 : decode cX3_readPlace 48 = .ok (.invokestatic 80, 3) := by decide +kernel
theorem dX3_readPlace_51 : decode cX3_readPlace 51 = .ok (.lreturn, 1) := by decide +kernel
theorem dX3_readPlace_52 : decode cX3_readPlace 52 = .ok (.aload_n 0, 1) := by decide +kernel
theorem dX3_readPlace_53 : decode cX3_readPlace 53 = .ok (.getfield 9, 3) := by decide +kernel
theorem dX3_readPlace_56 : decode cX3_readPlace 56 = .ok (.aload_n 0, 1) := by decide +kernel
theorem dX3_readPlace_57 : decode cX3_readPlace 57 = .ok (.getfield 22, 3) := by decide +kernel
theorem dX3_readPlace_60 : decode cX3_readPlace 60 = .ok (.aload_n 0, 1) := by decide +kernel
theorem dX3_readPlace_61 : decode cX3_readPlace 61 = .ok (.getfield 28, 3) := by decide +kernel
theorem dX3_readPlace_64 : decode cX3_readPlace 64 = .ok (.iload_n 2, 1) := by decide +kernel
theorem dX3_readPlace_65 : decode cX3_readPlace 65 = .ok (.invokevirtual 88, 3) := by decide +kernel
theorem dX3_readPlace_68 : decode cX3_readPlace 68 = .ok (.invokevirtual 260, 3) := by decide +kernel
theorem dX3_readPlace_71 : decode cX3_readPlace 71 = .ok (.istore_n 3, 1) := by decide +kernel
theorem dX3_readPlace_72 : decode cX3_readPlace 72 = .ok (.iload_n 3, 1) := by decide +kernel
theorem dX3_readPlace_73 : decode cX3_readPlace 73 = .ok (.ifCond .ge 8, 3) := by decide +kernel
theorem dX3_readPlace_76 : decode cX3_readPlace 76 = .ok (.aload_n 0, 1) := by decide +kernel
theorem dX3_readPlace_77 : decode cX3_readPlace 77 = .ok (.iconst 2, 1) := by decide +kernel
theorem dX3_readPlace_78 : decode cX3_readPlace 78 = .ok (.invokevirtual 54, 3) := by decide +kernel
theorem dX3_readPlace_81 : decode cX3_readPlace 81 = .ok (.iload_n 1, 1) := by decide +kernel
theorem dX3_readPlace_82 : decode cX3_readPlace 82 = .ok (.ifCond .eq 20, 3) := by decide +kernel
theorem dX3_readPlace_85 : decode cX3_readPlace 85 = .ok (.aload_n 0, 1) := by decide +kernel
theorem dX3_readPlace_86 : decode cX3_readPlace 86 = .ok (.getfield 9, 3) := by decide +kernel
theorem dX3_readPlace_89 : decode cX3_readPlace 89 = .ok (.iload_n 3, 1) := by decide +kernel
theorem dX3_readPlace_90 : decode cX3_readPlace 90 = .ok (.invokevirtual 264, 3) := by decide +kernel
theorem dX3_readPlace_93 : decode cX3_readPlace 93 = .ok (.ifCond .ne 9, 3) := by decide +kernel
theorem dX3_readPlace_96 : decode cX3_readPlace 96 = .ok (.aload_n 0, 1) := by decide +kernel
theorem dX3_readPlace_97 : decode cX3_readPlace 97 = .ok (.bipush 6, 2) := by decide +kernel
theorem dX3_readPlace_99 : decode cX3_readPlace 99 = .ok (.invokevirtual 54, 3) := by decide +kernel
theorem dX3_readPlace_102 : decode cX3_readPlace 102 = .ok (.aload_n 0, 1) := by decide +kernel
theorem dX3_readPlace_103 : decode cX3_readPlace 103 = .ok (.getfield 9, 3) := by decide +kernel
theorem dX3_readPlace_106 : decode cX3_readPlace 106 = .ok (.aload_n 0, 1) := by decide +kernel
theorem dX3_readPlace_107 : decode cX3_readPlace 107 = .ok (.getfield 22, 3) := by decide +kernel
theorem dX3_readPlace_110 : decode cX3_readPlace 110 = .ok (.iload_n 3, 1) := by decide +kernel
theorem dX3_readPlace_111 : decode cX3_readPlace 111 = .ok (.bipush 8, 2) := by decide +kernel
theorem dX3_readPlace_113 : decode cX3_readPlace 113 = .ok (.idiv, 1) := by decide +kernel
theorem dX3_readPlace_114 : decode cX3_readPlace 114 = .ok (.invokevirtual 267, 3) := by decide +kernel
theorem dX3_readPlace_117 : decode cX3_readPlace 117 = .ok (.aload_n 0, 1) := by decide +kernel
theorem dX3_readPlace_118 : decode cX3_readPlace 118 = .ok (.iload_n 2, 1) := by decide +kernel
theorem dX3_readPlace_119 : decode cX3_readPlace 119 = .ok (.iconst 1, 1) := by decide +kernel
theorem dX3_readPlace_120 : decode cX3_readPlace 120 = .ok (.iadd, 1) := by decide +kernel
theorem dX3_readPlace_121 : decode cX3_readPlace 121 = .ok (.invokevirtual 42, 3) := by decide +kernel
theorem dX3_readPlace_124 : decode cX3_readPlace 124 = .ok (.aload_n 0, 1) := by decide +kernel
theorem dX3_readPlace_125 : decode cX3_readPlace 125 = .ok (.getfield 9, 3) := by decide +kernel
theorem dX3_readPlace_128 : decode cX3_readPlace 128 = .ok (.iload_n 3, 1) := by decide +kernel
theorem dX3_readPlace_129 : decode cX3_readPlace 129 = .ok (.iload_n 1, 1) := by decide +kernel
theorem dX3_readPlace_130 : decode cX3_readPlace 130 = .ok (.invokevirtual 270, 3) := by decide +kernel
theorem dX3_readPlace_133 : decode cX3_readPlace 133 = .ok (.lreturn, 1) := by decide +kernel
theorem dX3_readExpression_0 : decode cX3_readExpression 0 = .ok (.iload_n 1, 1) := by decide +kernel
theorem dX3_readExpression_1 : decode cX3_readExpression 1 = .ok (.iconst 2, 1) := by decide +kernel
theorem dX3_readExpression_2 : decode cX3_readExpression 2 = .ok (.if_icmp .le 9, 3) := by decide +kernel
theorem dX3_readExpression_5 : decode cX3_readExpression 5 = .ok (.aload_n 0, 1) := by decide +kernel
theorem dX3_readExpression_6 : decode cX3_readExpression 6 = .ok (.iload_n 2, 1) := by decide +kernel
theorem dX3_readExpression_7 : decode cX3_readExpression 7 = .ok (.invokevirtual 274, 3) := by decide +kernel
theorem dX3_readExpression_10 : decode cX3_readExpression 10 = .ok (.return_, 1) := by decide +kernel
theorem dX3_readExpression_11 : decode cX3_readExpression 11 = .ok (.aload_n 0, 1) := by decide +kernel
theorem dX3_readExpression_12 : decode cX3_readExpression 12 = .ok (.iload_n 1, 1) := by decide +kernel
theorem dX3_readExpression_13 : decode cX3_readExpression 13 = .ok (.iconst 1, 1) := by decide +kernel
theorem dX3_readExpression_14 : decode cX3_readExpression 14 = .ok (.iadd, 1) := by decide +kernel
theorem dX3_readExpression_15 : decode cX3_readExpression 15 = .ok (.iload_n 2, 1) := by decide +kernel
theorem dX3_readExpression_16 : decode cX3_readExpression 16 = .ok (.invokevirtual 227, 3) := by decide +kernel
theorem dX3_readExpression_19 : decode cX3_readExpression 19 = .ok (.iload_n 1, 1) := by decide +kernel
theorem dX3_readExpression_20 : decode cX3_readExpression 20 = .ok (.ifCond .ne 7, 3) := by decide +kernel
theorem dX3_readExpression_23 : decode cX3_readExpression 23 = .ok (.iconst 1, 1) := by decide +kernel
theorem dX3_readExpression_24 : decode cX3_readExpression 24 = .ok (.goto 10, 3) := by decide +kernel
theorem dX3_readExpression_27 : decode cX3_readExpression 27 = .ok (.aload_n 0, 1) := by decide +kernel
theorem dX3_readExpression_28 : decode cX3_readExpression 28 = .ok (.getfield 28, 3) := by decide +kernel
theorem dX3_readExpression_31 : decode cX3_readExpression 31 = .ok (.getfield 34, 3) := by decide +kernel
theorem dX3_readExpression_34 : decode cX3_readExpression 34 = .ok (.istore_n 3, 1) := by decide +kernel
theorem dX3_readExpression_35 : decode cX3_readExpression 35 = .ok (.iconst 0, 1) := by decide +kernel
theorem dX3_readExpression_36 : decode cX3_readExpression 36 = .ok (.istore 4, 2) := by decide +kernel
theorem dX3_readExpression_38 : decode cX3_readExpression 38 = .ok (.iload 4, 2) := by decide +kernel
theorem dX3_readExpression_40 : decode cX3_readExpression 40 = .ok (.iload_n 3, 1) := by decide +kernel
theorem dX3_readExpression_41 : decode cX3_readExpression 41 = .ok (.if_icmp .ge 53, 3) := by decide +kernel
theorem dX3_readExpression_44 : decode cX3_readExpression 44 = .ok (.iload_n 1, 1) := by decide +kernel
theorem dX3_readExpression_45 : decode cX3_readExpression 45 = .ok (.aload_n 0, 1) := by decide +kernel
theorem dX3_readExpression_46 : decode cX3_readExpression 46 = .ok (.getfield 19, 3) := by decide +kernel
theorem dX3_readExpression_49 : decode cX3_readExpression 49 = .ok (.invokestatic 277, 3) := by decide +kernel
theorem dX3_readExpression_52 : decode cX3_readExpression 52 = .ok (.ifCond .eq 42, 3) := by decide +kernel
theorem dX3_readExpression_55 : decode cX3_readExpression 55 = .ok (.aload_n 0, 1) := by decide +kernel
theorem dX3_readExpression_56 : decode cX3_readExpression 56 = .ok (.getfield 19, 3) := by decide +kernel
theorem dX3_readExpression_59 : decode cX3_readExpression 59 = .ok (.istore 5, 2) := by decide +kernel
theorem dX3_readExpression_61 : decode cX3_readExpression 61 = .ok (.aload_n 0, 1) := by decide +kernel
theorem dX3_readExpression_62 : decode cX3_readExpression 62 = .ok (.aload_n 0, 1) := by decide +kernel
theorem dX3_readExpression_63 : decode cX3_readExpression 63 = .ok (.getfield 15, 3) := by decide +kernel
theorem dX3_readExpression_66 : decode cX3_readExpression 66 = .ok (.iconst 1, 1) := by decide +kernel
theorem dX3_readExpression_67 : decode cX3_readExpression 67 = .ok (.iadd, 1) := by decide +kernel
theorem dX3_readExpression_68 : decode cX3_readExpression 68 = .ok (.invokevirtual 42, 3) := by decide +kernel
theorem dX3_readExpression_71 : decode cX3_readExpression 71 = .ok (.aload_n 0, 1) := by decide +kernel
theorem dX3_readExpression_72 : decode cX3_readExpression 72 = .ok (.iload_n 1, 1) := by decide +kernel
theorem dX3_readExpression_73 : decode cX3_readExpression 73 = .ok (.iconst 1, 1) := by decide +kernel
theorem dX3_readExpression_74 : decode cX3_readExpression 74 = .ok (.iadd, 1) := by decide +kernel
theorem dX3_readExpression_75 : decode cX3_readExpression 75 = .ok (.iload_n 2, 1) := by decide +kernel
theorem dX3_readExpression_76 : decode cX3_readExpression 76 = .ok (.invokevirtual 227, 3) := by decide +kernel
theorem dX3_readExpression_79 : decode cX3_readExpression 79 = .ok (.aload_n 0, 1) := by decide +kernel
theorem dX3_readExpression_80 : decode cX3_readExpression 80 = .ok (.iload 5, 2) := by decide +kernel
theorem dX3_readExpression_82 : decode cX3_readExpression 82 = .ok (.iconst 0, 1) := by decide +kernel
theorem dX3_readExpression_83 : decode cX3_readExpression 83 = .ok (.iconst 0, 1) := by decide +kernel
theorem dX3_readExpression_84 : decode cX3_readExpression 84 = .ok (.invokevirtual 144, 3) := by decide +kernel
theorem dX3_readExpression_87 : decode cX3_readExpression 87 = .ok (.pop, 1) := by decide +kernel
theorem dX3_readExpression_88 : decode cX3_readExpression 88 = .ok (.iinc 4 1, 3) := by decide +kernel
theorem dX3_readExpression_91 : decode cX3_readExpression 91 = .ok (.goto (-53), 3) := by decide +kernel
theorem dX3_readExpression_94 : decode cX3_readExpression 94 = .ok (.return_, 1) := by decide +kernel
theorem dX3_isJoint_0 : decode cX3_isJoint 0 = .ok (.iload_n 0, 1) := by decide +kernel
theorem dX3_isJoint_1 : decode cX3_isJoint 1 = .ok (.lookupswitch 63 #[(0, 27), (1, 45)], 27) := by decide +kernel
theorem dX3_isJoint_28 : decode cX3_isJoint 28 = .ok (.iload_n 1, 1) := by decide +kernel
theorem dX3_isJoint_29 : decode cX3_isJoint 29 = .ok (.bipush 60, 2) := by decide +kernel
theorem dX3_isJoint_31 : decode cX3_isJoint 31 = .ok (.if_icmp .eq 9, 3) := by decide +kernel
theorem dX3_isJoint_34 : decode cX3_isJoint 34 = .ok (.iload_n 1, 1) := by decide +kernel
theorem dX3_isJoint_35 : decode cX3_isJoint 35 = .ok (.bipush 61, 2) := by decide +kernel
theorem dX3_isJoint_37 : decode cX3_isJoint 37 = .ok (.if_icmp .ne 7, 3) := by decide +kernel
theorem dX3_isJoint_40 : decode cX3_isJoint 40 = .ok (.iconst 1, 1) := by decide +kernel
theorem dX3_isJoint_41 : decode cX3_isJoint 41 = .ok (.goto 4, 3) := by decide +kernel
theorem dX3_isJoint_44 : decode cX3_isJoint 44 = .ok (.iconst 0, 1) := by decide +kernel
theorem dX3_isJoint_45 : decode cX3_isJoint 45 = .ok (.ireturn, 1) := by decide +kernel
theorem dX3_isJoint_46 : decode cX3_isJoint 46 = .ok (.iload_n 1, 1) := by decide +kernel
theorem dX3_isJoint_47 : decode cX3_isJoint 47 = .ok (.bipush 43, 2) := by decide +kernel
theorem dX3_isJoint_49 : decode cX3_isJoint 49 = .ok (.if_icmp .eq 9, 3) := by decide +kernel
theorem dX3_isJoint_52 : decode cX3_isJoint 52 = .ok (.iload_n 1, 1) := by decide +kernel
theorem dX3_isJoint_53 : decode cX3_isJoint 53 = .ok (.bipush 45, 2) := by decide +kernel
theorem dX3_isJoint_55 : decode cX3_isJoint 55 = .ok (.if_icmp .ne 7, 3) := by decide +kernel
theorem dX3_isJoint_58 : decode cX3_isJoint 58 = .ok (.iconst 1, 1) := by decide +kernel
theorem dX3_isJoint_59 : decode cX3_isJoint 59 = .ok (.goto 4, 3) := by decide +kernel
theorem dX3_isJoint_62 : decode cX3_isJoint 62 = .ok (.iconst 0, 1) := by decide +kernel
theorem dX3_isJoint_63 : decode cX3_isJoint 63 = .ok (.ireturn, 1) := by decide +kernel
theorem dX3_isJoint_64 : decode cX3_isJoint 64 = .ok (.iload_n 1, 1) := by decide +kernel
theorem dX3_isJoint_65 : decode cX3_isJoint 65 = .ok (.bipush 42, 2) := by decide +kernel
theorem dX3_isJoint_67 : decode cX3_isJoint 67 = .ok (.if_icmp .eq 15, 3) := by decide +kernel
theorem dX3_isJoint_70 : decode cX3_isJoint 70 = .ok (.iload_n 1, 1) := by decide +kernel
theorem dX3_isJoint_71 : decode cX3_isJoint 71 = .ok (.bipush 47, 2) := by decide +kernel
theorem dX3_isJoint_73 : decode cX3_isJoint 73 = .ok (.if_icmp .eq 9, 3) := by decide +kernel
theorem dX3_isJoint_76 : decode cX3_isJoint 76 = .ok (.iload_n 1, 1) := by decide +kernel
theorem dX3_isJoint_77 : decode cX3_isJoint 77 = .ok (.bipush 37, 2) := by decide +kernel
theorem dX3_isJoint_79 : decode cX3_isJoint 79 = .ok (.if_icmp .ne 7, 3) := by decide +kernel
theorem dX3_isJoint_82 : decode cX3_isJoint 82 = .ok (.iconst 1, 1) := by decide +kernel
theorem dX3_isJoint_83 : decode cX3_isJoint 83 = .ok (.goto 4, 3) := by decide +kernel
theorem dX3_isJoint_86 : decode cX3_isJoint 86 = .ok (.iconst 0, 1) := by decide +kernel
theorem dX3_isJoint_87 : decode cX3_isJoint 87 = .ok (.ireturn, 1) := by decide +kernel
theorem dX3_readPart_0 : decode cX3_readPart 0 = .ok (.aload_n 0, 1) := by decide +kernel
theorem dX3_readPart_1 : decode cX3_readPart 1 = .ok (.iload_n 1, 1) := by decide +kernel
theorem dX3_readPart_2 : decode cX3_readPart 2 = .ok (.invokevirtual 281, 3) := by decide +kernel
theorem dX3_readPart_5 : decode cX3_readPart 5 = .ok (.aload_n 0, 1) := by decide +kernel
theorem dX3_readPart_6 : decode cX3_readPart 6 = .ok (.iconst 1, 1) := by decide +kernel
theorem dX3_readPart_7 : decode cX3_readPart 7 = .ok (.iconst 0, 1) := by decide +kernel
theorem dX3_readPart_8 : decode cX3_readPart 8 = .ok (.iconst 0, 1) := by decide +kernel
theorem dX3_readPart_9 : decode cX3_readPart 9 = .ok (.invokevirtual 144, 3) := by decide +kernel
theorem dX3_readPart_12 : decode cX3_readPart 12 = .ok (.pop, 1) := by decide +kernel
theorem dX3_readPart_13 : decode cX3_readPart 13 = .ok (.aload_n 0, 1) := by decide +kernel
theorem dX3_readPart_14 : decode cX3_readPart 14 = .ok (.getfield 19, 3) := by decide +kernel
theorem dX3_readPart_17 : decode cX3_readPart 17 = .ok (.istore_n 2, 1) := by decide +kernel
theorem dX3_readPart_18 : decode cX3_readPart 18 = .ok (.iload_n 2, 1) := by decide +kernel
theorem dX3_readPart_19 : decode cX3_readPart 19 = .ok (.lookupswitch 163 #[(2, 49), (3, 65), (40, 82), (45, 109), (150, 138)], 49) := by decide +kernel
theorem dX3_readPart_68 : decode cX3_readPart 68 = .ok (.aload_n 0, 1) := by decide +kernel
theorem dX3_readPart_69 : decode cX3_readPart 69 = .ok (.getfield 9, 3) := by decide +kernel
theorem dX3_readPart_72 : decode cX3_readPart 72 = .ok (.aload_n 0, 1) := by decide +kernel
theorem dX3_readPart_73 : decode cX3_readPart 73 = .ok (.iconst 0, 1) := by decide +kernel
theorem dX3_readPart_74 : decode cX3_readPart 74 = .ok (.invokevirtual 234, 3) := by decide +kernel
theorem dX3_readPart_77 : decode cX3_readPart 77 = .ok (.invokevirtual 84, 3) := by decide +kernel
theorem dX3_readPart_80 : decode cX3_readPart 80 = .ok (.pop, 1) := by decide +kernel
theorem dX3_readPart_81 : decode cX3_readPart 81 = .ok (.goto 132, 3) := by decide +kernel
theorem dX3_readPart_84 : decode cX3_readPart 84 = .ok (.aload_n 0, 1) := by decide +kernel
theorem dX3_readPart_85 : decode cX3_readPart 85 = .ok (.iconst 2, 1) := by decide +kernel
theorem dX3_readPart_86 : decode cX3_readPart 86 = .ok (.iconst 0, 1) := by decide +kernel
theorem dX3_readPart_87 : decode cX3_readPart 87 = .ok (.aload_n 0, 1) := by decide +kernel
theorem dX3_readPart_88 : decode cX3_readPart 88 = .ok (.iconst 0, 1) := by decide +kernel
theorem dX3_readPart_89 : decode cX3_readPart 89 = .ok (.ldc 122, 2) := by decide +kernel
theorem dX3_readPart_91 : decode cX3_readPart 91 = .ok (.invokevirtual 123, 3) := by decide +kernel
theorem dX3_readPart_94 : decode cX3_readPart 94 = .ok (.invokevirtual 144, 3) := by decide +kernel
theorem dX3_readPart_97 : decode cX3_readPart 97 = .ok (.pop, 1) := by decide +kernel
theorem dX3_readPart_98 : decode cX3_readPart 98 = .ok (.goto 115, 3) := by decide +kernel
theorem dX3_readPart_101 : decode cX3_readPart 101 = .ok (.aload_n 0, 1) := by decide +kernel
theorem dX3_readPart_102 : decode cX3_readPart 102 = .ok (.aload_n 0, 1) := by decide +kernel
theorem dX3_readPart_103 : decode cX3_readPart 103 = .ok (.getfield 15, 3) := by decide +kernel
theorem dX3_readPart_106 : decode cX3_readPart 106 = .ok (.iconst 1, 1) := by decide +kernel
theorem dX3_readPart_107 : decode cX3_readPart 107 = .ok (.iadd, 1) := by decide +kernel
theorem dX3_readPart_108 : decode cX3_readPart 108 = .ok (.invokevirtual 42, 3) := by decide +kernel
theorem dX3_readPart_111 : decode cX3_readPart 111 = .ok (.aload_n 0, 1) := by decide +kernel
theorem dX3_readPart_112 : decode cX3_readPart 112 = .ok (.iconst 0, 1) := by decide +kernel
theorem dX3_readPart_113 : decode cX3_readPart 113 = .ok (.iload_n 1, 1) := by decide +kernel
theorem dX3_readPart_114 : decode cX3_readPart 114 = .ok (.iconst 1, 1) := by decide +kernel
theorem dX3_readPart_115 : decode cX3_readPart 115 = .ok (.iadd, 1) := by decide +kernel
theorem dX3_readPart_116 : decode cX3_readPart 116 = .ok (.invokevirtual 227, 3) := by decide +kernel
theorem dX3_readPart_119 : decode cX3_readPart 119 = .ok (.aload_n 0, 1) := by decide +kernel
theorem dX3_readPart_120 : decode cX3_readPart 120 = .ok (.bipush 41, 2) := by decide +kernel
theorem dX3_readPart_122 : decode cX3_readPart 122 = .ok (.invokevirtual 119, 3) := by decide +kernel
theorem dX3_readPart_125 : decode cX3_readPart 125 = .ok (.goto 88, 3) := by decide +kernel
theorem dX3_readPart_128 : decode cX3_readPart 128 = .ok (.aload_n 0, 1) := by decide +kernel
theorem dX3_readPart_129 : decode cX3_readPart 129 = .ok (.aload_n 0, 1) := by decide +kernel
theorem dX3_readPart_130 : decode cX3_readPart 130 = .ok (.getfield 15, 3) := by decide +kernel
theorem dX3_readPart_133 : decode cX3_readPart 133 = .ok (.iconst 1, 1) := by decide +kernel
theorem dX3_readPart_134 : decode cX3_readPart 134 = .ok (.iadd, 1) := by decide +kernel
theorem dX3_readPart_135 : decode cX3_readPart 135 = .ok (.invokevirtual 42, 3) := by decide +kernel
theorem dX3_readPart_138 : decode cX3_readPart 138 = .ok (.aload_n 0, 1) := by decide +kernel
theorem dX3_readPart_139 : decode cX3_readPart 139 = .ok (.iload_n 1, 1) := by decide +kernel
theorem dX3_readPart_140 : decode cX3_readPart 140 = .ok (.iconst 1, 1) := by decide +kernel
theorem dX3_readPart_141 : decode cX3_readPart 141 = .ok (.iadd, 1) := by decide +kernel
theorem dX3_readPart_142 : decode cX3_readPart 142 = .ok (.invokevirtual 274, 3) := by decide +kernel
theorem dX3_readPart_145 : decode cX3_readPart 145 = .ok (.aload_n 0, 1) := by decide +kernel
theorem dX3_readPart_146 : decode cX3_readPart 146 = .ok (.bipush 9, 2) := by decide +kernel
theorem dX3_readPart_148 : decode cX3_readPart 148 = .ok (.iconst 0, 1) := by decide +kernel
theorem dX3_readPart_149 : decode cX3_readPart 149 = .ok (.iconst 0, 1) := by decide +kernel
theorem dX3_readPart_150 : decode cX3_readPart 150 = .ok (.invokevirtual 144, 3) := by decide +kernel
theorem dX3_readPart_153 : decode cX3_readPart 153 = .ok (.pop, 1) := by decide +kernel
theorem dX3_readPart_154 : decode cX3_readPart 154 = .ok (.goto 59, 3) := by decide +kernel
theorem dX3_readPart_157 : decode cX3_readPart 157 = .ok (.aload_n 0, 1) := by decide +kernel
theorem dX3_readPart_158 : decode cX3_readPart 158 = .ok (.aload_n 0, 1) := by decide +kernel
theorem dX3_readPart_159 : decode cX3_readPart 159 = .ok (.getfield 15, 3) := by decide +kernel
theorem dX3_readPart_162 : decode cX3_readPart 162 = .ok (.iconst 1, 1) := by decide +kernel
theorem dX3_readPart_163 : decode cX3_readPart 163 = .ok (.iadd, 1) := by decide +kernel
theorem dX3_readPart_164 : decode cX3_readPart 164 = .ok (.invokevirtual 42, 3) := by decide +kernel
theorem dX3_readPart_167 : decode cX3_readPart 167 = .ok (.aload_n 0, 1) := by decide +kernel
theorem dX3_readPart_168 : decode cX3_readPart 168 = .ok (.bipush 10, 2) := by decide +kernel
theorem dX3_readPart_170 : decode cX3_readPart 170 = .ok (.aload_n 0, 1) := by decide +kernel
theorem dX3_readPart_171 : decode cX3_readPart 171 = .ok (.invokevirtual 241, 3) := by decide +kernel
theorem dX3_readPart_174 : decode cX3_readPart 174 = .ok (.iconst 0, 1) := by decide +kernel
theorem dX3_readPart_175 : decode cX3_readPart 175 = .ok (.invokevirtual 144, 3) := by decide +kernel
theorem dX3_readPart_178 : decode cX3_readPart 178 = .ok (.pop, 1) := by decide +kernel
theorem dX3_readPart_179 : decode cX3_readPart 179 = .ok (.goto 34, 3) := by decide +kernel
theorem dX3_readPart_182 : decode cX3_readPart 182 = .ok (.aload_n 0, 1) := by decide +kernel
theorem dX3_readPart_183 : decode cX3_readPart 183 = .ok (.aload_n 0, 1) := by decide +kernel
theorem dX3_readPart_184 : decode cX3_readPart 184 = .ok (.getfield 15, 3) := by decide +kernel
theorem dX3_readPart_187 : decode cX3_readPart 187 = .ok (.iconst 1, 1) := by decide +kernel
theorem dX3_readPart_188 : decode cX3_readPart 188 = .ok (.iadd, 1) := by decide +kernel
theorem dX3_readPart_189 : decode cX3_readPart 189 = .ok (.invokevirtual 42, 3) := by decide +kernel
theorem dX3_readPart_192 : decode cX3_readPart 192 = .ok (.aload_n 0, 1) := by decide +kernel
theorem dX3_readPart_193 : decode cX3_readPart 193 = .ok (.iload_n 2, 1) := by decide +kernel
theorem dX3_readPart_194 : decode cX3_readPart 194 = .ok (.sipush 151, 3) := by decide +kernel
theorem dX3_readPart_197 : decode cX3_readPart 197 = .ok (.if_icmp .ne 8, 3) := by decide +kernel
theorem dX3_readPart_200 : decode cX3_readPart 200 = .ok (.bipush 11, 2) := by decide +kernel
theorem dX3_readPart_202 : decode cX3_readPart 202 = .ok (.goto 5, 3) := by decide +kernel
theorem dX3_readPart_205 : decode cX3_readPart 205 = .ok (.bipush 12, 2) := by decide +kernel
theorem dX3_readPart_207 : decode cX3_readPart 207 = .ok (.iconst 0, 1) := by decide +kernel
theorem dX3_readPart_208 : decode cX3_readPart 208 = .ok (.iconst 0, 1) := by decide +kernel
theorem dX3_readPart_209 : decode cX3_readPart 209 = .ok (.invokevirtual 144, 3) := by decide +kernel
theorem dX3_readPart_212 : decode cX3_readPart 212 = .ok (.pop, 1) := by decide +kernel
theorem dX3_readPart_213 : decode cX3_readPart 213 = .ok (.return_, 1) := by decide +kernel
theorem dX3_refuseNoPart_0 : decode cX3_refuseNoPart 0 = .ok (.aload_n 0, 1) := by decide +kernel
theorem dX3_refuseNoPart_1 : decode cX3_refuseNoPart 1 = .ok (.getfield 19, 3) := by decide +kernel
theorem dX3_refuseNoPart_4 : decode cX3_refuseNoPart 4 = .ok (.iconst 2, 1) := by decide +kernel
theorem dX3_refuseNoPart_5 : decode cX3_refuseNoPart 5 = .ok (.if_icmp .eq 59, 3) := by decide +kernel
theorem dX3_refuseNoPart_8 : decode cX3_refuseNoPart 8 = .ok (.aload_n 0, 1) := by decide +kernel
theorem dX3_refuseNoPart_9 : decode cX3_refuseNoPart 9 = .ok (.getfield 19, 3) := by decide +kernel
theorem dX3_refuseNoPart_12 : decode cX3_refuseNoPart 12 = .ok (.iconst 3, 1) := by decide +kernel
theorem dX3_refuseNoPart_13 : decode cX3_refuseNoPart 13 = .ok (.if_icmp .eq 51, 3) := by decide +kernel
theorem dX3_refuseNoPart_16 : decode cX3_refuseNoPart 16 = .ok (.aload_n 0, 1) := by decide +kernel
theorem dX3_refuseNoPart_17 : decode cX3_refuseNoPart 17 = .ok (.getfield 19, 3) := by decide +kernel
theorem dX3_refuseNoPart_20 : decode cX3_refuseNoPart 20 = .ok (.bipush 40, 2) := by decide +kernel
theorem dX3_refuseNoPart_22 : decode cX3_refuseNoPart 22 = .ok (.if_icmp .eq 42, 3) := by decide +kernel
theorem dX3_refuseNoPart_25 : decode cX3_refuseNoPart 25 = .ok (.aload_n 0, 1) := by decide +kernel
theorem dX3_refuseNoPart_26 : decode cX3_refuseNoPart 26 = .ok (.getfield 19, 3) := by decide +kernel
theorem dX3_refuseNoPart_29 : decode cX3_refuseNoPart 29 = .ok (.bipush 45, 2) := by decide +kernel
theorem dX3_refuseNoPart_31 : decode cX3_refuseNoPart 31 = .ok (.if_icmp .eq 33, 3) := by decide +kernel
theorem dX3_refuseNoPart_34 : decode cX3_refuseNoPart 34 = .ok (.aload_n 0, 1) := by decide +kernel
theorem dX3_refuseNoPart_35 : decode cX3_refuseNoPart 35 = .ok (.getfield 19, 3) := by decide +kernel
theorem dX3_refuseNoPart_38 : decode cX3_refuseNoPart 38 = .ok (.sipush 150, 3) := by decide +kernel
theorem dX3_refuseNoPart_41 : decode cX3_refuseNoPart 41 = .ok (.if_icmp .eq 23, 3) := by decide +kernel
theorem dX3_refuseNoPart_44 : decode cX3_refuseNoPart 44 = .ok (.aload_n 0, 1) := by decide +kernel
theorem dX3_refuseNoPart_45 : decode cX3_refuseNoPart 45 = .ok (.getfield 19, 3) := by decide +kernel
theorem dX3_refuseNoPart_48 : decode cX3_refuseNoPart 48 = .ok (.sipush 151, 3) := by decide +kernel
theorem dX3_refuseNoPart_51 : decode cX3_refuseNoPart 51 = .ok (.if_icmp .eq 13, 3) := by decide +kernel
theorem dX3_refuseNoPart_54 : decode cX3_refuseNoPart 54 = .ok (.aload_n 0, 1) := by decide +kernel
theorem dX3_refuseNoPart_55 : decode cX3_refuseNoPart 55 = .ok (.getfield 19, 3) := by decide +kernel
theorem dX3_refuseNoPart_58 : decode cX3_refuseNoPart 58 = .ok (.sipush 152, 3) := by decide +kernel
theorem dX3_refuseNoPart_61 : decode cX3_refuseNoPart 61 = .ok (.if_icmp .ne 7, 3) := by decide +kernel
theorem dX3_refuseNoPart_64 : decode cX3_refuseNoPart 64 = .ok (.iconst 1, 1) := by decide +kernel
theorem dX3_refuseNoPart_65 : decode cX3_refuseNoPart 65 = .ok (.goto 4, 3) := by decide +kernel
theorem dX3_refuseNoPart_68 : decode cX3_refuseNoPart 68 = .ok (.iconst 0, 1) := by decide +kernel
theorem dX3_refuseNoPart_69 : decode cX3_refuseNoPart 69 = .ok (.istore_n 2, 1) := by decide +kernel
theorem dX3_refuseNoPart_70 : decode cX3_refuseNoPart 70 = .ok (.iload_n 2, 1) := by decide +kernel
theorem dX3_refuseNoPart_71 : decode cX3_refuseNoPart 71 = .ok (.ifCond .ne 8, 3) := by decide +kernel
theorem dX3_refuseNoPart_74 : decode cX3_refuseNoPart 74 = .ok (.aload_n 0, 1) := by decide +kernel
theorem dX3_refuseNoPart_75 : decode cX3_refuseNoPart 75 = .ok (.iconst 1, 1) := by decide +kernel
theorem dX3_refuseNoPart_76 : decode cX3_refuseNoPart 76 = .ok (.invokevirtual 54, 3) := by decide +kernel
theorem dX3_refuseNoPart_79 : decode cX3_refuseNoPart 79 = .ok (.aload_n 0, 1) := by decide +kernel
theorem dX3_refuseNoPart_80 : decode cX3_refuseNoPart 80 = .ok (.getfield 19, 3) := by decide +kernel
theorem dX3_refuseNoPart_83 : decode cX3_refuseNoPart 83 = .ok (.iconst 2, 1) := by decide +kernel
theorem dX3_refuseNoPart_84 : decode cX3_refuseNoPart 84 = .ok (.if_icmp .ne 25, 3) := by decide +kernel
theorem dX3_refuseNoPart_87 : decode cX3_refuseNoPart 87 = .ok (.aload_n 0, 1) := by decide +kernel
theorem dX3_refuseNoPart_88 : decode cX3_refuseNoPart 88 = .ok (.getfield 28, 3) := by decide +kernel
theorem dX3_refuseNoPart_91 : decode cX3_refuseNoPart 91 = .ok (.aload_n 0, 1) := by decide +kernel
theorem dX3_refuseNoPart_92 : decode cX3_refuseNoPart 92 = .ok (.getfield 15, 3) := by decide +kernel
theorem dX3_refuseNoPart_95 : decode cX3_refuseNoPart 95 = .ok (.iconst 1, 1) := by decide +kernel
theorem dX3_refuseNoPart_96 : decode cX3_refuseNoPart 96 = .ok (.iadd, 1) := by decide +kernel
theorem dX3_refuseNoPart_97 : decode cX3_refuseNoPart 97 = .ok (.invokevirtual 256, 3) := by decide +kernel
theorem dX3_refuseNoPart_100 : decode cX3_refuseNoPart 100 = .ok (.bipush 46, 2) := by decide +kernel
theorem dX3_refuseNoPart_102 : decode cX3_refuseNoPart 102 = .ok (.if_icmp .eq 7, 3) := by decide +kernel
theorem dX3_refuseNoPart_105 : decode cX3_refuseNoPart 105 = .ok (.iconst 1, 1) := by decide +kernel
theorem dX3_refuseNoPart_106 : decode cX3_refuseNoPart 106 = .ok (.goto 4, 3) := by decide +kernel
theorem dX3_refuseNoPart_109 : decode cX3_refuseNoPart 109 = .ok (.iconst 0, 1) := by decide +kernel
theorem dX3_refuseNoPart_110 : decode cX3_refuseNoPart 110 = .ok (.istore_n 3, 1) := by decide +kernel
theorem dX3_refuseNoPart_111 : decode cX3_refuseNoPart 111 = .ok (.iload_n 3, 1) := by decide +kernel
theorem dX3_refuseNoPart_112 : decode cX3_refuseNoPart 112 = .ok (.ifCond .eq 33, 3) := by decide +kernel
theorem dX3_refuseNoPart_115 : decode cX3_refuseNoPart 115 = .ok (.aload_n 0, 1) := by decide +kernel
theorem dX3_refuseNoPart_116 : decode cX3_refuseNoPart 116 = .ok (.getfield 9, 3) := by decide +kernel
theorem dX3_refuseNoPart_119 : decode cX3_refuseNoPart 119 = .ok (.aload_n 0, 1) := by decide +kernel
theorem dX3_refuseNoPart_120 : decode cX3_refuseNoPart 120 = .ok (.getfield 22, 3) := by decide +kernel
theorem dX3_refuseNoPart_123 : decode cX3_refuseNoPart 123 = .ok (.aload_n 0, 1) := by decide +kernel
theorem dX3_refuseNoPart_124 : decode cX3_refuseNoPart 124 = .ok (.getfield 28, 3) := by decide +kernel
theorem dX3_refuseNoPart_127 : decode cX3_refuseNoPart 127 = .ok (.aload_n 0, 1) := by decide +kernel
theorem dX3_refuseNoPart_128 : decode cX3_refuseNoPart 128 = .ok (.getfield 15, 3) := by decide +kernel
theorem dX3_refuseNoPart_131 : decode cX3_refuseNoPart 131 = .ok (.invokevirtual 88, 3) := by decide +kernel
theorem dX3_refuseNoPart_134 : decode cX3_refuseNoPart 134 = .ok (.invokevirtual 260, 3) := by decide +kernel
theorem dX3_refuseNoPart_137 : decode cX3_refuseNoPart 137 = .ok (.ifCond .ge 8, 3) := by decide +kernel
theorem dX3_refuseNoPart_140 : decode cX3_refuseNoPart 140 = .ok (.aload_n 0, 1) := by decide +kernel
theorem dX3_refuseNoPart_141 : decode cX3_refuseNoPart 141 = .ok (.iconst 2, 1) := by decide +kernel
theorem dX3_refuseNoPart_142 : decode cX3_refuseNoPart 142 = .ok (.invokevirtual 54, 3) := by decide +kernel
theorem dX3_refuseNoPart_145 : decode cX3_refuseNoPart 145 = .ok (.iload_n 1, 1) := by decide +kernel
theorem dX3_refuseNoPart_146 : decode cX3_refuseNoPart 146 = .ok (.bipush 10, 2) := by decide +kernel
theorem dX3_refuseNoPart_148 : decode cX3_refuseNoPart 148 = .ok (.if_icmp .lt 8, 3) := by decide +kernel
theorem dX3_refuseNoPart_151 : decode cX3_refuseNoPart 151 = .ok (.aload_n 0, 1) := by decide +kernel
theorem dX3_refuseNoPart_152 : decode cX3_refuseNoPart 152 = .ok (.iconst 5, 1) := by decide +kernel
theorem dX3_refuseNoPart_153 : decode cX3_refuseNoPart 153 = .ok (.invokevirtual 54, 3) := by decide +kernel
theorem dX3_refuseNoPart_156 : decode cX3_refuseNoPart 156 = .ok (.return_, 1) := by decide +kernel
theorem dX3_settle_0 : decode cX3_settle 0 = .ok (.aload_n 0, 1) := by decide +kernel
theorem dX3_settle_1 : decode cX3_settle 1 = .ok (.getfield 28, 3) := by decide +kernel
theorem dX3_settle_4 : decode cX3_settle 4 = .ok (.getfield 34, 3) := by decide +kernel
theorem dX3_settle_7 : decode cX3_settle 7 = .ok (.istore_n 1, 1) := by decide +kernel
theorem dX3_settle_8 : decode cX3_settle 8 = .ok (.iconst 0, 1) := by decide +kernel
theorem dX3_settle_9 : decode cX3_settle 9 = .ok (.istore_n 2, 1) := by decide +kernel
theorem dX3_settle_10 : decode cX3_settle 10 = .ok (.iconst 0, 1) := by decide +kernel
theorem dX3_settle_11 : decode cX3_settle 11 = .ok (.istore_n 3, 1) := by decide +kernel
theorem dX3_settle_12 : decode cX3_settle 12 = .ok (.iload_n 3, 1) := by decide +kernel
theorem dX3_settle_13 : decode cX3_settle 13 = .ok (.aload_n 0, 1) := by decide +kernel
theorem dX3_settle_14 : decode cX3_settle 14 = .ok (.getfield 9, 3) := by decide +kernel
theorem dX3_settle_17 : decode cX3_settle 17 = .ok (.getfield 134, 3) := by decide +kernel
theorem dX3_settle_20 : decode cX3_settle 20 = .ok (.if_icmp .ge 82, 3) := by decide +kernel
theorem dX3_settle_23 : decode cX3_settle 23 = .ok (.aload_n 0, 1) := by decide +kernel
theorem dX3_settle_24 : decode cX3_settle 24 = .ok (.getfield 9, 3) := by decide +kernel
theorem dX3_settle_27 : decode cX3_settle 27 = .ok (.getfield 284, 3) := by decide +kernel
theorem dX3_settle_30 : decode cX3_settle 30 = .ok (.iload_n 3, 1) := by decide +kernel
theorem dX3_settle_31 : decode cX3_settle 31 = .ok (.laload, 1) := by decide +kernel
theorem dX3_settle_32 : decode cX3_settle 32 = .ok (.l2i, 1) := by decide +kernel
theorem dX3_settle_33 : decode cX3_settle 33 = .ok (.sipush 255, 3) := by decide +kernel
theorem dX3_settle_36 : decode cX3_settle 36 = .ok (.iand, 1) := by decide +kernel
theorem dX3_settle_37 : decode cX3_settle 37 = .ok (.istore 4, 2) := by decide +kernel
theorem dX3_settle_39 : decode cX3_settle 39 = .ok (.iload 4, 2) := by decide +kernel
theorem dX3_settle_41 : decode cX3_settle 41 = .ok (.bipush 21, 2) := by decide +kernel
theorem dX3_settle_43 : decode cX3_settle 43 = .ok (.if_icmp .eq 17, 3) := by decide +kernel
theorem dX3_settle_46 : decode cX3_settle 46 = .ok (.iload 4, 2) := by decide +kernel
theorem dX3_settle_48 : decode cX3_settle 48 = .ok (.bipush 22, 2) := by decide +kernel
theorem dX3_settle_50 : decode cX3_settle 50 = .ok (.if_icmp .eq 10, 3) := by decide +kernel
theorem dX3_settle_53 : decode cX3_settle 53 = .ok (.iload 4, 2) := by decide +kernel
theorem dX3_settle_55 : decode cX3_settle 55 = .ok (.bipush 23, 2) := by decide +kernel
theorem dX3_settle_57 : decode cX3_settle 57 = .ok (.if_icmp .ne 39, 3) := by decide +kernel
theorem dX3_settle_60 : decode cX3_settle 60 = .ok (.aload_n 0, 1) := by decide +kernel
theorem dX3_settle_61 : decode cX3_settle 61 = .ok (.iload_n 3, 1) := by decide +kernel
theorem dX3_settle_62 : decode cX3_settle 62 = .ok (.iload 4, 2) := by decide +kernel
theorem dX3_settle_64 : decode cX3_settle 64 = .ok (.invokevirtual 287, 3) := by decide +kernel
theorem dX3_settle_67 : decode cX3_settle 67 = .ok (.istore 5, 2) := by decide +kernel
theorem dX3_settle_69 : decode cX3_settle 69 = .ok (.iload 5, 2) := by decide +kernel
theorem dX3_settle_71 : decode cX3_settle 71 = .ok (.bipush 16, 2) := by decide +kernel
theorem dX3_settle_73 : decode cX3_settle 73 = .ok (.idiv, 1) := by decide +kernel
theorem dX3_settle_74 : decode cX3_settle 74 = .ok (.istore 6, 2) := by decide +kernel
theorem dX3_settle_76 : decode cX3_settle 76 = .ok (.iload 5, 2) := by decide +kernel
theorem dX3_settle_78 : decode cX3_settle 78 = .ok (.ifCond .le 18, 3) := by decide +kernel
theorem dX3_settle_81 : decode cX3_settle 81 = .ok (.iload 6, 2) := by decide +kernel
theorem dX3_settle_83 : decode cX3_settle 83 = .ok (.iload_n 1, 1) := by decide +kernel
theorem dX3_settle_84 : decode cX3_settle 84 = .ok (.if_icmp .ge 12, 3) := by decide +kernel
theorem dX3_settle_87 : decode cX3_settle 87 = .ok (.iload 6, 2) := by decide +kernel
theorem dX3_settle_89 : decode cX3_settle 89 = .ok (.istore_n 1, 1) := by decide +kernel
theorem dX3_settle_90 : decode cX3_settle 90 = .ok (.iload 5, 2) := by decide +kernel
theorem dX3_settle_92 : decode cX3_settle 92 = .ok (.bipush 16, 2) := by decide +kernel
theorem dX3_settle_94 : decode cX3_settle 94 = .ok (.irem, 1) := by decide +kernel
theorem dX3_settle_95 : decode cX3_settle 95 = .ok (.istore_n 2, 1) := by decide +kernel
theorem dX3_settle_96 : decode cX3_settle 96 = .ok (.iinc 3 1, 3) := by decide +kernel
theorem dX3_settle_99 : decode cX3_settle 99 = .ok (.goto (-87), 3) := by decide +kernel
theorem dX3_settle_102 : decode cX3_settle 102 = .ok (.iload_n 2, 1) := by decide +kernel
theorem dX3_settle_103 : decode cX3_settle 103 = .ok (.ifCond .le 13, 3) := by decide +kernel
theorem dX3_settle_106 : decode cX3_settle 106 = .ok (.aload_n 0, 1) := by decide +kernel
theorem dX3_settle_107 : decode cX3_settle 107 = .ok (.iload_n 1, 1) := by decide +kernel
theorem dX3_settle_108 : decode cX3_settle 108 = .ok (.invokevirtual 42, 3) := by decide +kernel
theorem dX3_settle_111 : decode cX3_settle 111 = .ok (.aload_n 0, 1) := by decide +kernel
theorem dX3_settle_112 : decode cX3_settle 112 = .ok (.iload_n 2, 1) := by decide +kernel
theorem dX3_settle_113 : decode cX3_settle 113 = .ok (.invokevirtual 54, 3) := by decide +kernel
theorem dX3_settle_116 : decode cX3_settle 116 = .ok (.return_, 1) := by decide +kernel
theorem dX3_settleOne_0 : decode cX3_settleOne 0 = .ok (.aload_n 0, 1) := by decide +kernel
theorem dX3_settleOne_1 : decode cX3_settleOne 1 = .ok (.getfield 9, 3) := by decide +kernel
theorem dX3_settleOne_4 : decode cX3_settleOne 4 = .ok (.getfield 284, 3) := by decide +kernel
theorem dX3_settleOne_7 : decode cX3_settleOne 7 = .ok (.iload_n 1, 1) := by decide +kernel
theorem dX3_settleOne_8 : decode cX3_settleOne 8 = .ok (.laload, 1) := by decide +kernel
theorem dX3_settleOne_9 : decode cX3_settleOne 9 = .ok (.bipush 8, 2) := by decide +kernel
theorem dX3_settleOne_11 : decode cX3_settleOne 11 = .ok (.lshr, 1) := by decide +kernel
theorem dX3_settleOne_12 : decode cX3_settleOne 12 = .ok (.l2i, 1) := by decide +kernel
theorem dX3_settleOne_13 : decode cX3_settleOne 13 = .ok (.ldc_w 290, 3) := by decide +kernel
theorem dX3_settleOne_16 : decode cX3_settleOne 16 = .ok (.iand, 1) := by decide +kernel
theorem dX3_settleOne_17 : decode cX3_settleOne 17 = .ok (.istore_n 3, 1) := by decide +kernel
theorem dX3_settleOne_18 : decode cX3_settleOne 18 = .ok (.aload_n 0, 1) := by decide +kernel
theorem dX3_settleOne_19 : decode cX3_settleOne 19 = .ok (.getfield 9, 3) := by decide +kernel
theorem dX3_settleOne_22 : decode cX3_settleOne 22 = .ok (.getfield 284, 3) := by decide +kernel
theorem dX3_settleOne_25 : decode cX3_settleOne 25 = .ok (.iload_n 1, 1) := by decide +kernel
theorem dX3_settleOne_26 : decode cX3_settleOne 26 = .ok (.laload, 1) := by decide +kernel
theorem dX3_settleOne_27 : decode cX3_settleOne 27 = .ok (.bipush 32, 2) := by decide +kernel
theorem dX3_settleOne_29 : decode cX3_settleOne 29 = .ok (.lshr, 1) := by decide +kernel
theorem dX3_settleOne_30 : decode cX3_settleOne 30 = .ok (.l2i, 1) := by decide +kernel
theorem dX3_settleOne_31 : decode cX3_settleOne 31 = .ok (.istore 4, 2) := by decide +kernel
theorem dX3_settleOne_33 : decode cX3_settleOne 33 = .ok (.aload_n 0, 1) := by decide +kernel
theorem dX3_settleOne_34 : decode cX3_settleOne 34 = .ok (.getfield 28, 3) := by decide +kernel
theorem dX3_settleOne_37 : decode cX3_settleOne 37 = .ok (.iload_n 3, 1) := by decide +kernel
theorem dX3_settleOne_38 : decode cX3_settleOne 38 = .ok (.invokevirtual 88, 3) := by decide +kernel
theorem dX3_settleOne_41 : decode cX3_settleOne 41 = .ok (.aload_n 0, 1) := by decide +kernel
theorem dX3_settleOne_42 : decode cX3_settleOne 42 = .ok (.getfield 9, 3) := by decide +kernel
theorem dX3_settleOne_45 : decode cX3_settleOne 45 = .ok (.getfield 197, 3) := by decide +kernel
theorem dX3_settleOne_48 : decode cX3_settleOne 48 = .ok (.aload_n 0, 1) := by decide +kernel
theorem dX3_settleOne_49 : decode cX3_settleOne 49 = .ok (.getfield 9, 3) := by decide +kernel
theorem dX3_settleOne_52 : decode cX3_settleOne 52 = .ok (.getfield 147, 3) := by decide +kernel
theorem dX3_settleOne_55 : decode cX3_settleOne 55 = .ok (.invokestatic 105, 3) := by decide +kernel
theorem dX3_settleOne_58 : decode cX3_settleOne 58 = .ok (.istore 5, 2) := by decide +kernel
theorem dX3_settleOne_60 : decode cX3_settleOne 60 = .ok (.iload 5, 2) := by decide +kernel
theorem dX3_settleOne_62 : decode cX3_settleOne 62 = .ok (.ifCond .ge 10, 3) := by decide +kernel
theorem dX3_settleOne_65 : decode cX3_settleOne 65 = .ok (.iconst 2, 1) := by decide +kernel
theorem dX3_settleOne_66 : decode cX3_settleOne 66 = .ok (.bipush 16, 2) := by decide +kernel
theorem dX3_settleOne_68 : decode cX3_settleOne 68 = .ok (.iload_n 3, 1) := by decide +kernel
theorem dX3_settleOne_69 : decode cX3_settleOne 69 = .ok (.imul, 1) := by decide +kernel
theorem dX3_settleOne_70 : decode cX3_settleOne 70 = .ok (.iadd, 1) := by decide +kernel
theorem dX3_settleOne_71 : decode cX3_settleOne 71 = .ok (.ireturn, 1) := by decide +kernel
theorem dX3_settleOne_72 : decode cX3_settleOne 72 = .ok (.aload_n 0, 1) := by decide +kernel
theorem dX3_settleOne_73 : decode cX3_settleOne 73 = .ok (.getfield 9, 3) := by decide +kernel
theorem dX3_settleOne_76 : decode cX3_settleOne 76 = .ok (.iload 4, 2) := by decide +kernel
theorem dX3_settleOne_78 : decode cX3_settleOne 78 = .ok (.iload 5, 2) := by decide +kernel
theorem dX3_settleOne_80 : decode cX3_settleOne 80 = .ok (.invokevirtual 267, 3) := by decide +kernel
theorem dX3_settleOne_83 : decode cX3_settleOne 83 = .ok (.iload_n 2, 1) := by decide +kernel
theorem dX3_settleOne_84 : decode cX3_settleOne 84 = .ok (.bipush 23, 2) := by decide +kernel
theorem dX3_settleOne_86 : decode cX3_settleOne 86 = .ok (.if_icmp .ne 22, 3) := by decide +kernel
theorem dX3_settleOne_89 : decode cX3_settleOne 89 = .ok (.aload_n 0, 1) := by decide +kernel
theorem dX3_settleOne_90 : decode cX3_settleOne 90 = .ok (.getfield 9, 3) := by decide +kernel
theorem dX3_settleOne_93 : decode cX3_settleOne 93 = .ok (.getfield 284, 3) := by decide +kernel
theorem dX3_settleOne_96 : decode cX3_settleOne 96 = .ok (.iload_n 1, 1) := by decide +kernel
theorem dX3_settleOne_97 : decode cX3_settleOne 97 = .ok (.bipush 6, 2) := by decide +kernel
theorem dX3_settleOne_99 : decode cX3_settleOne 99 = .ok (.iload 5, 2) := by decide +kernel
theorem dX3_settleOne_101 : decode cX3_settleOne 101 = .ok (.iconst 0, 1) := by decide +kernel
theorem dX3_settleOne_102 : decode cX3_settleOne 102 = .ok (.invokestatic 80, 3) := by decide +kernel
theorem dX3_settleOne_105 : decode cX3_settleOne 105 = .ok (.lastore, 1) := by decide +kernel
theorem dX3_settleOne_106 : decode cX3_settleOne 106 = .ok (.iconst 0, 1) := by decide +kernel
theorem dX3_settleOne_107 : decode cX3_settleOne 107 = .ok (.ireturn, 1) := by decide +kernel
theorem dX3_settleOne_108 : decode cX3_settleOne 108 = .ok (.aload_n 0, 1) := by decide +kernel
theorem dX3_settleOne_109 : decode cX3_settleOne 109 = .ok (.getfield 9, 3) := by decide +kernel
theorem dX3_settleOne_112 : decode cX3_settleOne 112 = .ok (.iload 5, 2) := by decide +kernel
theorem dX3_settleOne_114 : decode cX3_settleOne 114 = .ok (.aload_n 0, 1) := by decide +kernel
theorem dX3_settleOne_115 : decode cX3_settleOne 115 = .ok (.getfield 28, 3) := by decide +kernel
theorem dX3_settleOne_118 : decode cX3_settleOne 118 = .ok (.iload_n 3, 1) := by decide +kernel
theorem dX3_settleOne_119 : decode cX3_settleOne 119 = .ok (.iconst 2, 1) := by decide +kernel
theorem dX3_settleOne_120 : decode cX3_settleOne 120 = .ok (.iadd, 1) := by decide +kernel
theorem dX3_settleOne_121 : decode cX3_settleOne 121 = .ok (.invokevirtual 88, 3) := by decide +kernel
theorem dX3_settleOne_124 : decode cX3_settleOne 124 = .ok (.invokevirtual 260, 3) := by decide +kernel
theorem dX3_settleOne_127 : decode cX3_settleOne 127 = .ok (.istore 6, 2) := by decide +kernel
theorem dX3_settleOne_129 : decode cX3_settleOne 129 = .ok (.iload 6, 2) := by decide +kernel
theorem dX3_settleOne_131 : decode cX3_settleOne 131 = .ok (.ifCond .ge 12, 3) := by decide +kernel
theorem dX3_settleOne_134 : decode cX3_settleOne 134 = .ok (.iconst 2, 1) := by decide +kernel
theorem dX3_settleOne_135 : decode cX3_settleOne 135 = .ok (.bipush 16, 2) := by decide +kernel
theorem dX3_settleOne_137 : decode cX3_settleOne 137 = .ok (.iload_n 3, 1) := by decide +kernel
theorem dX3_settleOne_138 : decode cX3_settleOne 138 = .ok (.iconst 2, 1) := by decide +kernel
theorem dX3_settleOne_139 : decode cX3_settleOne 139 = .ok (.iadd, 1) := by decide +kernel
theorem dX3_settleOne_140 : decode cX3_settleOne 140 = .ok (.imul, 1) := by decide +kernel
theorem dX3_settleOne_141 : decode cX3_settleOne 141 = .ok (.iadd, 1) := by decide +kernel
theorem dX3_settleOne_142 : decode cX3_settleOne 142 = .ok (.ireturn, 1) := by decide +kernel
theorem dX3_settleOne_143 : decode cX3_settleOne 143 = .ok (.iload_n 2, 1) := by decide +kernel
theorem dX3_settleOne_144 : decode cX3_settleOne 144 = .ok (.bipush 22, 2) := by decide +kernel
theorem dX3_settleOne_146 : decode cX3_settleOne 146 = .ok (.if_icmp .ne 7, 3) := by decide +kernel
theorem dX3_settleOne_149 : decode cX3_settleOne 149 = .ok (.iconst 1, 1) := by decide +kernel
theorem dX3_settleOne_150 : decode cX3_settleOne 150 = .ok (.goto 4, 3) := by decide +kernel
theorem dX3_settleOne_153 : decode cX3_settleOne 153 = .ok (.iconst 0, 1) := by decide +kernel
theorem dX3_settleOne_154 : decode cX3_settleOne 154 = .ok (.istore 7, 2) := by decide +kernel
theorem dX3_settleOne_156 : decode cX3_settleOne 156 = .ok (.iload 7, 2) := by decide +kernel
theorem dX3_settleOne_158 : decode cX3_settleOne 158 = .ok (.ifCond .eq 25, 3) := by decide +kernel
theorem dX3_settleOne_161 : decode cX3_settleOne 161 = .ok (.aload_n 0, 1) := by decide +kernel
theorem dX3_settleOne_162 : decode cX3_settleOne 162 = .ok (.getfield 9, 3) := by decide +kernel
theorem dX3_settleOne_165 : decode cX3_settleOne 165 = .ok (.iload 6, 2) := by decide +kernel
theorem dX3_settleOne_167 : decode cX3_settleOne 167 = .ok (.invokevirtual 264, 3) := by decide +kernel
theorem dX3_settleOne_170 : decode cX3_settleOne 170 = .ok (.ifCond .ne 13, 3) := by decide +kernel
theorem dX3_settleOne_173 : decode cX3_settleOne 173 = .ok (.bipush 6, 2) := by decide +kernel
theorem dX3_settleOne_175 : decode cX3_settleOne 175 = .ok (.bipush 16, 2) := by decide +kernel
theorem dX3_settleOne_177 : decode cX3_settleOne 177 = .ok (.iload_n 3, 1) := by decide +kernel
theorem dX3_settleOne_178 : decode cX3_settleOne 178 = .ok (.iconst 2, 1) := by decide +kernel
theorem dX3_settleOne_179 : decode cX3_settleOne 179 = .ok (.iadd, 1) := by decide +kernel
theorem dX3_settleOne_180 : decode cX3_settleOne 180 = .ok (.imul, 1) := by decide +kernel
theorem dX3_settleOne_181 : decode cX3_settleOne 181 = .ok (.iadd, 1) := by decide +kernel
theorem dX3_settleOne_182 : decode cX3_settleOne 182 = .ok (.ireturn, 1) := by decide +kernel
theorem dX3_settleOne_183 : decode cX3_settleOne 183 = .ok (.aload_n 0, 1) := by decide +kernel
theorem dX3_settleOne_184 : decode cX3_settleOne 184 = .ok (.getfield 9, 3) := by decide +kernel
theorem dX3_settleOne_187 : decode cX3_settleOne 187 = .ok (.getfield 284, 3) := by decide +kernel
theorem dX3_settleOne_190 : decode cX3_settleOne 190 = .ok (.iload_n 1, 1) := by decide +kernel
theorem dX3_settleOne_191 : decode cX3_settleOne 191 = .ok (.aload_n 0, 1) := by decide +kernel
theorem dX3_settleOne_192 : decode cX3_settleOne 192 = .ok (.getfield 9, 3) := by decide +kernel
theorem dX3_settleOne_195 : decode cX3_settleOne 195 = .ok (.iload 6, 2) := by decide +kernel
theorem dX3_settleOne_197 : decode cX3_settleOne 197 = .ok (.iload 7, 2) := by decide +kernel
theorem dX3_settleOne_199 : decode cX3_settleOne 199 = .ok (.invokevirtual 270, 3) := by decide +kernel
theorem dX3_settleOne_202 : decode cX3_settleOne 202 = .ok (.lastore, 1) := by decide +kernel
theorem dX3_settleOne_203 : decode cX3_settleOne 203 = .ok (.iconst 0, 1) := by decide +kernel
theorem dX3_settleOne_204 : decode cX3_settleOne 204 = .ok (.ireturn, 1) := by decide +kernel
theorem dX4_init_0 : decode cX4_init 0 = .ok (.aload_n 0, 1) := by decide +kernel
theorem dX4_init_1 : decode cX4_init 1 = .ok (.invokespecial 3, 3) := by decide +kernel
theorem dX4_init_4 : decode cX4_init 4 = .ok (.aload_n 0, 1) := by decide +kernel
theorem dX4_init_5 : decode cX4_init 5 = .ok (.bipush 24, 2) := by decide +kernel
theorem dX4_init_7 : decode cX4_init 7 = .ok (.newarray .int, 2) := by decide +kernel
theorem dX4_init_9 : decode cX4_init 9 = .ok (.putfield 9, 3) := by decide +kernel
theorem dX4_init_12 : decode cX4_init 12 = .ok (.aload_n 0, 1) := by decide +kernel
theorem dX4_init_13 : decode cX4_init 13 = .ok (.bipush 24, 2) := by decide +kernel
theorem dX4_init_15 : decode cX4_init 15 = .ok (.newarray .int, 2) := by decide +kernel
theorem dX4_init_17 : decode cX4_init 17 = .ok (.putfield 15, 3) := by decide +kernel
theorem dX4_init_20 : decode cX4_init 20 = .ok (.aload_n 0, 1) := by decide +kernel
theorem dX4_init_21 : decode cX4_init 21 = .ok (.sipush 192, 3) := by decide +kernel
theorem dX4_init_24 : decode cX4_init 24 = .ok (.newarray .int, 2) := by decide +kernel
theorem dX4_init_26 : decode cX4_init 26 = .ok (.putfield 18, 3) := by decide +kernel
theorem dX4_init_29 : decode cX4_init 29 = .ok (.aload_n 0, 1) := by decide +kernel
theorem dX4_init_30 : decode cX4_init 30 = .ok (.bipush 24, 2) := by decide +kernel
theorem dX4_init_32 : decode cX4_init 32 = .ok (.newarray .int, 2) := by decide +kernel
theorem dX4_init_34 : decode cX4_init 34 = .ok (.putfield 21, 3) := by decide +kernel
theorem dX4_init_37 : decode cX4_init 37 = .ok (.aload_n 0, 1) := by decide +kernel
theorem dX4_init_38 : decode cX4_init 38 = .ok (.bipush 24, 2) := by decide +kernel
theorem dX4_init_40 : decode cX4_init 40 = .ok (.newarray .int, 2) := by decide +kernel
theorem dX4_init_42 : decode cX4_init 42 = .ok (.putfield 24, 3) := by decide +kernel
theorem dX4_init_45 : decode cX4_init 45 = .ok (.aload_n 0, 1) := by decide +kernel
theorem dX4_init_46 : decode cX4_init 46 = .ok (.sipush 576, 3) := by decide +kernel
theorem dX4_init_49 : decode cX4_init 49 = .ok (.newarray .int, 2) := by decide +kernel
theorem dX4_init_51 : decode cX4_init 51 = .ok (.putfield 27, 3) := by decide +kernel
theorem dX4_init_54 : decode cX4_init 54 = .ok (.aload_n 0, 1) := by decide +kernel
theorem dX4_init_55 : decode cX4_init 55 = .ok (.bipush 24, 2) := by decide +kernel
theorem dX4_init_57 : decode cX4_init 57 = .ok (.newarray .int, 2) := by decide +kernel
theorem dX4_init_59 : decode cX4_init 59 = .ok (.putfield 30, 3) := by decide +kernel
theorem dX4_init_62 : decode cX4_init 62 = .ok (.aload_n 0, 1) := by decide +kernel
theorem dX4_init_63 : decode cX4_init 63 = .ok (.bipush 24, 2) := by decide +kernel
theorem dX4_init_65 : decode cX4_init 65 = .ok (.newarray .int, 2) := by decide +kernel
theorem dX4_init_67 : decode cX4_init 67 = .ok (.putfield 33, 3) := by decide +kernel
theorem dX4_init_70 : decode cX4_init 70 = .ok (.aload_n 0, 1) := by decide +kernel
theorem dX4_init_71 : decode cX4_init 71 = .ok (.bipush 24, 2) := by decide +kernel
theorem dX4_init_73 : decode cX4_init 73 = .ok (.newarray .int, 2) := by decide +kernel
theorem dX4_init_75 : decode cX4_init 75 = .ok (.putfield 36, 3) := by decide +kernel
theorem dX4_init_78 : decode cX4_init 78 = .ok (.aload_n 0, 1) := by decide +kernel
theorem dX4_init_79 : decode cX4_init 79 = .ok (.bipush 24, 2) := by decide +kernel
theorem dX4_init_81 : decode cX4_init 81 = .ok (.newarray .int, 2) := by decide +kernel
theorem dX4_init_83 : decode cX4_init 83 = .ok (.putfield 39, 3) := by decide +kernel
theorem dX4_init_86 : decode cX4_init 86 = .ok (.aload_n 0, 1) := by decide +kernel
theorem dX4_init_87 : decode cX4_init 87 = .ok (.iconst 0, 1) := by decide +kernel
theorem dX4_init_88 : decode cX4_init 88 = .ok (.putfield 42, 3) := by decide +kernel
theorem dX4_init_91 : decode cX4_init 91 = .ok (.aload_n 0, 1) := by decide +kernel
theorem dX4_init_92 : decode cX4_init 92 = .ok (.iconst 0, 1) := by decide +kernel
theorem dX4_init_93 : decode cX4_init 93 = .ok (.putfield 46, 3) := by decide +kernel
