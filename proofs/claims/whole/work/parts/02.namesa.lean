theorem dX0_init_0 : decode cX0_init 0 = .ok (.aload_n 0, 1) := by decide +kernel
theorem dX0_init_1 : decode cX0_init 1 = .ok (.invokespecial 3, 3) := by decide +kernel
theorem dX0_init_4 : decode cX0_init 4 = .ok (.aload_n 0, 1) := by decide +kernel
theorem dX0_init_5 : decode cX0_init 5 = .ok (.bipush 40, 2) := by decide +kernel
theorem dX0_init_7 : decode cX0_init 7 = .ok (.newarray .int, 2) := by decide +kernel
theorem dX0_init_9 : decode cX0_init 9 = .ok (.putfield 11, 3) := by decide +kernel
theorem dX0_init_12 : decode cX0_init 12 = .ok (.aload_n 0, 1) := by decide +kernel
theorem dX0_init_13 : decode cX0_init 13 = .ok (.bipush 24, 2) := by decide +kernel
theorem dX0_init_15 : decode cX0_init 15 = .ok (.newarray .int, 2) := by decide +kernel
theorem dX0_init_17 : decode cX0_init 17 = .ok (.putfield 15, 3) := by decide +kernel
theorem dX0_init_20 : decode cX0_init 20 = .ok (.aload_n 0, 1) := by decide +kernel
theorem dX0_init_21 : decode cX0_init 21 = .ok (.aload_n 1, 1) := by decide +kernel
theorem dX0_init_22 : decode cX0_init 22 = .ok (.putfield 18, 3) := by decide +kernel
theorem dX0_init_25 : decode cX0_init 25 = .ok (.return_, 1) := by decide +kernel
theorem dX0_stand_0 : decode cX0_stand 0 = .ok (.aload_n 0, 1) := by decide +kernel
theorem dX0_stand_1 : decode cX0_stand 1 = .ok (.aload_n 1, 1) := by decide +kernel
theorem dX0_stand_2 : decode cX0_stand 2 = .ok (.getfield 22, 3) := by decide +kernel
theorem dX0_stand_5 : decode cX0_stand 5 = .ok (.putfield 18, 3) := by decide +kernel
theorem dX0_stand_8 : decode cX0_stand 8 = .ok (.aload_n 0, 1) := by decide +kernel
theorem dX0_stand_9 : decode cX0_stand 9 = .ok (.iload_n 2, 1) := by decide +kernel
theorem dX0_stand_10 : decode cX0_stand 10 = .ok (.putfield 25, 3) := by decide +kernel
theorem dX0_stand_13 : decode cX0_stand 13 = .ok (.iload_n 2, 1) := by decide +kernel
theorem dX0_stand_14 : decode cX0_stand 14 = .ok (.ifCond .lt 35, 3) := by decide +kernel
theorem dX0_stand_17 : decode cX0_stand 17 = .ok (.iload_n 2, 1) := by decide +kernel
theorem dX0_stand_18 : decode cX0_stand 18 = .ok (.bipush 40, 2) := by decide +kernel
theorem dX0_stand_20 : decode cX0_stand 20 = .ok (.if_icmp .ge 29, 3) := by decide +kernel
theorem dX0_stand_23 : decode cX0_stand 23 = .ok (.aload_n 0, 1) := by decide +kernel
theorem dX0_stand_24 : decode cX0_stand 24 = .ok (.aload_n 1, 1) := by decide +kernel
theorem dX0_stand_25 : decode cX0_stand 25 = .ok (.getfield 29, 3) := by decide +kernel
theorem dX0_stand_28 : decode cX0_stand 28 = .ok (.getfield 33, 3) := by decide +kernel
theorem dX0_stand_31 : decode cX0_stand 31 = .ok (.iload_n 2, 1) := by decide +kernel
theorem dX0_stand_32 : decode cX0_stand 32 = .ok (.iaload, 1) := by decide +kernel
theorem dX0_stand_33 : decode cX0_stand 33 = .ok (.putfield 38, 3) := by decide +kernel
theorem dX0_stand_36 : decode cX0_stand 36 = .ok (.aload_n 0, 1) := by decide +kernel
theorem dX0_stand_37 : decode cX0_stand 37 = .ok (.aload_n 1, 1) := by decide +kernel
theorem dX0_stand_38 : decode cX0_stand 38 = .ok (.getfield 29, 3) := by decide +kernel
theorem dX0_stand_41 : decode cX0_stand 41 = .ok (.getfield 41, 3) := by decide +kernel
theorem dX0_stand_44 : decode cX0_stand 44 = .ok (.iload_n 2, 1) := by decide +kernel
theorem dX0_stand_45 : decode cX0_stand 45 = .ok (.iaload, 1) := by decide +kernel
theorem dX0_stand_46 : decode cX0_stand 46 = .ok (.putfield 44, 3) := by decide +kernel
theorem dX0_stand_49 : decode cX0_stand 49 = .ok (.aload_n 0, 1) := by decide +kernel
theorem dX0_stand_50 : decode cX0_stand 50 = .ok (.iload_n 3, 1) := by decide +kernel
theorem dX0_stand_51 : decode cX0_stand 51 = .ok (.putfield 47, 3) := by decide +kernel
theorem dX0_stand_54 : decode cX0_stand 54 = .ok (.aload_n 0, 1) := by decide +kernel
theorem dX0_stand_55 : decode cX0_stand 55 = .ok (.iload 4, 2) := by decide +kernel
theorem dX0_stand_57 : decode cX0_stand 57 = .ok (.putfield 50, 3) := by decide +kernel
theorem dX0_stand_60 : decode cX0_stand 60 = .ok (.aload_n 0, 1) := by decide +kernel
theorem dX0_stand_61 : decode cX0_stand 61 = .ok (.getfield 53, 3) := by decide +kernel
theorem dX0_stand_64 : decode cX0_stand 64 = .ok (.aload_n 0, 1) := by decide +kernel
theorem dX0_stand_65 : decode cX0_stand 65 = .ok (.getfield 18, 3) := by decide +kernel
theorem dX0_stand_68 : decode cX0_stand 68 = .ok (.getfield 56, 3) := by decide +kernel
theorem dX0_stand_71 : decode cX0_stand 71 = .ok (.if_icmp .eq 28, 3) := by decide +kernel
theorem dX0_stand_74 : decode cX0_stand 74 = .ok (.aload_n 0, 1) := by decide +kernel
theorem dX0_stand_75 : decode cX0_stand 75 = .ok (.getfield 18, 3) := by decide +kernel
theorem dX0_stand_78 : decode cX0_stand 78 = .ok (.getfield 56, 3) := by decide +kernel
theorem dX0_stand_81 : decode cX0_stand 81 = .ok (.ifCond .le 18, 3) := by decide +kernel
theorem dX0_stand_84 : decode cX0_stand 84 = .ok (.aload_n 0, 1) := by decide +kernel
theorem dX0_stand_85 : decode cX0_stand 85 = .ok (.aload_n 0, 1) := by decide +kernel
theorem dX0_stand_86 : decode cX0_stand 86 = .ok (.getfield 18, 3) := by decide +kernel
theorem dX0_stand_89 : decode cX0_stand 89 = .ok (.getfield 56, 3) := by decide +kernel
theorem dX0_stand_92 : decode cX0_stand 92 = .ok (.putfield 53, 3) := by decide +kernel
theorem dX0_stand_95 : decode cX0_stand 95 = .ok (.aload_n 0, 1) := by decide +kernel
theorem dX0_stand_96 : decode cX0_stand 96 = .ok (.invokevirtual 59, 3) := by decide +kernel
theorem dX0_stand_99 : decode cX0_stand 99 = .ok (.return_, 1) := by decide +kernel
theorem dX0_findNeighbours_0 : decode cX0_findNeighbours 0 = .ok (.iconst 0, 1) := by decide +kernel
theorem dX0_findNeighbours_1 : decode cX0_findNeighbours 1 = .ok (.istore_n 1, 1) := by decide +kernel
theorem dX0_findNeighbours_2 : decode cX0_findNeighbours 2 = .ok (.iload_n 1, 1) := by decide +kernel
theorem dX0_findNeighbours_3 : decode cX0_findNeighbours 3 = .ok (.bipush 24, 2) := by decide +kernel
theorem dX0_findNeighbours_5 : decode cX0_findNeighbours 5 = .ok (.if_icmp .ge 95, 3) := by decide +kernel
theorem dX0_findNeighbours_8 : decode cX0_findNeighbours 8 = .ok (.iconst 1, 1) := by decide +kernel
theorem dX0_findNeighbours_9 : decode cX0_findNeighbours 9 = .ok (.iload_n 1, 1) := by decide +kernel
theorem dX0_findNeighbours_10 : decode cX0_findNeighbours 10 = .ok (.ishl, 1) := by decide +kernel
theorem dX0_findNeighbours_11 : decode cX0_findNeighbours 11 = .ok (.istore_n 2, 1) := by decide +kernel
theorem dX0_findNeighbours_12 : decode cX0_findNeighbours 12 = .ok (.aload_n 0, 1) := by decide +kernel
theorem dX0_findNeighbours_13 : decode cX0_findNeighbours 13 = .ok (.getfield 53, 3) := by decide +kernel
theorem dX0_findNeighbours_16 : decode cX0_findNeighbours 16 = .ok (.ifCond .le 12, 3) := by decide +kernel
theorem dX0_findNeighbours_19 : decode cX0_findNeighbours 19 = .ok (.iload_n 1, 1) := by decide +kernel
theorem dX0_findNeighbours_20 : decode cX0_findNeighbours 20 = .ok (.aload_n 0, 1) := by decide +kernel
theorem dX0_findNeighbours_21 : decode cX0_findNeighbours 21 = .ok (.getfield 53, 3) := by decide +kernel
theorem dX0_findNeighbours_24 : decode cX0_findNeighbours 24 = .ok (.irem, 1) := by decide +kernel
theorem dX0_findNeighbours_25 : decode cX0_findNeighbours 25 = .ok (.goto 4, 3) := by decide +kernel
theorem dX0_findNeighbours_28 : decode cX0_findNeighbours 28 = .ok (.iconst 0, 1) := by decide +kernel
theorem dX0_findNeighbours_29 : decode cX0_findNeighbours 29 = .ok (.istore_n 3, 1) := by decide +kernel
theorem dX0_findNeighbours_30 : decode cX0_findNeighbours 30 = .ok (.iload_n 2, 1) := by decide +kernel
theorem dX0_findNeighbours_31 : decode cX0_findNeighbours 31 = .ok (.aload_n 0, 1) := by decide +kernel
theorem dX0_findNeighbours_32 : decode cX0_findNeighbours 32 = .ok (.getfield 53, 3) := by decide +kernel
theorem dX0_findNeighbours_35 : decode cX0_findNeighbours 35 = .ok (.ishl, 1) := by decide +kernel
theorem dX0_findNeighbours_36 : decode cX0_findNeighbours 36 = .ok (.iload_n 2, 1) := by decide +kernel
theorem dX0_findNeighbours_37 : decode cX0_findNeighbours 37 = .ok (.aload_n 0, 1) := by decide +kernel
theorem dX0_findNeighbours_38 : decode cX0_findNeighbours 38 = .ok (.getfield 53, 3) := by decide +kernel
theorem dX0_findNeighbours_41 : decode cX0_findNeighbours 41 = .ok (.ishr, 1) := by decide +kernel
theorem dX0_findNeighbours_42 : decode cX0_findNeighbours 42 = .ok (.ior, 1) := by decide +kernel
theorem dX0_findNeighbours_43 : decode cX0_findNeighbours 43 = .ok (.istore 4, 2) := by decide +kernel
theorem dX0_findNeighbours_45 : decode cX0_findNeighbours 45 = .ok (.iload 4, 2) := by decide +kernel
theorem dX0_findNeighbours_47 : decode cX0_findNeighbours 47 = .ok (.iload_n 3, 1) := by decide +kernel
theorem dX0_findNeighbours_48 : decode cX0_findNeighbours 48 = .ok (.ifCond .le 9, 3) := by decide +kernel
theorem dX0_findNeighbours_51 : decode cX0_findNeighbours 51 = .ok (.iload_n 2, 1) := by decide +kernel
theorem dX0_findNeighbours_52 : decode cX0_findNeighbours 52 = .ok (.iconst 1, 1) := by decide +kernel
theorem dX0_findNeighbours_53 : decode cX0_findNeighbours 53 = .ok (.ishr, 1) := by decide +kernel
theorem dX0_findNeighbours_54 : decode cX0_findNeighbours 54 = .ok (.goto 4, 3) := by decide +kernel
theorem dX0_findNeighbours_57 : decode cX0_findNeighbours 57 = .ok (.iconst 0, 1) := by decide +kernel
theorem dX0_findNeighbours_58 : decode cX0_findNeighbours 58 = .ok (.ior, 1) := by decide +kernel
theorem dX0_findNeighbours_59 : decode cX0_findNeighbours 59 = .ok (.istore 4, 2) := by decide +kernel
theorem dX0_findNeighbours_61 : decode cX0_findNeighbours 61 = .ok (.iload 4, 2) := by decide +kernel
theorem dX0_findNeighbours_63 : decode cX0_findNeighbours 63 = .ok (.iload_n 3, 1) := by decide +kernel
theorem dX0_findNeighbours_64 : decode cX0_findNeighbours 64 = .ok (.aload_n 0, 1) := by decide +kernel
theorem dX0_findNeighbours_65 : decode cX0_findNeighbours 65 = .ok (.getfield 53, 3) := by decide +kernel
theorem dX0_findNeighbours_68 : decode cX0_findNeighbours 68 = .ok (.iconst 1, 1) := by decide +kernel
theorem dX0_findNeighbours_69 : decode cX0_findNeighbours 69 = .ok (.isub, 1) := by decide +kernel
theorem dX0_findNeighbours_70 : decode cX0_findNeighbours 70 = .ok (.if_icmp .ge 9, 3) := by decide +kernel
theorem dX0_findNeighbours_73 : decode cX0_findNeighbours 73 = .ok (.iload_n 2, 1) := by decide +kernel
theorem dX0_findNeighbours_74 : decode cX0_findNeighbours 74 = .ok (.iconst 1, 1) := by decide +kernel
theorem dX0_findNeighbours_75 : decode cX0_findNeighbours 75 = .ok (.ishl, 1) := by decide +kernel
theorem dX0_findNeighbours_76 : decode cX0_findNeighbours 76 = .ok (.goto 4, 3) := by decide +kernel
theorem dX0_findNeighbours_79 : decode cX0_findNeighbours 79 = .ok (.iconst 0, 1) := by decide +kernel
theorem dX0_findNeighbours_80 : decode cX0_findNeighbours 80 = .ok (.ior, 1) := by decide +kernel
theorem dX0_findNeighbours_81 : decode cX0_findNeighbours 81 = .ok (.istore 4, 2) := by decide +kernel
theorem dX0_findNeighbours_83 : decode cX0_findNeighbours 83 = .ok (.aload_n 0, 1) := by decide +kernel
theorem dX0_findNeighbours_84 : decode cX0_findNeighbours 84 = .ok (.getfield 15, 3) := by decide +kernel
theorem dX0_findNeighbours_87 : decode cX0_findNeighbours 87 = .ok (.iload_n 1, 1) := by decide +kernel
theorem dX0_findNeighbours_88 : decode cX0_findNeighbours 88 = .ok (.iload 4, 2) := by decide +kernel
theorem dX0_findNeighbours_90 : decode cX0_findNeighbours 90 = .ok (.ldc 62, 2) := by decide +kernel
theorem dX0_findNeighbours_92 : decode cX0_findNeighbours 92 = .ok (.iand, 1) := by decide +kernel
theorem dX0_findNeighbours_93 : decode cX0_findNeighbours 93 = .ok (.iastore, 1) := by decide +kernel
theorem dX0_findNeighbours_94 : decode cX0_findNeighbours 94 = .ok (.iinc 1 1, 3) := by decide +kernel
theorem dX0_findNeighbours_97 : decode cX0_findNeighbours 97 = .ok (.goto (-95), 3) := by decide +kernel
theorem dX0_findNeighbours_100 : decode cX0_findNeighbours 100 = .ok (.return_, 1) := by decide +kernel
theorem dX0_ask_0 : decode cX0_ask 0 = .ok (.iconst 0, 1) := by decide +kernel
theorem dX0_ask_1 : decode cX0_ask 1 = .ok (.istore_n 3, 1) := by decide +kernel
theorem dX0_ask_2 : decode cX0_ask 2 = .ok (.iconst 2, 1) := by decide +kernel
theorem dX0_ask_3 : decode cX0_ask 3 = .ok (.istore 4, 2) := by decide +kernel
theorem dX0_ask_5 : decode cX0_ask 5 = .ok (.iconst 0, 1) := by decide +kernel
theorem dX0_ask_6 : decode cX0_ask 6 = .ok (.istore 5, 2) := by decide +kernel
theorem dX0_ask_8 : decode cX0_ask 8 = .ok (.iconst 0, 1) := by decide +kernel
theorem dX0_ask_9 : decode cX0_ask 9 = .ok (.istore 6, 2) := by decide +kernel
theorem dX0_ask_11 : decode cX0_ask 11 = .ok (.iload 6, 2) := by decide +kernel
theorem dX0_ask_13 : decode cX0_ask 13 = .ok (.sipush 128, 3) := by decide +kernel
theorem dX0_ask_16 : decode cX0_ask 16 = .ok (.if_icmp .ge 311, 3) := by decide +kernel
theorem dX0_ask_19 : decode cX0_ask 19 = .ok (.iload 5, 2) := by decide +kernel
theorem dX0_ask_21 : decode cX0_ask 21 = .ok (.ifCond .lt 33, 3) := by decide +kernel
theorem dX0_ask_24 : decode cX0_ask 24 = .ok (.iload 5, 2) := by decide +kernel
theorem dX0_ask_26 : decode cX0_ask 26 = .ok (.aload_n 1, 1) := by decide +kernel
theorem dX0_ask_27 : decode cX0_ask 27 = .ok (.getfield 65, 3) := by decide +kernel
theorem dX0_ask_30 : decode cX0_ask 30 = .ok (.if_icmp .ge 24, 3) := by decide +kernel
theorem dX0_ask_33 : decode cX0_ask 33 = .ok (.iload 5, 2) := by decide +kernel
theorem dX0_ask_35 : decode cX0_ask 35 = .ok (.sipush 128, 3) := by decide +kernel
theorem dX0_ask_38 : decode cX0_ask 38 = .ok (.if_icmp .ge 16, 3) := by decide +kernel
theorem dX0_ask_41 : decode cX0_ask 41 = .ok (.iload 4, 2) := by decide +kernel
theorem dX0_ask_43 : decode cX0_ask 43 = .ok (.iconst 2, 1) := by decide +kernel
theorem dX0_ask_44 : decode cX0_ask 44 = .ok (.if_icmp .lt 10, 3) := by decide +kernel
theorem dX0_ask_47 : decode cX0_ask 47 = .ok (.iload 4, 2) := by decide +kernel
theorem dX0_ask_49 : decode cX0_ask 49 = .ok (.bipush 40, 2) := by decide +kernel
theorem dX0_ask_51 : decode cX0_ask 51 = .ok (.if_icmp .lt 5, 3) := by decide +kernel
theorem dX0_ask_54 : decode cX0_ask 54 = .ok (.iconst 0, 1) := by decide +kernel
theorem dX0_ask_55 : decode cX0_ask 55 = .ok (.ireturn, 1) := by decide +kernel
theorem dX0_ask_56 : decode cX0_ask 56 = .ok (.aload_n 1, 1) := by decide +kernel
theorem dX0_ask_57 : decode cX0_ask 57 = .ok (.getfield 68, 3) := by decide +kernel
theorem dX0_ask_60 : decode cX0_ask 60 = .ok (.iload 5, 2) := by decide +kernel
theorem dX0_ask_62 : decode cX0_ask 62 = .ok (.iaload, 1) := by decide +kernel
theorem dX0_ask_63 : decode cX0_ask 63 = .ok (.bipush 15, 2) := by decide +kernel
theorem dX0_ask_65 : decode cX0_ask 65 = .ok (.iand, 1) := by decide +kernel
theorem dX0_ask_66 : decode cX0_ask 66 = .ok (.istore 7, 2) := by decide +kernel
theorem dX0_ask_68 : decode cX0_ask 68 = .ok (.aload_n 1, 1) := by decide +kernel
theorem dX0_ask_69 : decode cX0_ask 69 = .ok (.getfield 68, 3) := by decide +kernel
theorem dX0_ask_72 : decode cX0_ask 72 = .ok (.iload 5, 2) := by decide +kernel
theorem dX0_ask_74 : decode cX0_ask 74 = .ok (.iaload, 1) := by decide +kernel
theorem dX0_ask_75 : decode cX0_ask 75 = .ok (.iconst 4, 1) := by decide +kernel
theorem dX0_ask_76 : decode cX0_ask 76 = .ok (.ishr, 1) := by decide +kernel
theorem dX0_ask_77 : decode cX0_ask 77 = .ok (.istore 8, 2) := by decide +kernel
theorem dX0_ask_79 : decode cX0_ask 79 = .ok (.iinc 5 1, 3) := by decide +kernel
theorem dX0_ask_82 : decode cX0_ask 82 = .ok (.iload 7, 2) := by decide +kernel
theorem dX0_ask_84 : decode cX0_ask 84 = .ok (.tableswitch 169 0 6 #[44, 50, 66, 81, 101, 124, 124], 44) := by decide +kernel
theorem dX0_ask_128 : decode cX0_ask 128 = .ok (.iload 8, 2) := by decide +kernel
theorem dX0_ask_130 : decode cX0_ask 130 = .ok (.istore_n 3, 1) := by decide +kernel
theorem dX0_ask_131 : decode cX0_ask 131 = .ok (.goto 190, 3) := by decide +kernel
theorem dX0_ask_134 : decode cX0_ask 134 = .ok (.iinc 4 (-1), 3) := by decide +kernel
theorem dX0_ask_137 : decode cX0_ask 137 = .ok (.aload_n 0, 1) := by decide +kernel
theorem dX0_ask_138 : decode cX0_ask 138 = .ok (.getfield 11, 3) := by decide +kernel
theorem dX0_ask_141 : decode cX0_ask 141 = .ok (.iload 4, 2) := by decide +kernel
theorem dX0_ask_143 : decode cX0_ask 143 = .ok (.iaload, 1) := by decide +kernel
theorem dX0_ask_144 : decode cX0_ask 144 = .ok (.ifCond .eq 177, 3) := by decide +kernel
theorem dX0_ask_147 : decode cX0_ask 147 = .ok (.iload 8, 2) := by decide +kernel
theorem dX0_ask_149 : decode cX0_ask 149 = .ok (.ireturn, 1) := by decide +kernel
theorem dX0_ask_150 : decode cX0_ask 150 = .ok (.aload_n 0, 1) := by decide +kernel
theorem dX0_ask_151 : decode cX0_ask 151 = .ok (.getfield 11, 3) := by decide +kernel
theorem dX0_ask_154 : decode cX0_ask 154 = .ok (.iload 4, 2) := by decide +kernel
theorem dX0_ask_156 : decode cX0_ask 156 = .ok (.iload 8, 2) := by decide +kernel
theorem dX0_ask_158 : decode cX0_ask 158 = .ok (.iastore, 1) := by decide +kernel
theorem dX0_ask_159 : decode cX0_ask 159 = .ok (.iinc 4 1, 3) := by decide +kernel
theorem dX0_ask_162 : decode cX0_ask 162 = .ok (.goto 159, 3) := by decide +kernel
theorem dX0_ask_165 : decode cX0_ask 165 = .ok (.aload_n 0, 1) := by decide +kernel
theorem dX0_ask_166 : decode cX0_ask 166 = .ok (.getfield 11, 3) := by decide +kernel
theorem dX0_ask_169 : decode cX0_ask 169 = .ok (.iload 4, 2) := by decide +kernel
theorem dX0_ask_171 : decode cX0_ask 171 = .ok (.aload_n 0, 1) := by decide +kernel
theorem dX0_ask_172 : decode cX0_ask 172 = .ok (.iload 8, 2) := by decide +kernel
theorem dX0_ask_174 : decode cX0_ask 174 = .ok (.iload_n 2, 1) := by decide +kernel
theorem dX0_ask_175 : decode cX0_ask 175 = .ok (.invokevirtual 71, 3) := by decide +kernel
theorem dX0_ask_178 : decode cX0_ask 178 = .ok (.iastore, 1) := by decide +kernel
theorem dX0_ask_179 : decode cX0_ask 179 = .ok (.iinc 4 1, 3) := by decide +kernel
theorem dX0_ask_182 : decode cX0_ask 182 = .ok (.goto 139, 3) := by decide +kernel
theorem dX0_ask_185 : decode cX0_ask 185 = .ok (.aload_n 0, 1) := by decide +kernel
theorem dX0_ask_186 : decode cX0_ask 186 = .ok (.getfield 11, 3) := by decide +kernel
theorem dX0_ask_189 : decode cX0_ask 189 = .ok (.iload 4, 2) := by decide +kernel
theorem dX0_ask_191 : decode cX0_ask 191 = .ok (.iconst 1, 1) := by decide +kernel
theorem dX0_ask_192 : decode cX0_ask 192 = .ok (.isub, 1) := by decide +kernel
theorem dX0_ask_193 : decode cX0_ask 193 = .ok (.iconst 1, 1) := by decide +kernel
theorem dX0_ask_194 : decode cX0_ask 194 = .ok (.aload_n 0, 1) := by decide +kernel
theorem dX0_ask_195 : decode cX0_ask 195 = .ok (.getfield 11, 3) := by decide +kernel
theorem dX0_ask_198 : decode cX0_ask 198 = .ok (.iload 4, 2) := by decide +kernel
theorem dX0_ask_200 : decode cX0_ask 200 = .ok (.iconst 1, 1) := by decide +kernel
theorem dX0_ask_201 : decode cX0_ask 201 = .ok (.isub, 1) := by decide +kernel
theorem dX0_ask_202 : decode cX0_ask 202 = .ok (.iaload, 1) := by decide +kernel
theorem dX0_ask_203 : decode cX0_ask 203 = .ok (.isub, 1) := by decide +kernel
theorem dX0_ask_204 : decode cX0_ask 204 = .ok (.iastore, 1) := by decide +kernel
theorem dX0_ask_205 : decode cX0_ask 205 = .ok (.goto 116, 3) := by decide +kernel
theorem dX0_ask_208 : decode cX0_ask 208 = .ok (.aload_n 0, 1) := by decide +kernel
theorem dX0_ask_209 : decode cX0_ask 209 = .ok (.getfield 11, 3) := by decide +kernel
theorem dX0_ask_212 : decode cX0_ask 212 = .ok (.iload 4, 2) := by decide +kernel
theorem dX0_ask_214 : decode cX0_ask 214 = .ok (.iconst 1, 1) := by decide +kernel
theorem dX0_ask_215 : decode cX0_ask 215 = .ok (.isub, 1) := by decide +kernel
theorem dX0_ask_216 : decode cX0_ask 216 = .ok (.iaload, 1) := by decide +kernel
theorem dX0_ask_217 : decode cX0_ask 217 = .ok (.ifCond .eq 7, 3) := by decide +kernel
theorem dX0_ask_220 : decode cX0_ask 220 = .ok (.iconst 1, 1) := by decide +kernel
theorem dX0_ask_221 : decode cX0_ask 221 = .ok (.goto 4, 3) := by decide +kernel
theorem dX0_ask_224 : decode cX0_ask 224 = .ok (.iconst 0, 1) := by decide +kernel
theorem dX0_ask_225 : decode cX0_ask 225 = .ok (.iload 7, 2) := by decide +kernel
theorem dX0_ask_227 : decode cX0_ask 227 = .ok (.bipush 6, 2) := by decide +kernel
theorem dX0_ask_229 : decode cX0_ask 229 = .ok (.if_icmp .ne 7, 3) := by decide +kernel
theorem dX0_ask_232 : decode cX0_ask 232 = .ok (.iconst 1, 1) := by decide +kernel
theorem dX0_ask_233 : decode cX0_ask 233 = .ok (.goto 4, 3) := by decide +kernel
theorem dX0_ask_236 : decode cX0_ask 236 = .ok (.iconst 0, 1) := by decide +kernel
theorem dX0_ask_237 : decode cX0_ask 237 = .ok (.if_icmp .ne 10, 3) := by decide +kernel
theorem dX0_ask_240 : decode cX0_ask 240 = .ok (.iload 8, 2) := by decide +kernel
theorem dX0_ask_242 : decode cX0_ask 242 = .ok (.istore 5, 2) := by decide +kernel
theorem dX0_ask_244 : decode cX0_ask 244 = .ok (.goto 77, 3) := by decide +kernel
theorem dX0_ask_247 : decode cX0_ask 247 = .ok (.iinc 4 (-1), 3) := by decide +kernel
theorem dX0_ask_250 : decode cX0_ask 250 = .ok (.goto 71, 3) := by decide +kernel
theorem dX0_ask_253 : decode cX0_ask 253 = .ok (.aload_n 0, 1) := by decide +kernel
theorem dX0_ask_254 : decode cX0_ask 254 = .ok (.getfield 11, 3) := by decide +kernel
theorem dX0_ask_257 : decode cX0_ask 257 = .ok (.iload 4, 2) := by decide +kernel
theorem dX0_ask_259 : decode cX0_ask 259 = .ok (.iconst 1, 1) := by decide +kernel
theorem dX0_ask_260 : decode cX0_ask 260 = .ok (.isub, 1) := by decide +kernel
theorem dX0_ask_261 : decode cX0_ask 261 = .ok (.iaload, 1) := by decide +kernel
theorem dX0_ask_262 : decode cX0_ask 262 = .ok (.ifCond .ne 26, 3) := by decide +kernel
theorem dX0_ask_265 : decode cX0_ask 265 = .ok (.iload 7, 2) := by decide +kernel
theorem dX0_ask_267 : decode cX0_ask 267 = .ok (.bipush 10, 2) := by decide +kernel
theorem dX0_ask_269 : decode cX0_ask 269 = .ok (.if_icmp .eq 10, 3) := by decide +kernel
theorem dX0_ask_272 : decode cX0_ask 272 = .ok (.iload 7, 2) := by decide +kernel
theorem dX0_ask_274 : decode cX0_ask 274 = .ok (.bipush 11, 2) := by decide +kernel
theorem dX0_ask_276 : decode cX0_ask 276 = .ok (.if_icmp .ne 12, 3) := by decide +kernel
theorem dX0_ask_279 : decode cX0_ask 279 = .ok (.iload_n 3, 1) := by decide +kernel
theorem dX0_ask_280 : decode cX0_ask 280 = .ok (.istore 5, 2) := by decide +kernel
theorem dX0_ask_282 : decode cX0_ask 282 = .ok (.iconst 2, 1) := by decide +kernel
theorem dX0_ask_283 : decode cX0_ask 283 = .ok (.istore 4, 2) := by decide +kernel
theorem dX0_ask_285 : decode cX0_ask 285 = .ok (.goto 36, 3) := by decide +kernel
theorem dX0_ask_288 : decode cX0_ask 288 = .ok (.iinc 4 (-1), 3) := by decide +kernel
theorem dX0_ask_291 : decode cX0_ask 291 = .ok (.aload_n 0, 1) := by decide +kernel
theorem dX0_ask_292 : decode cX0_ask 292 = .ok (.getfield 11, 3) := by decide +kernel
theorem dX0_ask_295 : decode cX0_ask 295 = .ok (.iload 4, 2) := by decide +kernel
theorem dX0_ask_297 : decode cX0_ask 297 = .ok (.iconst 1, 1) := by decide +kernel
theorem dX0_ask_298 : decode cX0_ask 298 = .ok (.isub, 1) := by decide +kernel
theorem dX0_ask_299 : decode cX0_ask 299 = .ok (.iload 7, 2) := by decide +kernel
theorem dX0_ask_301 : decode cX0_ask 301 = .ok (.aload_n 0, 1) := by decide +kernel
theorem dX0_ask_302 : decode cX0_ask 302 = .ok (.getfield 11, 3) := by decide +kernel
theorem dX0_ask_305 : decode cX0_ask 305 = .ok (.iload 4, 2) := by decide +kernel
theorem dX0_ask_307 : decode cX0_ask 307 = .ok (.iconst 1, 1) := by decide +kernel
theorem dX0_ask_308 : decode cX0_ask 308 = .ok (.isub, 1) := by decide +kernel
theorem dX0_ask_309 : decode cX0_ask 309 = .ok (.iaload, 1) := by decide +kernel
theorem dX0_ask_310 : decode cX0_ask 310 = .ok (.aload_n 0, 1) := by decide +kernel
theorem dX0_ask_311 : decode cX0_ask 311 = .ok (.getfield 11, 3) := by decide +kernel
theorem dX0_ask_314 : decode cX0_ask 314 = .ok (.iload 4, 2) := by decide +kernel
theorem dX0_ask_316 : decode cX0_ask 316 = .ok (.iaload, 1) := by decide +kernel
theorem dX0_ask_317 : decode cX0_ask 317 = .ok (.invokestatic 75, 3) := by decide +kernel
theorem dX0_ask_320 : decode cX0_ask 320 = .ok (.iastore, 1) := by decide +kernel
theorem dX0_ask_321 : decode cX0_ask 321 = .ok (.iinc 6 1, 3) := by decide +kernel
theorem dX0_ask_324 : decode cX0_ask 324 = .ok (.goto (-313), 3) := by decide +kernel
theorem dX0_ask_327 : decode cX0_ask 327 = .ok (.iconst 0, 1) := by decide +kernel
theorem dX0_ask_328 : decode cX0_ask 328 = .ok (.ireturn, 1) := by decide +kernel
theorem dX0_reckon_0 : decode cX0_reckon 0 = .ok (.iload_n 0, 1) := by decide +kernel
theorem dX0_reckon_1 : decode cX0_reckon 1 = .ok (.tableswitch 101 7 13 #[43, 47, 51, 55, 67, 79, 90], 43) := by decide +kernel
theorem dX0_reckon_44 : decode cX0_reckon 44 = .ok (.iload_n 1, 1) := by decide +kernel
theorem dX0_reckon_45 : decode cX0_reckon 45 = .ok (.iload_n 2, 1) := by decide +kernel
theorem dX0_reckon_46 : decode cX0_reckon 46 = .ok (.iadd, 1) := by decide +kernel
theorem dX0_reckon_47 : decode cX0_reckon 47 = .ok (.ireturn, 1) := by decide +kernel
theorem dX0_reckon_48 : decode cX0_reckon 48 = .ok (.iload_n 1, 1) := by decide +kernel
theorem dX0_reckon_49 : decode cX0_reckon 49 = .ok (.iload_n 2, 1) := by decide +kernel
theorem dX0_reckon_50 : decode cX0_reckon 50 = .ok (.isub, 1) := by decide +kernel
theorem dX0_reckon_51 : decode cX0_reckon 51 = .ok (.ireturn, 1) := by decide +kernel
theorem dX0_reckon_52 : decode cX0_reckon 52 = .ok (.iload_n 1, 1) := by decide +kernel
theorem dX0_reckon_53 : decode cX0_reckon 53 = .ok (.iload_n 2, 1) := by decide +kernel
theorem dX0_reckon_54 : decode cX0_reckon 54 = .ok (.imul, 1) := by decide +kernel
theorem dX0_reckon_55 : decode cX0_reckon 55 = .ok (.ireturn, 1) := by decide +kernel
theorem dX0_reckon_56 : decode cX0_reckon 56 = .ok (.iload_n 2, 1) := by decide +kernel
theorem dX0_reckon_57 : decode cX0_reckon 57 = .ok (.ifCond .ne 7, 3) := by decide +kernel
theorem dX0_reckon_60 : decode cX0_reckon 60 = .ok (.iconst 0, 1) := by decide +kernel
theorem dX0_reckon_61 : decode cX0_reckon 61 = .ok (.goto 6, 3) := by decide +kernel
theorem dX0_reckon_64 : decode cX0_reckon 64 = .ok (.iload_n 1, 1) := by decide +kernel
theorem dX0_reckon_65 : decode cX0_reckon 65 = .ok (.iload_n 2, 1) := by decide +kernel
theorem dX0_reckon_66 : decode cX0_reckon 66 = .ok (.idiv, 1) := by decide +kernel
theorem dX0_reckon_67 : decode cX0_reckon 67 = .ok (.ireturn, 1) := by decide +kernel
theorem dX0_reckon_68 : decode cX0_reckon 68 = .ok (.iload_n 2, 1) := by decide +kernel
theorem dX0_reckon_69 : decode cX0_reckon 69 = .ok (.ifCond .ne 7, 3) := by decide +kernel
theorem dX0_reckon_72 : decode cX0_reckon 72 = .ok (.iconst 0, 1) := by decide +kernel
theorem dX0_reckon_73 : decode cX0_reckon 73 = .ok (.goto 6, 3) := by decide +kernel
theorem dX0_reckon_76 : decode cX0_reckon 76 = .ok (.iload_n 1, 1) := by decide +kernel
theorem dX0_reckon_77 : decode cX0_reckon 77 = .ok (.iload_n 2, 1) := by decide +kernel
theorem dX0_reckon_78 : decode cX0_reckon 78 = .ok (.irem, 1) := by decide +kernel
theorem dX0_reckon_79 : decode cX0_reckon 79 = .ok (.ireturn, 1) := by decide +kernel
theorem dX0_reckon_80 : decode cX0_reckon 80 = .ok (.iload_n 1, 1) := by decide +kernel
theorem dX0_reckon_81 : decode cX0_reckon 81 = .ok (.iload_n 2, 1) := by decide +kernel
theorem dX0_reckon_82 : decode cX0_reckon 82 = .ok (.if_icmp .ge 7, 3) := by decide +kernel
theorem dX0_reckon_85 : decode cX0_reckon 85 = .ok (.iconst 1, 1) := by decide +kernel
theorem dX0_reckon_86 : decode cX0_reckon 86 = .ok (.goto 4, 3) := by decide +kernel
theorem dX0_reckon_89 : decode cX0_reckon 89 = .ok (.iconst 0, 1) := by decide +kernel
theorem dX0_reckon_90 : decode cX0_reckon 90 = .ok (.ireturn, 1) := by decide +kernel
theorem dX0_reckon_91 : decode cX0_reckon 91 = .ok (.iload_n 1, 1) := by decide +kernel
theorem dX0_reckon_92 : decode cX0_reckon 92 = .ok (.iload_n 2, 1) := by decide +kernel
theorem dX0_reckon_93 : decode cX0_reckon 93 = .ok (.if_icmp .le 7, 3) := by decide +kernel
theorem dX0_reckon_96 : decode cX0_reckon 96 = .ok (.iconst 1, 1) := by decide +kernel
theorem dX0_reckon_97 : decode cX0_reckon 97 = .ok (.goto 4, 3) := by decide +kernel
theorem dX0_reckon_100 : decode cX0_reckon 100 = .ok (.iconst 0, 1) := by decide +kernel
theorem dX0_reckon_101 : decode cX0_reckon 101 = .ok (.ireturn, 1) := by decide +kernel
theorem dX0_reckon_102 : decode cX0_reckon 102 = .ok (.iload_n 1, 1) := by decide +kernel
theorem dX0_reckon_103 : decode cX0_reckon 103 = .ok (.iload_n 2, 1) := by decide +kernel
theorem dX0_reckon_104 : decode cX0_reckon 104 = .ok (.if_icmp .ne 7, 3) := by decide +kernel
theorem dX0_reckon_107 : decode cX0_reckon 107 = .ok (.iconst 1, 1) := by decide +kernel
theorem dX0_reckon_108 : decode cX0_reckon 108 = .ok (.goto 4, 3) := by decide +kernel
theorem dX0_reckon_111 : decode cX0_reckon 111 = .ok (.iconst 0, 1) := by decide +kernel
theorem dX0_reckon_112 : decode cX0_reckon 112 = .ok (.ireturn, 1) := by decide +kernel
theorem dX0_letter_0 : decode cX0_letter 0 = .ok (.iload_n 2, 1) := by decide +kernel
theorem dX0_letter_1 : decode cX0_letter 1 = .ok (.ifCond .lt 9, 3) := by decide +kernel
theorem dX0_letter_4 : decode cX0_letter 4 = .ok (.iload_n 2, 1) := by decide +kernel
theorem dX0_letter_5 : decode cX0_letter 5 = .ok (.bipush 24, 2) := by decide +kernel
theorem dX0_letter_7 : decode cX0_letter 7 = .ok (.if_icmp .lt 5, 3) := by decide +kernel
theorem dX0_letter_10 : decode cX0_letter 10 = .ok (.iconst 0, 1) := by decide +kernel
theorem dX0_letter_11 : decode cX0_letter 11 = .ok (.ireturn, 1) := by decide +kernel
theorem dX0_letter_12 : decode cX0_letter 12 = .ok (.aload_n 0, 1) := by decide +kernel
theorem dX0_letter_13 : decode cX0_letter 13 = .ok (.getfield 18, 3) := by decide +kernel
theorem dX0_letter_16 : decode cX0_letter 16 = .ok (.getfield 79, 3) := by decide +kernel
theorem dX0_letter_19 : decode cX0_letter 19 = .ok (.iload_n 2, 1) := by decide +kernel
theorem dX0_letter_20 : decode cX0_letter 20 = .ok (.ishr, 1) := by decide +kernel
theorem dX0_letter_21 : decode cX0_letter 21 = .ok (.iconst 1, 1) := by decide +kernel
theorem dX0_letter_22 : decode cX0_letter 22 = .ok (.iand, 1) := by decide +kernel
theorem dX0_letter_23 : decode cX0_letter 23 = .ok (.istore_n 3, 1) := by decide +kernel
theorem dX0_letter_24 : decode cX0_letter 24 = .ok (.iload_n 1, 1) := by decide +kernel
theorem dX0_letter_25 : decode cX0_letter 25 = .ok (.tableswitch 265 97 122 #[165, 173, 265, 265, 265, 265, 119, 265, 265, 265, 265, 192, 265, 135, 265, 181, 239, 265, 219, 214, 265, 265, 221, 265, 265, 150], 119) := by decide +kernel
theorem dX0_letter_144 : decode cX0_letter 144 = .ok (.iload_n 3, 1) := by decide +kernel
theorem dX0_letter_145 : decode cX0_letter 145 = .ok (.ifCond .eq 10, 3) := by decide +kernel
theorem dX0_letter_148 : decode cX0_letter 148 = .ok (.aload_n 0, 1) := by decide +kernel
theorem dX0_letter_149 : decode cX0_letter 149 = .ok (.getfield 38, 3) := by decide +kernel
theorem dX0_letter_152 : decode cX0_letter 152 = .ok (.goto 7, 3) := by decide +kernel
theorem dX0_letter_155 : decode cX0_letter 155 = .ok (.aload_n 0, 1) := by decide +kernel
theorem dX0_letter_156 : decode cX0_letter 156 = .ok (.getfield 44, 3) := by decide +kernel
theorem dX0_letter_159 : decode cX0_letter 159 = .ok (.ireturn, 1) := by decide +kernel
theorem dX0_letter_160 : decode cX0_letter 160 = .ok (.aload_n 0, 1) := by decide +kernel
theorem dX0_letter_161 : decode cX0_letter 161 = .ok (.getfield 47, 3) := by decide +kernel
theorem dX0_letter_164 : decode cX0_letter 164 = .ok (.aload_n 0, 1) := by decide +kernel
theorem dX0_letter_165 : decode cX0_letter 165 = .ok (.getfield 15, 3) := by decide +kernel
theorem dX0_letter_168 : decode cX0_letter 168 = .ok (.iload_n 2, 1) := by decide +kernel
theorem dX0_letter_169 : decode cX0_letter 169 = .ok (.iaload, 1) := by decide +kernel
theorem dX0_letter_170 : decode cX0_letter 170 = .ok (.iand, 1) := by decide +kernel
theorem dX0_letter_171 : decode cX0_letter 171 = .ok (.invokestatic 82, 3) := by decide +kernel
theorem dX0_letter_174 : decode cX0_letter 174 = .ok (.ireturn, 1) := by decide +kernel
theorem dX0_letter_175 : decode cX0_letter 175 = .ok (.aload_n 0, 1) := by decide +kernel
theorem dX0_letter_176 : decode cX0_letter 176 = .ok (.getfield 50, 3) := by decide +kernel
theorem dX0_letter_179 : decode cX0_letter 179 = .ok (.aload_n 0, 1) := by decide +kernel
theorem dX0_letter_180 : decode cX0_letter 180 = .ok (.getfield 15, 3) := by decide +kernel
theorem dX0_letter_183 : decode cX0_letter 183 = .ok (.iload_n 2, 1) := by decide +kernel
theorem dX0_letter_184 : decode cX0_letter 184 = .ok (.iaload, 1) := by decide +kernel
theorem dX0_letter_185 : decode cX0_letter 185 = .ok (.iand, 1) := by decide +kernel
theorem dX0_letter_186 : decode cX0_letter 186 = .ok (.invokestatic 82, 3) := by decide +kernel
theorem dX0_letter_189 : decode cX0_letter 189 = .ok (.ireturn, 1) := by decide +kernel
theorem dX0_letter_190 : decode cX0_letter 190 = .ok (.aload_n 0, 1) := by decide +kernel
theorem dX0_letter_191 : decode cX0_letter 191 = .ok (.getfield 47, 3) := by decide +kernel
theorem dX0_letter_194 : decode cX0_letter 194 = .ok (.invokestatic 82, 3) := by decide +kernel
theorem dX0_letter_197 : decode cX0_letter 197 = .ok (.ireturn, 1) := by decide +kernel
theorem dX0_letter_198 : decode cX0_letter 198 = .ok (.aload_n 0, 1) := by decide +kernel
theorem dX0_letter_199 : decode cX0_letter 199 = .ok (.getfield 50, 3) := by decide +kernel
theorem dX0_letter_202 : decode cX0_letter 202 = .ok (.invokestatic 82, 3) := by decide +kernel
theorem dX0_letter_205 : decode cX0_letter 205 = .ok (.ireturn, 1) := by decide +kernel
theorem dX0_letter_206 : decode cX0_letter 206 = .ok (.aload_n 0, 1) := by decide +kernel
theorem dX0_letter_207 : decode cX0_letter 207 = .ok (.getfield 18, 3) := by decide +kernel
theorem dX0_letter_210 : decode cX0_letter 210 = .ok (.getfield 88, 3) := by decide +kernel
theorem dX0_letter_213 : decode cX0_letter 213 = .ok (.invokestatic 82, 3) := by decide +kernel
theorem dX0_letter_216 : decode cX0_letter 216 = .ok (.ireturn, 1) := by decide +kernel
theorem dX0_letter_217 : decode cX0_letter 217 = .ok (.aload_n 0, 1) := by decide +kernel
theorem dX0_letter_218 : decode cX0_letter 218 = .ok (.getfield 47, 3) := by decide +kernel
theorem dX0_letter_221 : decode cX0_letter 221 = .ok (.iload_n 2, 1) := by decide +kernel
theorem dX0_letter_222 : decode cX0_letter 222 = .ok (.ishr, 1) := by decide +kernel
theorem dX0_letter_223 : decode cX0_letter 223 = .ok (.iconst 1, 1) := by decide +kernel
theorem dX0_letter_224 : decode cX0_letter 224 = .ok (.iand, 1) := by decide +kernel
theorem dX0_letter_225 : decode cX0_letter 225 = .ok (.iconst 1, 1) := by decide +kernel
theorem dX0_letter_226 : decode cX0_letter 226 = .ok (.imul, 1) := by decide +kernel
theorem dX0_letter_227 : decode cX0_letter 227 = .ok (.aload_n 0, 1) := by decide +kernel
theorem dX0_letter_228 : decode cX0_letter 228 = .ok (.getfield 50, 3) := by decide +kernel
theorem dX0_letter_231 : decode cX0_letter 231 = .ok (.iload_n 2, 1) := by decide +kernel
theorem dX0_letter_232 : decode cX0_letter 232 = .ok (.ishr, 1) := by decide +kernel
theorem dX0_letter_233 : decode cX0_letter 233 = .ok (.iconst 1, 1) := by decide +kernel
theorem dX0_letter_234 : decode cX0_letter 234 = .ok (.iand, 1) := by decide +kernel
theorem dX0_letter_235 : decode cX0_letter 235 = .ok (.iconst 2, 1) := by decide +kernel
theorem dX0_letter_236 : decode cX0_letter 236 = .ok (.imul, 1) := by decide +kernel
theorem dX0_letter_237 : decode cX0_letter 237 = .ok (.iadd, 1) := by decide +kernel
theorem dX0_letter_238 : decode cX0_letter 238 = .ok (.ireturn, 1) := by decide +kernel
theorem dX0_letter_239 : decode cX0_letter 239 = .ok (.aload_n 0, 1) := by decide +kernel
theorem dX0_letter_240 : decode cX0_letter 240 = .ok (.getfield 25, 3) := by decide +kernel
theorem dX0_letter_243 : decode cX0_letter 243 = .ok (.ireturn, 1) := by decide +kernel
theorem dX0_letter_244 : decode cX0_letter 244 = .ok (.iload_n 2, 1) := by decide +kernel
theorem dX0_letter_245 : decode cX0_letter 245 = .ok (.ireturn, 1) := by decide +kernel
theorem dX0_letter_246 : decode cX0_letter 246 = .ok (.aload_n 0, 1) := by decide +kernel
theorem dX0_letter_247 : decode cX0_letter 247 = .ok (.getfield 53, 3) := by decide +kernel
theorem dX0_letter_250 : decode cX0_letter 250 = .ok (.ifCond .le 12, 3) := by decide +kernel
theorem dX0_letter_253 : decode cX0_letter 253 = .ok (.iload_n 2, 1) := by decide +kernel
theorem dX0_letter_254 : decode cX0_letter 254 = .ok (.aload_n 0, 1) := by decide +kernel
theorem dX0_letter_255 : decode cX0_letter 255 = .ok (.getfield 53, 3) := by decide +kernel
theorem dX0_letter_258 : decode cX0_letter 258 = .ok (.idiv, 1) := by decide +kernel
theorem dX0_letter_259 : decode cX0_letter 259 = .ok (.goto 4, 3) := by decide +kernel
theorem dX0_letter_262 : decode cX0_letter 262 = .ok (.iconst 0, 1) := by decide +kernel
theorem dX0_letter_263 : decode cX0_letter 263 = .ok (.ireturn, 1) := by decide +kernel
theorem dX0_letter_264 : decode cX0_letter 264 = .ok (.aload_n 0, 1) := by decide +kernel
theorem dX0_letter_265 : decode cX0_letter 265 = .ok (.getfield 18, 3) := by decide +kernel
theorem dX0_letter_268 : decode cX0_letter 268 = .ok (.getfield 91, 3) := by decide +kernel
theorem dX0_letter_271 : decode cX0_letter 271 = .ok (.aload_n 0, 1) := by decide +kernel
theorem dX0_letter_272 : decode cX0_letter 272 = .ok (.getfield 18, 3) := by decide +kernel
theorem dX0_letter_275 : decode cX0_letter 275 = .ok (.getfield 94, 3) := by decide +kernel
theorem dX0_letter_278 : decode cX0_letter 278 = .ok (.ior, 1) := by decide +kernel
theorem dX0_letter_279 : decode cX0_letter 279 = .ok (.aload_n 0, 1) := by decide +kernel
theorem dX0_letter_280 : decode cX0_letter 280 = .ok (.getfield 15, 3) := by decide +kernel
theorem dX0_letter_283 : decode cX0_letter 283 = .ok (.iload_n 2, 1) := by decide +kernel
theorem dX0_letter_284 : decode cX0_letter 284 = .ok (.iaload, 1) := by decide +kernel
theorem dX0_letter_285 : decode cX0_letter 285 = .ok (.iand, 1) := by decide +kernel
theorem dX0_letter_286 : decode cX0_letter 286 = .ok (.invokestatic 82, 3) := by decide +kernel
theorem dX0_letter_289 : decode cX0_letter 289 = .ok (.ireturn, 1) := by decide +kernel
theorem dX0_letter_290 : decode cX0_letter 290 = .ok (.iload_n 3, 1) := by decide +kernel
theorem dX0_letter_291 : decode cX0_letter 291 = .ok (.ireturn, 1) := by decide +kernel
theorem dX1_init_0 : decode cX1_init 0 = .ok (.aload_n 0, 1) := by decide +kernel
theorem dX1_init_1 : decode cX1_init 1 = .ok (.invokespecial 3, 3) := by decide +kernel
theorem dX1_init_4 : decode cX1_init 4 = .ok (.aload_n 0, 1) := by decide +kernel
theorem dX1_init_5 : decode cX1_init 5 = .ok (.iconst 1, 1) := by decide +kernel
theorem dX1_init_6 : decode cX1_init 6 = .ok (.putfield 9, 3) := by decide +kernel
theorem dX1_init_9 : decode cX1_init 9 = .ok (.aload_n 0, 1) := by decide +kernel
theorem dX1_init_10 : decode cX1_init 10 = .ok (.bipush 40, 2) := by decide +kernel
theorem dX1_init_12 : decode cX1_init 12 = .ok (.newarray .int, 2) := by decide +kernel
theorem dX1_init_14 : decode cX1_init 14 = .ok (.putfield 15, 3) := by decide +kernel
theorem dX1_init_17 : decode cX1_init 17 = .ok (.aload_n 0, 1) := by decide +kernel
theorem dX1_init_18 : decode cX1_init 18 = .ok (.bipush 40, 2) := by decide +kernel
theorem dX1_init_20 : decode cX1_init 20 = .ok (.newarray .int, 2) := by decide +kernel
theorem dX1_init_22 : decode cX1_init 22 = .ok (.putfield 19, 3) := by decide +kernel
theorem dX1_init_25 : decode cX1_init 25 = .ok (.return_, 1) := by decide +kernel
theorem dX1_goodForKnowing_0 : decode cX1_goodForKnowing 0 = .ok (.iconst 0, 1) := by decide +kernel
theorem dX1_goodForKnowing_1 : decode cX1_goodForKnowing 1 = .ok (.istore_n 1, 1) := by decide +kernel
theorem dX1_goodForKnowing_2 : decode cX1_goodForKnowing 2 = .ok (.iconst 0, 1) := by decide +kernel
theorem dX1_goodForKnowing_3 : decode cX1_goodForKnowing 3 = .ok (.istore_n 2, 1) := by decide +kernel
theorem dX1_goodForKnowing_4 : decode cX1_goodForKnowing 4 = .ok (.iload_n 2, 1) := by decide +kernel
theorem dX1_goodForKnowing_5 : decode cX1_goodForKnowing 5 = .ok (.aload_n 0, 1) := by decide +kernel
theorem dX1_goodForKnowing_6 : decode cX1_goodForKnowing 6 = .ok (.getfield 9, 3) := by decide +kernel
theorem dX1_goodForKnowing_9 : decode cX1_goodForKnowing 9 = .ok (.if_icmp .ge 24, 3) := by decide +kernel
theorem dX1_goodForKnowing_12 : decode cX1_goodForKnowing 12 = .ok (.iload_n 2, 1) := by decide +kernel
theorem dX1_goodForKnowing_13 : decode cX1_goodForKnowing 13 = .ok (.bipush 40, 2) := by decide +kernel
theorem dX1_goodForKnowing_15 : decode cX1_goodForKnowing 15 = .ok (.if_icmp .ge 18, 3) := by decide +kernel
theorem dX1_goodForKnowing_18 : decode cX1_goodForKnowing 18 = .ok (.iload_n 1, 1) := by decide +kernel
theorem dX1_goodForKnowing_19 : decode cX1_goodForKnowing 19 = .ok (.aload_n 0, 1) := by decide +kernel
theorem dX1_goodForKnowing_20 : decode cX1_goodForKnowing 20 = .ok (.getfield 15, 3) := by decide +kernel
theorem dX1_goodForKnowing_23 : decode cX1_goodForKnowing 23 = .ok (.iload_n 2, 1) := by decide +kernel
theorem dX1_goodForKnowing_24 : decode cX1_goodForKnowing 24 = .ok (.iaload, 1) := by decide +kernel
theorem dX1_goodForKnowing_25 : decode cX1_goodForKnowing 25 = .ok (.iadd, 1) := by decide +kernel
theorem dX1_goodForKnowing_26 : decode cX1_goodForKnowing 26 = .ok (.istore_n 1, 1) := by decide +kernel
theorem dX1_goodForKnowing_27 : decode cX1_goodForKnowing 27 = .ok (.iinc 2 1, 3) := by decide +kernel
theorem dX1_goodForKnowing_30 : decode cX1_goodForKnowing 30 = .ok (.goto (-26), 3) := by decide +kernel
theorem dX1_goodForKnowing_33 : decode cX1_goodForKnowing 33 = .ok (.iload_n 1, 1) := by decide +kernel
theorem dX1_goodForKnowing_34 : decode cX1_goodForKnowing 34 = .ok (.ireturn, 1) := by decide +kernel
theorem dX1_copy_0 : decode cX1_copy 0 = .ok (.aload_n 0, 1) := by decide +kernel
theorem dX1_copy_1 : decode cX1_copy 1 = .ok (.aload_n 1, 1) := by decide +kernel
theorem dX1_copy_2 : decode cX1_copy 2 = .ok (.getfield 9, 3) := by decide +kernel
theorem dX1_copy_5 : decode cX1_copy 5 = .ok (.putfield 9, 3) := by decide +kernel
theorem dX1_copy_8 : decode cX1_copy 8 = .ok (.aload_n 1, 1) := by decide +kernel
theorem dX1_copy_9 : decode cX1_copy 9 = .ok (.getfield 15, 3) := by decide +kernel
theorem dX1_copy_12 : decode cX1_copy 12 = .ok (.iconst 0, 1) := by decide +kernel
theorem dX1_copy_13 : decode cX1_copy 13 = .ok (.aload_n 0, 1) := by decide +kernel
theorem dX1_copy_14 : decode cX1_copy 14 = .ok (.getfield 15, 3) := by decide +kernel
theorem dX1_copy_17 : decode cX1_copy 17 = .ok (.iconst 0, 1) := by decide +kernel
theorem dX1_copy_18 : decode cX1_copy 18 = .ok (.bipush 40, 2) := by decide +kernel
theorem dX1_copy_20 : decode cX1_copy 20 = .ok (.invokestatic 22, 3) := by decide +kernel
theorem dX1_copy_23 : decode cX1_copy 23 = .ok (.aload_n 1, 1) := by decide +kernel
theorem dX1_copy_24 : decode cX1_copy 24 = .ok (.getfield 19, 3) := by decide +kernel
theorem dX1_copy_27 : decode cX1_copy 27 = .ok (.iconst 0, 1) := by decide +kernel
theorem dX1_copy_28 : decode cX1_copy 28 = .ok (.aload_n 0, 1) := by decide +kernel
theorem dX1_copy_29 : decode cX1_copy 29 = .ok (.getfield 19, 3) := by decide +kernel
theorem dX1_copy_32 : decode cX1_copy 32 = .ok (.iconst 0, 1) := by decide +kernel
theorem dX1_copy_33 : decode cX1_copy 33 = .ok (.bipush 40, 2) := by decide +kernel
theorem dX1_copy_35 : decode cX1_copy 35 = .ok (.invokestatic 22, 3) := by decide +kernel
theorem dX1_copy_38 : decode cX1_copy 38 = .ok (.return_, 1) := by decide +kernel
theorem dX2_init_0 : decode cX2_init 0 = .ok (.aload_n 0, 1) := by decide +kernel
theorem dX2_init_1 : decode cX2_init 1 = .ok (.invokespecial 3, 3) := by decide +kernel
theorem dX2_init_4 : decode cX2_init 4 = .ok (.aload_n 0, 1) := by decide +kernel
theorem dX2_init_5 : decode cX2_init 5 = .ok (.bipush 6, 2) := by decide +kernel
theorem dX2_init_7 : decode cX2_init 7 = .ok (.putfield 9, 3) := by decide +kernel
theorem dX2_init_10 : decode cX2_init 10 = .ok (.return_, 1) := by decide +kernel
theorem dX2_has_0 : decode cX2_has 0 = .ok (.aload_n 0, 1) := by decide +kernel
theorem dX2_has_1 : decode cX2_has 1 = .ok (.getfield 15, 3) := by decide +kernel
theorem dX2_has_4 : decode cX2_has 4 = .ok (.iload_n 1, 1) := by decide +kernel
theorem dX2_has_5 : decode cX2_has 5 = .ok (.ishr, 1) := by decide +kernel
theorem dX2_has_6 : decode cX2_has 6 = .ok (.iconst 1, 1) := by decide +kernel
theorem dX2_has_7 : decode cX2_has 7 = .ok (.iand, 1) := by decide +kernel
theorem dX2_has_8 : decode cX2_has 8 = .ok (.ifCond .eq 7, 3) := by decide +kernel
theorem dX2_has_11 : decode cX2_has 11 = .ok (.iconst 1, 1) := by decide +kernel
theorem dX2_has_12 : decode cX2_has 12 = .ok (.goto 4, 3) := by decide +kernel
theorem dX2_has_15 : decode cX2_has 15 = .ok (.iconst 0, 1) := by decide +kernel
theorem dX2_has_16 : decode cX2_has 16 = .ok (.ireturn, 1) := by decide +kernel
theorem dX2_sortOf_0 : decode cX2_sortOf 0 = .ok (.aload_n 0, 1) := by decide +kernel
theorem dX2_sortOf_1 : decode cX2_sortOf 1 = .ok (.iload_n 1, 1) := by decide +kernel
theorem dX2_sortOf_2 : decode cX2_sortOf 2 = .ok (.invokevirtual 18, 3) := by decide +kernel
theorem dX2_sortOf_5 : decode cX2_sortOf 5 = .ok (.ifCond .eq 25, 3) := by decide +kernel
theorem dX2_sortOf_8 : decode cX2_sortOf 8 = .ok (.aload_n 0, 1) := by decide +kernel
theorem dX2_sortOf_9 : decode cX2_sortOf 9 = .ok (.getfield 22, 3) := by decide +kernel
theorem dX2_sortOf_12 : decode cX2_sortOf 12 = .ok (.iload_n 1, 1) := by decide +kernel
theorem dX2_sortOf_13 : decode cX2_sortOf 13 = .ok (.ishr, 1) := by decide +kernel
theorem dX2_sortOf_14 : decode cX2_sortOf 14 = .ok (.iconst 1, 1) := by decide +kernel
theorem dX2_sortOf_15 : decode cX2_sortOf 15 = .ok (.iand, 1) := by decide +kernel
theorem dX2_sortOf_16 : decode cX2_sortOf 16 = .ok (.aload_n 0, 1) := by decide +kernel
theorem dX2_sortOf_17 : decode cX2_sortOf 17 = .ok (.getfield 25, 3) := by decide +kernel
theorem dX2_sortOf_20 : decode cX2_sortOf 20 = .ok (.iload_n 1, 1) := by decide +kernel
theorem dX2_sortOf_21 : decode cX2_sortOf 21 = .ok (.ishr, 1) := by decide +kernel
theorem dX2_sortOf_22 : decode cX2_sortOf 22 = .ok (.iconst 1, 1) := by decide +kernel
theorem dX2_sortOf_23 : decode cX2_sortOf 23 = .ok (.iand, 1) := by decide +kernel
theorem dX2_sortOf_24 : decode cX2_sortOf 24 = .ok (.iconst 1, 1) := by decide +kernel
theorem dX2_sortOf_25 : decode cX2_sortOf 25 = .ok (.ishl, 1) := by decide +kernel
theorem dX2_sortOf_26 : decode cX2_sortOf 26 = .ok (.ior, 1) := by decide +kernel
theorem dX2_sortOf_27 : decode cX2_sortOf 27 = .ok (.goto 4, 3) := by decide +kernel
theorem dX2_sortOf_30 : decode cX2_sortOf 30 = .ok (.iconst (-1), 1) := by decide +kernel
theorem dX2_sortOf_31 : decode cX2_sortOf 31 = .ok (.ireturn, 1) := by decide +kernel
theorem dX2_payerOf_0 : decode cX2_payerOf 0 = .ok (.aload_n 0, 1) := by decide +kernel
theorem dX2_payerOf_1 : decode cX2_payerOf 1 = .ok (.iload_n 1, 1) := by decide +kernel
theorem dX2_payerOf_2 : decode cX2_payerOf 2 = .ok (.invokevirtual 18, 3) := by decide +kernel
theorem dX2_payerOf_5 : decode cX2_payerOf 5 = .ok (.ifCond .eq 25, 3) := by decide +kernel
theorem dX2_payerOf_8 : decode cX2_payerOf 8 = .ok (.aload_n 0, 1) := by decide +kernel
theorem dX2_payerOf_9 : decode cX2_payerOf 9 = .ok (.getfield 28, 3) := by decide +kernel
theorem dX2_payerOf_12 : decode cX2_payerOf 12 = .ok (.iload_n 1, 1) := by decide +kernel
theorem dX2_payerOf_13 : decode cX2_payerOf 13 = .ok (.ishr, 1) := by decide +kernel
theorem dX2_payerOf_14 : decode cX2_payerOf 14 = .ok (.iconst 1, 1) := by decide +kernel
theorem dX2_payerOf_15 : decode cX2_payerOf 15 = .ok (.iand, 1) := by decide +kernel
theorem dX2_payerOf_16 : decode cX2_payerOf 16 = .ok (.aload_n 0, 1) := by decide +kernel
theorem dX2_payerOf_17 : decode cX2_payerOf 17 = .ok (.getfield 31, 3) := by decide +kernel
theorem dX2_payerOf_20 : decode cX2_payerOf 20 = .ok (.iload_n 1, 1) := by decide +kernel
theorem dX2_payerOf_21 : decode cX2_payerOf 21 = .ok (.ishr, 1) := by decide +kernel
theorem dX2_payerOf_22 : decode cX2_payerOf 22 = .ok (.iconst 1, 1) := by decide +kernel
theorem dX2_payerOf_23 : decode cX2_payerOf 23 = .ok (.iand, 1) := by decide +kernel
theorem dX2_payerOf_24 : decode cX2_payerOf 24 = .ok (.iconst 1, 1) := by decide +kernel
theorem dX2_payerOf_25 : decode cX2_payerOf 25 = .ok (.ishl, 1) := by decide +kernel
theorem dX2_payerOf_26 : decode cX2_payerOf 26 = .ok (.ior, 1) := by decide +kernel
theorem dX2_payerOf_27 : decode cX2_payerOf 27 = .ok (.goto 4, 3) := by decide +kernel
theorem dX2_payerOf_30 : decode cX2_payerOf 30 = .ok (.iconst (-1), 1) := by decide +kernel
theorem dX2_payerOf_31 : decode cX2_payerOf 31 = .ok (.ireturn, 1) := by decide +kernel
theorem dX2_paidBy_0 : decode cX2_paidBy 0 = .ok (.iload_n 1, 1) := by decide +kernel
theorem dX2_paidBy_1 : decode cX2_paidBy 1 = .ok (.iconst 1, 1) := by decide +kernel
theorem dX2_paidBy_2 : decode cX2_paidBy 2 = .ok (.if_icmp .ne 10, 3) := by decide +kernel
theorem dX2_paidBy_5 : decode cX2_paidBy 5 = .ok (.aload_n 0, 1) := by decide +kernel
theorem dX2_paidBy_6 : decode cX2_paidBy 6 = .ok (.getfield 28, 3) := by decide +kernel
theorem dX2_paidBy_9 : decode cX2_paidBy 9 = .ok (.goto 7, 3) := by decide +kernel
theorem dX2_paidBy_12 : decode cX2_paidBy 12 = .ok (.aload_n 0, 1) := by decide +kernel
theorem dX2_paidBy_13 : decode cX2_paidBy 13 = .ok (.getfield 31, 3) := by decide +kernel
theorem dX2_paidBy_16 : decode cX2_paidBy 16 = .ok (.ireturn, 1) := by decide +kernel
theorem dX2_unpaid_0 : decode cX2_unpaid 0 = .ok (.aload_n 0, 1) := by decide +kernel
theorem dX2_unpaid_1 : decode cX2_unpaid 1 = .ok (.getfield 15, 3) := by decide +kernel
theorem dX2_unpaid_4 : decode cX2_unpaid 4 = .ok (.aload_n 0, 1) := by decide +kernel
theorem dX2_unpaid_5 : decode cX2_unpaid 5 = .ok (.getfield 28, 3) := by decide +kernel
theorem dX2_unpaid_8 : decode cX2_unpaid 8 = .ok (.aload_n 0, 1) := by decide +kernel
theorem dX2_unpaid_9 : decode cX2_unpaid 9 = .ok (.getfield 31, 3) := by decide +kernel
theorem dX2_unpaid_12 : decode cX2_unpaid 12 = .ok (.ior, 1) := by decide +kernel
theorem dX2_unpaid_13 : decode cX2_unpaid 13 = .ok (.iconst (-1), 1) := by decide +kernel
theorem dX2_unpaid_14 : decode cX2_unpaid 14 = .ok (.ixor, 1) := by decide +kernel
theorem dX2_unpaid_15 : decode cX2_unpaid 15 = .ok (.iand, 1) := by decide +kernel
theorem dX2_unpaid_16 : decode cX2_unpaid 16 = .ok (.ireturn, 1) := by decide +kernel
theorem dX2_sit_0 : decode cX2_sit 0 = .ok (.iconst 1, 1) := by decide +kernel
theorem dX2_sit_1 : decode cX2_sit 1 = .ok (.iload_n 1, 1) := by decide +kernel
theorem dX2_sit_2 : decode cX2_sit 2 = .ok (.ishl, 1) := by decide +kernel
theorem dX2_sit_3 : decode cX2_sit 3 = .ok (.istore 4, 2) := by decide +kernel
theorem dX2_sit_5 : decode cX2_sit 5 = .ok (.aload_n 0, 1) := by decide +kernel
theorem dX2_sit_6 : decode cX2_sit 6 = .ok (.dup, 1) := by decide +kernel
theorem dX2_sit_7 : decode cX2_sit 7 = .ok (.getfield 15, 3) := by decide +kernel
theorem dX2_sit_10 : decode cX2_sit 10 = .ok (.iload 4, 2) := by decide +kernel
theorem dX2_sit_12 : decode cX2_sit 12 = .ok (.ior, 1) := by decide +kernel
theorem dX2_sit_13 : decode cX2_sit 13 = .ok (.putfield 15, 3) := by decide +kernel
theorem dX2_sit_16 : decode cX2_sit 16 = .ok (.aload_n 0, 1) := by decide +kernel
theorem dX2_sit_17 : decode cX2_sit 17 = .ok (.aload_n 0, 1) := by decide +kernel
theorem dX2_sit_18 : decode cX2_sit 18 = .ok (.getfield 34, 3) := by decide +kernel
theorem dX2_sit_21 : decode cX2_sit 21 = .ok (.iload 4, 2) := by decide +kernel
theorem dX2_sit_23 : decode cX2_sit 23 = .ok (.iconst (-1), 1) := by decide +kernel
theorem dX2_sit_24 : decode cX2_sit 24 = .ok (.ixor, 1) := by decide +kernel
theorem dX2_sit_25 : decode cX2_sit 25 = .ok (.iand, 1) := by decide +kernel
theorem dX2_sit_26 : decode cX2_sit 26 = .ok (.iload_n 3, 1) := by decide +kernel
theorem dX2_sit_27 : decode cX2_sit 27 = .ok (.iload_n 1, 1) := by decide +kernel
theorem dX2_sit_28 : decode cX2_sit 28 = .ok (.ishl, 1) := by decide +kernel
theorem dX2_sit_29 : decode cX2_sit 29 = .ok (.ior, 1) := by decide +kernel
theorem dX2_sit_30 : decode cX2_sit 30 = .ok (.putfield 34, 3) := by decide +kernel
theorem dX2_sit_33 : decode cX2_sit 33 = .ok (.aload_n 0, 1) := by decide +kernel
theorem dX2_sit_34 : decode cX2_sit 34 = .ok (.aload_n 0, 1) := by decide +kernel
theorem dX2_sit_35 : decode cX2_sit 35 = .ok (.getfield 22, 3) := by decide +kernel
theorem dX2_sit_38 : decode cX2_sit 38 = .ok (.iload 4, 2) := by decide +kernel
theorem dX2_sit_40 : decode cX2_sit 40 = .ok (.iconst (-1), 1) := by decide +kernel
theorem dX2_sit_41 : decode cX2_sit 41 = .ok (.ixor, 1) := by decide +kernel
theorem dX2_sit_42 : decode cX2_sit 42 = .ok (.iand, 1) := by decide +kernel
theorem dX2_sit_43 : decode cX2_sit 43 = .ok (.iload_n 2, 1) := by decide +kernel
theorem dX2_sit_44 : decode cX2_sit 44 = .ok (.iconst 1, 1) := by decide +kernel
theorem dX2_sit_45 : decode cX2_sit 45 = .ok (.iand, 1) := by decide +kernel
theorem dX2_sit_46 : decode cX2_sit 46 = .ok (.iload_n 1, 1) := by decide +kernel
theorem dX2_sit_47 : decode cX2_sit 47 = .ok (.ishl, 1) := by decide +kernel
theorem dX2_sit_48 : decode cX2_sit 48 = .ok (.ior, 1) := by decide +kernel
theorem dX2_sit_49 : decode cX2_sit 49 = .ok (.putfield 22, 3) := by decide +kernel
theorem dX2_sit_52 : decode cX2_sit 52 = .ok (.aload_n 0, 1) := by decide +kernel
theorem dX2_sit_53 : decode cX2_sit 53 = .ok (.aload_n 0, 1) := by decide +kernel
theorem dX2_sit_54 : decode cX2_sit 54 = .ok (.getfield 25, 3) := by decide +kernel
theorem dX2_sit_57 : decode cX2_sit 57 = .ok (.iload 4, 2) := by decide +kernel
theorem dX2_sit_59 : decode cX2_sit 59 = .ok (.iconst (-1), 1) := by decide +kernel
theorem dX2_sit_60 : decode cX2_sit 60 = .ok (.ixor, 1) := by decide +kernel
theorem dX2_sit_61 : decode cX2_sit 61 = .ok (.iand, 1) := by decide +kernel
theorem dX2_sit_62 : decode cX2_sit 62 = .ok (.iload_n 2, 1) := by decide +kernel
theorem dX2_sit_63 : decode cX2_sit 63 = .ok (.iconst 1, 1) := by decide +kernel
theorem dX2_sit_64 : decode cX2_sit 64 = .ok (.ishr, 1) := by decide +kernel
theorem dX2_sit_65 : decode cX2_sit 65 = .ok (.iconst 1, 1) := by decide +kernel
theorem dX2_sit_66 : decode cX2_sit 66 = .ok (.iand, 1) := by decide +kernel
theorem dX2_sit_67 : decode cX2_sit 67 = .ok (.iload_n 1, 1) := by decide +kernel
theorem dX2_sit_68 : decode cX2_sit 68 = .ok (.ishl, 1) := by decide +kernel
theorem dX2_sit_69 : decode cX2_sit 69 = .ok (.ior, 1) := by decide +kernel
theorem dX2_sit_70 : decode cX2_sit 70 = .ok (.putfield 25, 3) := by decide +kernel
theorem dX2_sit_73 : decode cX2_sit 73 = .ok (.return_, 1) := by decide +kernel
theorem dX2_leave_0 : decode cX2_leave 0 = .ok (.aload_n 0, 1) := by decide +kernel
theorem dX2_leave_1 : decode cX2_leave 1 = .ok (.dup, 1) := by decide +kernel
theorem dX2_leave_2 : decode cX2_leave 2 = .ok (.getfield 15, 3) := by decide +kernel
theorem dX2_leave_5 : decode cX2_leave 5 = .ok (.iconst 1, 1) := by decide +kernel
theorem dX2_leave_6 : decode cX2_leave 6 = .ok (.iload_n 1, 1) := by decide +kernel
theorem dX2_leave_7 : decode cX2_leave 7 = .ok (.ishl, 1) := by decide +kernel
theorem dX2_leave_8 : decode cX2_leave 8 = .ok (.iconst (-1), 1) := by decide +kernel
theorem dX2_leave_9 : decode cX2_leave 9 = .ok (.ixor, 1) := by decide +kernel
theorem dX2_leave_10 : decode cX2_leave 10 = .ok (.iand, 1) := by decide +kernel
theorem dX2_leave_11 : decode cX2_leave 11 = .ok (.putfield 15, 3) := by decide +kernel
theorem dX2_leave_14 : decode cX2_leave 14 = .ok (.aload_n 0, 1) := by decide +kernel
theorem dX2_leave_15 : decode cX2_leave 15 = .ok (.iload_n 1, 1) := by decide +kernel
theorem dX2_leave_16 : decode cX2_leave 16 = .ok (.iconst 0, 1) := by decide +kernel
theorem dX2_leave_17 : decode cX2_leave 17 = .ok (.invokevirtual 37, 3) := by decide +kernel
theorem dX2_leave_20 : decode cX2_leave 20 = .ok (.return_, 1) := by decide +kernel
theorem dX2_hire_0 : decode cX2_hire 0 = .ok (.iconst 1, 1) := by decide +kernel
theorem dX2_hire_1 : decode cX2_hire 1 = .ok (.iload_n 1, 1) := by decide +kernel
theorem dX2_hire_2 : decode cX2_hire 2 = .ok (.ishl, 1) := by decide +kernel
theorem dX2_hire_3 : decode cX2_hire 3 = .ok (.istore_n 3, 1) := by decide +kernel
theorem dX2_hire_4 : decode cX2_hire 4 = .ok (.aload_n 0, 1) := by decide +kernel
theorem dX2_hire_5 : decode cX2_hire 5 = .ok (.aload_n 0, 1) := by decide +kernel
theorem dX2_hire_6 : decode cX2_hire 6 = .ok (.getfield 28, 3) := by decide +kernel
theorem dX2_hire_9 : decode cX2_hire 9 = .ok (.iload_n 3, 1) := by decide +kernel
theorem dX2_hire_10 : decode cX2_hire 10 = .ok (.iconst (-1), 1) := by decide +kernel
theorem dX2_hire_11 : decode cX2_hire 11 = .ok (.ixor, 1) := by decide +kernel
theorem dX2_hire_12 : decode cX2_hire 12 = .ok (.iand, 1) := by decide +kernel
theorem dX2_hire_13 : decode cX2_hire 13 = .ok (.iload_n 2, 1) := by decide +kernel
theorem dX2_hire_14 : decode cX2_hire 14 = .ok (.iconst 1, 1) := by decide +kernel
theorem dX2_hire_15 : decode cX2_hire 15 = .ok (.if_icmp .ne 7, 3) := by decide +kernel
theorem dX2_hire_18 : decode cX2_hire 18 = .ok (.iload_n 3, 1) := by decide +kernel
theorem dX2_hire_19 : decode cX2_hire 19 = .ok (.goto 4, 3) := by decide +kernel
theorem dX2_hire_22 : decode cX2_hire 22 = .ok (.iconst 0, 1) := by decide +kernel
theorem dX2_hire_23 : decode cX2_hire 23 = .ok (.ior, 1) := by decide +kernel
theorem dX2_hire_24 : decode cX2_hire 24 = .ok (.putfield 28, 3) := by decide +kernel
theorem dX2_hire_27 : decode cX2_hire 27 = .ok (.aload_n 0, 1) := by decide +kernel
theorem dX2_hire_28 : decode cX2_hire 28 = .ok (.aload_n 0, 1) := by decide +kernel
theorem dX2_hire_29 : decode cX2_hire 29 = .ok (.getfield 31, 3) := by decide +kernel
theorem dX2_hire_32 : decode cX2_hire 32 = .ok (.iload_n 3, 1) := by decide +kernel
theorem dX2_hire_33 : decode cX2_hire 33 = .ok (.iconst (-1), 1) := by decide +kernel
theorem dX2_hire_34 : decode cX2_hire 34 = .ok (.ixor, 1) := by decide +kernel
theorem dX2_hire_35 : decode cX2_hire 35 = .ok (.iand, 1) := by decide +kernel
theorem dX2_hire_36 : decode cX2_hire 36 = .ok (.iload_n 2, 1) := by decide +kernel
theorem dX2_hire_37 : decode cX2_hire 37 = .ok (.iconst 2, 1) := by decide +kernel
theorem dX2_hire_38 : decode cX2_hire 38 = .ok (.if_icmp .ne 7, 3) := by decide +kernel
theorem dX2_hire_41 : decode cX2_hire 41 = .ok (.iload_n 3, 1) := by decide +kernel
theorem dX2_hire_42 : decode cX2_hire 42 = .ok (.goto 4, 3) := by decide +kernel
theorem dX2_hire_45 : decode cX2_hire 45 = .ok (.iconst 0, 1) := by decide +kernel
theorem dX2_hire_46 : decode cX2_hire 46 = .ok (.ior, 1) := by decide +kernel
theorem dX2_hire_47 : decode cX2_hire 47 = .ok (.putfield 31, 3) := by decide +kernel
theorem dX2_hire_50 : decode cX2_hire 50 = .ok (.return_, 1) := by decide +kernel
theorem dX2_hireAll_0 : decode cX2_hireAll 0 = .ok (.iload_n 1, 1) := by decide +kernel
theorem dX2_hireAll_1 : decode cX2_hireAll 1 = .ok (.iconst 1, 1) := by decide +kernel
theorem dX2_hireAll_2 : decode cX2_hireAll 2 = .ok (.if_icmp .ne 11, 3) := by decide +kernel
theorem dX2_hireAll_5 : decode cX2_hireAll 5 = .ok (.aload_n 0, 1) := by decide +kernel
theorem dX2_hireAll_6 : decode cX2_hireAll 6 = .ok (.iload_n 2, 1) := by decide +kernel
theorem dX2_hireAll_7 : decode cX2_hireAll 7 = .ok (.putfield 28, 3) := by decide +kernel
theorem dX2_hireAll_10 : decode cX2_hireAll 10 = .ok (.goto 8, 3) := by decide +kernel
theorem dX2_hireAll_13 : decode cX2_hireAll 13 = .ok (.aload_n 0, 1) := by decide +kernel
theorem dX2_hireAll_14 : decode cX2_hireAll 14 = .ok (.iload_n 2, 1) := by decide +kernel
theorem dX2_hireAll_15 : decode cX2_hireAll 15 = .ok (.putfield 31, 3) := by decide +kernel
theorem dX2_hireAll_18 : decode cX2_hireAll 18 = .ok (.return_, 1) := by decide +kernel
theorem dX2_copy_0 : decode cX2_copy 0 = .ok (.aload_n 0, 1) := by decide +kernel
theorem dX2_copy_1 : decode cX2_copy 1 = .ok (.aload_n 1, 1) := by decide +kernel
theorem dX2_copy_2 : decode cX2_copy 2 = .ok (.getfield 9, 3) := by decide +kernel
theorem dX2_copy_5 : decode cX2_copy 5 = .ok (.putfield 9, 3) := by decide +kernel
theorem dX2_copy_8 : decode cX2_copy 8 = .ok (.aload_n 0, 1) := by decide +kernel
theorem dX2_copy_9 : decode cX2_copy 9 = .ok (.aload_n 1, 1) := by decide +kernel
theorem dX2_copy_10 : decode cX2_copy 10 = .ok (.getfield 15, 3) := by decide +kernel
theorem dX2_copy_13 : decode cX2_copy 13 = .ok (.putfield 15, 3) := by decide +kernel
theorem dX2_copy_16 : decode cX2_copy 16 = .ok (.aload_n 0, 1) := by decide +kernel
theorem dX2_copy_17 : decode cX2_copy 17 = .ok (.aload_n 1, 1) := by decide +kernel
theorem dX2_copy_18 : decode cX2_copy 18 = .ok (.getfield 34, 3) := by decide +kernel
theorem dX2_copy_21 : decode cX2_copy 21 = .ok (.putfield 34, 3) := by decide +kernel
theorem dX2_copy_24 : decode cX2_copy 24 = .ok (.aload_n 0, 1) := by decide +kernel
theorem dX2_copy_25 : decode cX2_copy 25 = .ok (.aload_n 1, 1) := by decide +kernel
theorem dX2_copy_26 : decode cX2_copy 26 = .ok (.getfield 22, 3) := by decide +kernel
theorem dX2_copy_29 : decode cX2_copy 29 = .ok (.putfield 22, 3) := by decide +kernel
theorem dX2_copy_32 : decode cX2_copy 32 = .ok (.aload_n 0, 1) := by decide +kernel
theorem dX2_copy_33 : decode cX2_copy 33 = .ok (.aload_n 1, 1) := by decide +kernel
theorem dX2_copy_34 : decode cX2_copy 34 = .ok (.getfield 25, 3) := by decide +kernel
theorem dX2_copy_37 : decode cX2_copy 37 = .ok (.putfield 25, 3) := by decide +kernel
theorem dX2_copy_40 : decode cX2_copy 40 = .ok (.aload_n 0, 1) := by decide +kernel
theorem dX2_copy_41 : decode cX2_copy 41 = .ok (.aload_n 1, 1) := by decide +kernel
theorem dX2_copy_42 : decode cX2_copy 42 = .ok (.getfield 28, 3) := by decide +kernel
theorem dX2_copy_45 : decode cX2_copy 45 = .ok (.putfield 28, 3) := by decide +kernel
theorem dX2_copy_48 : decode cX2_copy 48 = .ok (.aload_n 0, 1) := by decide +kernel
theorem dX2_copy_49 : decode cX2_copy 49 = .ok (.aload_n 1, 1) := by decide +kernel
theorem dX2_copy_50 : decode cX2_copy 50 = .ok (.getfield 31, 3) := by decide +kernel
theorem dX2_copy_53 : decode cX2_copy 53 = .ok (.putfield 31, 3) := by decide +kernel
theorem dX2_copy_56 : decode cX2_copy 56 = .ok (.return_, 1) := by decide +kernel
theorem dX3_init_0 : decode cX3_init 0 = .ok (.aload_n 0, 1) := by decide +kernel
theorem dX3_init_1 : decode cX3_init 1 = .ok (.invokespecial 3, 3) := by decide +kernel
theorem dX3_init_4 : decode cX3_init 4 = .ok (.aload_n 0, 1) := by decide +kernel
theorem dX3_init_5 : decode cX3_init 5 = .ok (.new 9, 3) := by decide +kernel
theorem dX3_init_8 : decode cX3_init 8 = .ok (.dup, 1) := by decide +kernel
theorem dX3_init_9 : decode cX3_init 9 = .ok (.invokespecial 11, 3) := by decide +kernel
theorem dX3_init_12 : decode cX3_init 12 = .ok (.putfield 12, 3) := by decide +kernel
theorem dX3_init_15 : decode cX3_init 15 = .ok (.aload_n 0, 1) := by decide +kernel
theorem dX3_init_16 : decode cX3_init 16 = .ok (.bipush 40, 2) := by decide +kernel
theorem dX3_init_18 : decode cX3_init 18 = .ok (.newarray .int, 2) := by decide +kernel
theorem dX3_init_20 : decode cX3_init 20 = .ok (.putfield 18, 3) := by decide +kernel
theorem dX3_init_23 : decode cX3_init 23 = .ok (.aload_n 0, 1) := by decide +kernel
theorem dX3_init_24 : decode cX3_init 24 = .ok (.bipush 40, 2) := by decide +kernel
theorem dX3_init_26 : decode cX3_init 26 = .ok (.newarray .int, 2) := by decide +kernel
theorem dX3_init_28 : decode cX3_init 28 = .ok (.putfield 22, 3) := by decide +kernel
theorem dX3_init_31 : decode cX3_init 31 = .ok (.aload_n 0, 1) := by decide +kernel
theorem dX3_init_32 : decode cX3_init 32 = .ok (.aload_n 1, 1) := by decide +kernel
theorem dX3_init_33 : decode cX3_init 33 = .ok (.putfield 25, 3) := by decide +kernel
theorem dX3_init_36 : decode cX3_init 36 = .ok (.return_, 1) := by decide +kernel
theorem dX3_hasSecond_0 : decode cX3_hasSecond 0 = .ok (.iload_n 1, 1) := by decide +kernel
theorem dX3_hasSecond_1 : decode cX3_hasSecond 1 = .ok (.ifCond .lt 24, 3) := by decide +kernel
theorem dX3_hasSecond_4 : decode cX3_hasSecond 4 = .ok (.iload_n 1, 1) := by decide +kernel
theorem dX3_hasSecond_5 : decode cX3_hasSecond 5 = .ok (.aload_n 0, 1) := by decide +kernel
theorem dX3_hasSecond_6 : decode cX3_hasSecond 6 = .ok (.getfield 25, 3) := by decide +kernel
theorem dX3_hasSecond_9 : decode cX3_hasSecond 9 = .ok (.getfield 29, 3) := by decide +kernel
theorem dX3_hasSecond_12 : decode cX3_hasSecond 12 = .ok (.if_icmp .ge 13, 3) := by decide +kernel
theorem dX3_hasSecond_15 : decode cX3_hasSecond 15 = .ok (.iload_n 1, 1) := by decide +kernel
theorem dX3_hasSecond_16 : decode cX3_hasSecond 16 = .ok (.bipush 40, 2) := by decide +kernel
theorem dX3_hasSecond_18 : decode cX3_hasSecond 18 = .ok (.if_icmp .ge 7, 3) := by decide +kernel
theorem dX3_hasSecond_21 : decode cX3_hasSecond 21 = .ok (.iconst 1, 1) := by decide +kernel
theorem dX3_hasSecond_22 : decode cX3_hasSecond 22 = .ok (.goto 4, 3) := by decide +kernel
theorem dX3_hasSecond_25 : decode cX3_hasSecond 25 = .ok (.iconst 0, 1) := by decide +kernel
theorem dX3_hasSecond_26 : decode cX3_hasSecond 26 = .ok (.ireturn, 1) := by decide +kernel
theorem dX3_put_0 : decode cX3_put 0 = .ok (.aload_n 0, 1) := by decide +kernel
theorem dX3_put_1 : decode cX3_put 1 = .ok (.iload_n 1, 1) := by decide +kernel
theorem dX3_put_2 : decode cX3_put 2 = .ok (.invokevirtual 35, 3) := by decide +kernel
theorem dX3_put_5 : decode cX3_put 5 = .ok (.ifCond .ne 4, 3) := by decide +kernel
theorem dX3_put_8 : decode cX3_put 8 = .ok (.return_, 1) := by decide +kernel
theorem dX3_put_9 : decode cX3_put 9 = .ok (.aload_n 0, 1) := by decide +kernel
theorem dX3_put_10 : decode cX3_put 10 = .ok (.getfield 18, 3) := by decide +kernel
theorem dX3_put_13 : decode cX3_put 13 = .ok (.iload_n 1, 1) := by decide +kernel
theorem dX3_put_14 : decode cX3_put 14 = .ok (.iload_n 2, 1) := by decide +kernel
theorem dX3_put_15 : decode cX3_put 15 = .ok (.iastore, 1) := by decide +kernel
theorem dX3_put_16 : decode cX3_put 16 = .ok (.aload_n 0, 1) := by decide +kernel
theorem dX3_put_17 : decode cX3_put 17 = .ok (.getfield 22, 3) := by decide +kernel
theorem dX3_put_20 : decode cX3_put 20 = .ok (.iload_n 1, 1) := by decide +kernel
theorem dX3_put_21 : decode cX3_put 21 = .ok (.iload_n 3, 1) := by decide +kernel
theorem dX3_put_22 : decode cX3_put 22 = .ok (.iastore, 1) := by decide +kernel
theorem dX3_put_23 : decode cX3_put 23 = .ok (.aload_n 0, 1) := by decide +kernel
theorem dX3_put_24 : decode cX3_put 24 = .ok (.dup, 1) := by decide +kernel
theorem dX3_put_25 : decode cX3_put 25 = .ok (.getfield 39, 3) := by decide +kernel
theorem dX3_put_28 : decode cX3_put 28 = .ok (.aload_n 0, 1) := by decide +kernel
theorem dX3_put_29 : decode cX3_put 29 = .ok (.iload_n 1, 1) := by decide +kernel
theorem dX3_put_30 : decode cX3_put 30 = .ok (.invokevirtual 42, 3) := by decide +kernel
theorem dX3_put_33 : decode cX3_put 33 = .ok (.aload_n 0, 1) := by decide +kernel
theorem dX3_put_34 : decode cX3_put 34 = .ok (.iload_n 1, 1) := by decide +kernel
theorem dX3_put_35 : decode cX3_put 35 = .ok (.invokevirtual 46, 3) := by decide +kernel
theorem dX3_put_38 : decode cX3_put 38 = .ok (.isub, 1) := by decide +kernel
theorem dX3_put_39 : decode cX3_put 39 = .ok (.iadd, 1) := by decide +kernel
theorem dX3_put_40 : decode cX3_put 40 = .ok (.putfield 39, 3) := by decide +kernel
theorem dX3_put_43 : decode cX3_put 43 = .ok (.return_, 1) := by decide +kernel
theorem dX3_showing_0 : decode cX3_showing 0 = .ok (.aload_n 0, 1) := by decide +kernel
theorem dX3_showing_1 : decode cX3_showing 1 = .ok (.iload_n 1, 1) := by decide +kernel
theorem dX3_showing_2 : decode cX3_showing 2 = .ok (.invokevirtual 35, 3) := by decide +kernel
theorem dX3_showing_5 : decode cX3_showing 5 = .ok (.ifCond .ne 5, 3) := by decide +kernel
theorem dX3_showing_8 : decode cX3_showing 8 = .ok (.iconst 0, 1) := by decide +kernel
theorem dX3_showing_9 : decode cX3_showing 9 = .ok (.ireturn, 1) := by decide +kernel
theorem dX3_showing_10 : decode cX3_showing 10 = .ok (.iload_n 2, 1) := by decide +kernel
theorem dX3_showing_11 : decode cX3_showing 11 = .ok (.iconst 1, 1) := by decide +kernel
theorem dX3_showing_12 : decode cX3_showing 12 = .ok (.if_icmp .ne 12, 3) := by decide +kernel
theorem dX3_showing_15 : decode cX3_showing 15 = .ok (.aload_n 0, 1) := by decide +kernel
theorem dX3_showing_16 : decode cX3_showing 16 = .ok (.getfield 18, 3) := by decide +kernel
theorem dX3_showing_19 : decode cX3_showing 19 = .ok (.iload_n 1, 1) := by decide +kernel
theorem dX3_showing_20 : decode cX3_showing 20 = .ok (.iaload, 1) := by decide +kernel
theorem dX3_showing_21 : decode cX3_showing 21 = .ok (.goto 9, 3) := by decide +kernel
theorem dX3_showing_24 : decode cX3_showing 24 = .ok (.aload_n 0, 1) := by decide +kernel
theorem dX3_showing_25 : decode cX3_showing 25 = .ok (.getfield 22, 3) := by decide +kernel
theorem dX3_showing_28 : decode cX3_showing 28 = .ok (.iload_n 1, 1) := by decide +kernel
theorem dX3_showing_29 : decode cX3_showing 29 = .ok (.iaload, 1) := by decide +kernel
theorem dX3_showing_30 : decode cX3_showing 30 = .ok (.ireturn, 1) := by decide +kernel
theorem dX3_clapping_0 : decode cX3_clapping 0 = .ok (.aload_n 0, 1) := by decide +kernel
theorem dX3_clapping_1 : decode cX3_clapping 1 = .ok (.iload_n 1, 1) := by decide +kernel
theorem dX3_clapping_2 : decode cX3_clapping 2 = .ok (.iconst 1, 1) := by decide +kernel
theorem dX3_clapping_3 : decode cX3_clapping 3 = .ok (.invokevirtual 49, 3) := by decide +kernel
theorem dX3_clapping_6 : decode cX3_clapping 6 = .ok (.invokestatic 53, 3) := by decide +kernel
theorem dX3_clapping_9 : decode cX3_clapping 9 = .ok (.ireturn, 1) := by decide +kernel
theorem dX3_hissing_0 : decode cX3_hissing 0 = .ok (.aload_n 0, 1) := by decide +kernel
theorem dX3_hissing_1 : decode cX3_hissing 1 = .ok (.iload_n 1, 1) := by decide +kernel
theorem dX3_hissing_2 : decode cX3_hissing 2 = .ok (.iconst 2, 1) := by decide +kernel
theorem dX3_hissing_3 : decode cX3_hissing 3 = .ok (.invokevirtual 49, 3) := by decide +kernel
theorem dX3_hissing_6 : decode cX3_hissing 6 = .ok (.invokestatic 53, 3) := by decide +kernel
theorem dX3_hissing_9 : decode cX3_hissing 9 = .ok (.ireturn, 1) := by decide +kernel
theorem dX3_shown_0 : decode cX3_shown 0 = .ok (.aload_n 0, 1) := by decide +kernel
theorem dX3_shown_1 : decode cX3_shown 1 = .ok (.iload_n 2, 1) := by decide +kernel
theorem dX3_shown_2 : decode cX3_shown 2 = .ok (.iconst 1, 1) := by decide +kernel
theorem dX3_shown_3 : decode cX3_shown 3 = .ok (.invokevirtual 49, 3) := by decide +kernel
theorem dX3_shown_6 : decode cX3_shown 6 = .ok (.iload_n 1, 1) := by decide +kernel
theorem dX3_shown_7 : decode cX3_shown 7 = .ok (.ishr, 1) := by decide +kernel
theorem dX3_shown_8 : decode cX3_shown 8 = .ok (.iconst 1, 1) := by decide +kernel
theorem dX3_shown_9 : decode cX3_shown 9 = .ok (.iand, 1) := by decide +kernel
theorem dX3_shown_10 : decode cX3_shown 10 = .ok (.ifCond .eq 5, 3) := by decide +kernel
theorem dX3_shown_13 : decode cX3_shown 13 = .ok (.iconst 1, 1) := by decide +kernel
theorem dX3_shown_14 : decode cX3_shown 14 = .ok (.ireturn, 1) := by decide +kernel
theorem dX3_shown_15 : decode cX3_shown 15 = .ok (.aload_n 0, 1) := by decide +kernel
theorem dX3_shown_16 : decode cX3_shown 16 = .ok (.iload_n 2, 1) := by decide +kernel
theorem dX3_shown_17 : decode cX3_shown 17 = .ok (.iconst 2, 1) := by decide +kernel
theorem dX3_shown_18 : decode cX3_shown 18 = .ok (.invokevirtual 49, 3) := by decide +kernel
theorem dX3_shown_21 : decode cX3_shown 21 = .ok (.iload_n 1, 1) := by decide +kernel
theorem dX3_shown_22 : decode cX3_shown 22 = .ok (.ishr, 1) := by decide +kernel
theorem dX3_shown_23 : decode cX3_shown 23 = .ok (.iconst 1, 1) := by decide +kernel
theorem dX3_shown_24 : decode cX3_shown 24 = .ok (.iand, 1) := by decide +kernel
theorem dX3_shown_25 : decode cX3_shown 25 = .ok (.ifCond .eq 7, 3) := by decide +kernel
theorem dX3_shown_28 : decode cX3_shown 28 = .ok (.iconst 2, 1) := by decide +kernel
theorem dX3_shown_29 : decode cX3_shown 29 = .ok (.goto 4, 3) := by decide +kernel
theorem dX3_shown_32 : decode cX3_shown 32 = .ok (.iconst 0, 1) := by decide +kernel
theorem dX3_shown_33 : decode cX3_shown 33 = .ok (.ireturn, 1) := by decide +kernel
theorem dX3_heard_0 : decode cX3_heard 0 = .ok (.iconst 0, 1) := by decide +kernel
theorem dX3_heard_1 : decode cX3_heard 1 = .ok (.istore_n 1, 1) := by decide +kernel
theorem dX3_heard_2 : decode cX3_heard 2 = .ok (.iconst 0, 1) := by decide +kernel
theorem dX3_heard_3 : decode cX3_heard 3 = .ok (.istore_n 2, 1) := by decide +kernel
theorem dX3_heard_4 : decode cX3_heard 4 = .ok (.iload_n 2, 1) := by decide +kernel
theorem dX3_heard_5 : decode cX3_heard 5 = .ok (.aload_n 0, 1) := by decide +kernel
theorem dX3_heard_6 : decode cX3_heard 6 = .ok (.getfield 25, 3) := by decide +kernel
theorem dX3_heard_9 : decode cX3_heard 9 = .ok (.getfield 29, 3) := by decide +kernel
theorem dX3_heard_12 : decode cX3_heard 12 = .ok (.if_icmp .ge 31, 3) := by decide +kernel
theorem dX3_heard_15 : decode cX3_heard 15 = .ok (.iload_n 2, 1) := by decide +kernel
theorem dX3_heard_16 : decode cX3_heard 16 = .ok (.bipush 40, 2) := by decide +kernel
theorem dX3_heard_18 : decode cX3_heard 18 = .ok (.if_icmp .ge 25, 3) := by decide +kernel
theorem dX3_heard_21 : decode cX3_heard 21 = .ok (.iload_n 1, 1) := by decide +kernel
theorem dX3_heard_22 : decode cX3_heard 22 = .ok (.aload_n 0, 1) := by decide +kernel
theorem dX3_heard_23 : decode cX3_heard 23 = .ok (.getfield 18, 3) := by decide +kernel
theorem dX3_heard_26 : decode cX3_heard 26 = .ok (.iload_n 2, 1) := by decide +kernel
theorem dX3_heard_27 : decode cX3_heard 27 = .ok (.iaload, 1) := by decide +kernel
theorem dX3_heard_28 : decode cX3_heard 28 = .ok (.aload_n 0, 1) := by decide +kernel
theorem dX3_heard_29 : decode cX3_heard 29 = .ok (.getfield 22, 3) := by decide +kernel
theorem dX3_heard_32 : decode cX3_heard 32 = .ok (.iload_n 2, 1) := by decide +kernel
theorem dX3_heard_33 : decode cX3_heard 33 = .ok (.iaload, 1) := by decide +kernel
theorem dX3_heard_34 : decode cX3_heard 34 = .ok (.ior, 1) := by decide +kernel
theorem dX3_heard_35 : decode cX3_heard 35 = .ok (.ior, 1) := by decide +kernel
theorem dX3_heard_36 : decode cX3_heard 36 = .ok (.istore_n 1, 1) := by decide +kernel
theorem dX3_heard_37 : decode cX3_heard 37 = .ok (.iinc 2 1, 3) := by decide +kernel
theorem dX3_heard_40 : decode cX3_heard 40 = .ok (.goto (-36), 3) := by decide +kernel
theorem dX3_heard_43 : decode cX3_heard 43 = .ok (.iload_n 1, 1) := by decide +kernel
theorem dX3_heard_44 : decode cX3_heard 44 = .ok (.ireturn, 1) := by decide +kernel
theorem dX3_told_0 : decode cX3_told 0 = .ok (.iload_n 2, 1) := by decide +kernel
theorem dX3_told_1 : decode cX3_told 1 = .ok (.ifCond .ne 5, 3) := by decide +kernel
theorem dX3_told_4 : decode cX3_told 4 = .ok (.iload_n 1, 1) := by decide +kernel
theorem dX3_told_5 : decode cX3_told 5 = .ok (.ireturn, 1) := by decide +kernel
theorem dX3_told_6 : decode cX3_told 6 = .ok (.iload_n 2, 1) := by decide +kernel
theorem dX3_told_7 : decode cX3_told 7 = .ok (.iconst 1, 1) := by decide +kernel
theorem dX3_told_8 : decode cX3_told 8 = .ok (.if_icmp .ne 11, 3) := by decide +kernel
theorem dX3_told_11 : decode cX3_told 11 = .ok (.aload_n 0, 1) := by decide +kernel
theorem dX3_told_12 : decode cX3_told 12 = .ok (.iload_n 1, 1) := by decide +kernel
theorem dX3_told_13 : decode cX3_told 13 = .ok (.invokevirtual 42, 3) := by decide +kernel
theorem dX3_told_16 : decode cX3_told 16 = .ok (.goto 8, 3) := by decide +kernel
theorem dX3_told_19 : decode cX3_told 19 = .ok (.aload_n 0, 1) := by decide +kernel
theorem dX3_told_20 : decode cX3_told 20 = .ok (.iload_n 1, 1) := by decide +kernel
theorem dX3_told_21 : decode cX3_told 21 = .ok (.invokevirtual 46, 3) := by decide +kernel
theorem dX3_told_24 : decode cX3_told 24 = .ok (.ireturn, 1) := by decide +kernel
theorem dX3_copy_0 : decode cX3_copy 0 = .ok (.aload_n 0, 1) := by decide +kernel
theorem dX3_copy_1 : decode cX3_copy 1 = .ok (.getfield 12, 3) := by decide +kernel
theorem dX3_copy_4 : decode cX3_copy 4 = .ok (.aload_n 1, 1) := by decide +kernel
theorem dX3_copy_5 : decode cX3_copy 5 = .ok (.getfield 12, 3) := by decide +kernel
theorem dX3_copy_8 : decode cX3_copy 8 = .ok (.invokevirtual 58, 3) := by decide +kernel
theorem dX3_copy_11 : decode cX3_copy 11 = .ok (.aload_n 0, 1) := by decide +kernel
theorem dX3_copy_12 : decode cX3_copy 12 = .ok (.getfield 25, 3) := by decide +kernel
theorem dX3_copy_15 : decode cX3_copy 15 = .ok (.aload_n 1, 1) := by decide +kernel
theorem dX3_copy_16 : decode cX3_copy 16 = .ok (.getfield 25, 3) := by decide +kernel
theorem dX3_copy_19 : decode cX3_copy 19 = .ok (.invokevirtual 62, 3) := by decide +kernel
theorem dX3_copy_22 : decode cX3_copy 22 = .ok (.aload_n 1, 1) := by decide +kernel
theorem dX3_copy_23 : decode cX3_copy 23 = .ok (.getfield 18, 3) := by decide +kernel
theorem dX3_copy_26 : decode cX3_copy 26 = .ok (.iconst 0, 1) := by decide +kernel
theorem dX3_copy_27 : decode cX3_copy 27 = .ok (.aload_n 0, 1) := by decide +kernel
theorem dX3_copy_28 : decode cX3_copy 28 = .ok (.getfield 18, 3) := by decide +kernel
theorem dX3_copy_31 : decode cX3_copy 31 = .ok (.iconst 0, 1) := by decide +kernel
theorem dX3_copy_32 : decode cX3_copy 32 = .ok (.bipush 40, 2) := by decide +kernel
theorem dX3_copy_34 : decode cX3_copy 34 = .ok (.invokestatic 65, 3) := by decide +kernel
theorem dX3_copy_37 : decode cX3_copy 37 = .ok (.aload_n 1, 1) := by decide +kernel
theorem dX3_copy_38 : decode cX3_copy 38 = .ok (.getfield 22, 3) := by decide +kernel
theorem dX3_copy_41 : decode cX3_copy 41 = .ok (.iconst 0, 1) := by decide +kernel
theorem dX3_copy_42 : decode cX3_copy 42 = .ok (.aload_n 0, 1) := by decide +kernel
theorem dX3_copy_43 : decode cX3_copy 43 = .ok (.getfield 22, 3) := by decide +kernel
theorem dX3_copy_46 : decode cX3_copy 46 = .ok (.iconst 0, 1) := by decide +kernel
theorem dX3_copy_47 : decode cX3_copy 47 = .ok (.bipush 40, 2) := by decide +kernel
theorem dX3_copy_49 : decode cX3_copy 49 = .ok (.invokestatic 65, 3) := by decide +kernel
theorem dX3_copy_52 : decode cX3_copy 52 = .ok (.aload_n 0, 1) := by decide +kernel
theorem dX3_copy_53 : decode cX3_copy 53 = .ok (.aload_n 1, 1) := by decide +kernel
theorem dX3_copy_54 : decode cX3_copy 54 = .ok (.getfield 39, 3) := by decide +kernel
theorem dX3_copy_57 : decode cX3_copy 57 = .ok (.putfield 39, 3) := by decide +kernel
theorem dX3_copy_60 : decode cX3_copy 60 = .ok (.return_, 1) := by decide +kernel
theorem dX4_init_0 : decode cX4_init 0 = .ok (.aload_n 0, 1) := by decide +kernel
theorem dX4_init_1 : decode cX4_init 1 = .ok (.invokespecial 1, 3) := by decide +kernel
theorem dX4_init_4 : decode cX4_init 4 = .ok (.aload_n 0, 1) := by decide +kernel
theorem dX4_init_5 : decode cX4_init 5 = .ok (.sipush 128, 3) := by decide +kernel
theorem dX4_init_8 : decode cX4_init 8 = .ok (.newarray .int, 2) := by decide +kernel
theorem dX4_init_10 : decode cX4_init 10 = .ok (.putfield 9, 3) := by decide +kernel
theorem dX4_init_13 : decode cX4_init 13 = .ok (.return_, 1) := by decide +kernel
theorem dX4_clear_0 : decode cX4_clear 0 = .ok (.aload_n 0, 1) := by decide +kernel
theorem dX4_clear_1 : decode cX4_clear 1 = .ok (.iconst 0, 1) := by decide +kernel
theorem dX4_clear_2 : decode cX4_clear 2 = .ok (.putfield 13, 3) := by decide +kernel
theorem dX4_clear_5 : decode cX4_clear 5 = .ok (.aload_n 0, 1) := by decide +kernel
theorem dX4_clear_6 : decode cX4_clear 6 = .ok (.iconst 0, 1) := by decide +kernel
theorem dX4_clear_7 : decode cX4_clear 7 = .ok (.putfield 17, 3) := by decide +kernel
theorem dX4_clear_10 : decode cX4_clear 10 = .ok (.return_, 1) := by decide +kernel
theorem dX4_add_0 : decode cX4_add 0 = .ok (.aload_n 0, 1) := by decide +kernel
theorem dX4_add_1 : decode cX4_add 1 = .ok (.getfield 13, 3) := by decide +kernel
theorem dX4_add_4 : decode cX4_add 4 = .ok (.istore_n 3, 1) := by decide +kernel
theorem dX4_add_5 : decode cX4_add 5 = .ok (.iload_n 3, 1) := by decide +kernel
theorem dX4_add_6 : decode cX4_add 6 = .ok (.ifCond .lt 28, 3) := by decide +kernel
theorem dX4_add_9 : decode cX4_add 9 = .ok (.iload_n 3, 1) := by decide +kernel
theorem dX4_add_10 : decode cX4_add 10 = .ok (.sipush 128, 3) := by decide +kernel
theorem dX4_add_13 : decode cX4_add 13 = .ok (.if_icmp .ge 21, 3) := by decide +kernel
theorem dX4_add_16 : decode cX4_add 16 = .ok (.aload_n 0, 1) := by decide +kernel
theorem dX4_add_17 : decode cX4_add 17 = .ok (.getfield 9, 3) := by decide +kernel
theorem dX4_add_20 : decode cX4_add 20 = .ok (.iload_n 3, 1) := by decide +kernel
theorem dX4_add_21 : decode cX4_add 21 = .ok (.iload_n 2, 1) := by decide +kernel
theorem dX4_add_22 : decode cX4_add 22 = .ok (.iconst 4, 1) := by decide +kernel
theorem dX4_add_23 : decode cX4_add 23 = .ok (.ishl, 1) := by decide +kernel
theorem dX4_add_24 : decode cX4_add 24 = .ok (.iload_n 1, 1) := by decide +kernel
theorem dX4_add_25 : decode cX4_add 25 = .ok (.ior, 1) := by decide +kernel
theorem dX4_add_26 : decode cX4_add 26 = .ok (.iastore, 1) := by decide +kernel
theorem dX4_add_27 : decode cX4_add 27 = .ok (.aload_n 0, 1) := by decide +kernel
theorem dX4_add_28 : decode cX4_add 28 = .ok (.iload_n 3, 1) := by decide +kernel
theorem dX4_add_29 : decode cX4_add 29 = .ok (.iconst 1, 1) := by decide +kernel
theorem dX4_add_30 : decode cX4_add 30 = .ok (.iadd, 1) := by decide +kernel
theorem dX4_add_31 : decode cX4_add 31 = .ok (.putfield 13, 3) := by decide +kernel
theorem dX4_add_34 : decode cX4_add 34 = .ok (.iload_n 3, 1) := by decide +kernel
theorem dX4_add_35 : decode cX4_add 35 = .ok (.ireturn, 1) := by decide +kernel
theorem dX4_aimHere_0 : decode cX4_aimHere 0 = .ok (.iload_n 1, 1) := by decide +kernel
theorem dX4_aimHere_1 : decode cX4_aimHere 1 = .ok (.ifCond .lt 32, 3) := by decide +kernel
theorem dX4_aimHere_4 : decode cX4_aimHere 4 = .ok (.iload_n 1, 1) := by decide +kernel
theorem dX4_aimHere_5 : decode cX4_aimHere 5 = .ok (.sipush 128, 3) := by decide +kernel
theorem dX4_aimHere_8 : decode cX4_aimHere 8 = .ok (.if_icmp .ge 25, 3) := by decide +kernel
theorem dX4_aimHere_11 : decode cX4_aimHere 11 = .ok (.aload_n 0, 1) := by decide +kernel
theorem dX4_aimHere_12 : decode cX4_aimHere 12 = .ok (.getfield 9, 3) := by decide +kernel
theorem dX4_aimHere_15 : decode cX4_aimHere 15 = .ok (.iload_n 1, 1) := by decide +kernel
theorem dX4_aimHere_16 : decode cX4_aimHere 16 = .ok (.aload_n 0, 1) := by decide +kernel
theorem dX4_aimHere_17 : decode cX4_aimHere 17 = .ok (.getfield 13, 3) := by decide +kernel
theorem dX4_aimHere_20 : decode cX4_aimHere 20 = .ok (.iconst 4, 1) := by decide +kernel
theorem dX4_aimHere_21 : decode cX4_aimHere 21 = .ok (.ishl, 1) := by decide +kernel
theorem dX4_aimHere_22 : decode cX4_aimHere 22 = .ok (.aload_n 0, 1) := by decide +kernel
theorem dX4_aimHere_23 : decode cX4_aimHere 23 = .ok (.getfield 9, 3) := by decide +kernel
theorem dX4_aimHere_26 : decode cX4_aimHere 26 = .ok (.iload_n 1, 1) := by decide +kernel
theorem dX4_aimHere_27 : decode cX4_aimHere 27 = .ok (.iaload, 1) := by decide +kernel
theorem dX4_aimHere_28 : decode cX4_aimHere 28 = .ok (.bipush 15, 2) := by decide +kernel
theorem dX4_aimHere_30 : decode cX4_aimHere 30 = .ok (.iand, 1) := by decide +kernel
theorem dX4_aimHere_31 : decode cX4_aimHere 31 = .ok (.ior, 1) := by decide +kernel
theorem dX4_aimHere_32 : decode cX4_aimHere 32 = .ok (.iastore, 1) := by decide +kernel
theorem dX4_aimHere_33 : decode cX4_aimHere 33 = .ok (.return_, 1) := by decide +kernel
theorem dX5_init_0 : decode cX5_init 0 = .ok (.aload_n 0, 1) := by decide +kernel
theorem dX5_init_1 : decode cX5_init 1 = .ok (.invokespecial 3, 3) := by decide +kernel
theorem dX5_init_4 : decode cX5_init 4 = .ok (.aload_n 0, 1) := by decide +kernel
theorem dX5_init_5 : decode cX5_init 5 = .ok (.aload_n 1, 1) := by decide +kernel
theorem dX5_init_6 : decode cX5_init 6 = .ok (.putfield 9, 3) := by decide +kernel
theorem dX5_init_9 : decode cX5_init 9 = .ok (.aload_n 0, 1) := by decide +kernel
theorem dX5_init_10 : decode cX5_init 10 = .ok (.aload_n 2, 1) := by decide +kernel
theorem dX5_init_11 : decode cX5_init 11 = .ok (.putfield 15, 3) := by decide +kernel
theorem dX5_init_14 : decode cX5_init 14 = .ok (.return_, 1) := by decide +kernel
theorem dX5_read_0 : decode cX5_read 0 = .ok (.aload_n 0, 1) := by decide +kernel
theorem dX5_read_1 : decode cX5_read 1 = .ok (.aload_n 2, 1) := by decide +kernel
theorem dX5_read_2 : decode cX5_read 2 = .ok (.putfield 15, 3) := by decide +kernel
theorem dX5_read_5 : decode cX5_read 5 = .ok (.aload_n 0, 1) := by decide +kernel
theorem dX5_read_6 : decode cX5_read 6 = .ok (.getfield 15, 3) := by decide +kernel
theorem dX5_read_9 : decode cX5_read 9 = .ok (.invokevirtual 19, 3) := by decide +kernel
theorem dX5_read_12 : decode cX5_read 12 = .ok (.aload_n 0, 1) := by decide +kernel
theorem dX5_read_13 : decode cX5_read 13 = .ok (.iload_n 1, 1) := by decide +kernel
theorem dX5_read_14 : decode cX5_read 14 = .ok (.putfield 24, 3) := by decide +kernel
theorem dX5_read_17 : decode cX5_read 17 = .ok (.aload_n 0, 1) := by decide +kernel
theorem dX5_read_18 : decode cX5_read 18 = .ok (.iconst 0, 1) := by decide +kernel
theorem dX5_read_19 : decode cX5_read 19 = .ok (.putfield 28, 3) := by decide +kernel
theorem dX5_read_22 : decode cX5_read 22 = .ok (.aload_n 0, 1) := by decide +kernel
theorem dX5_read_23 : decode cX5_read 23 = .ok (.iconst 0, 1) := by decide +kernel
theorem dX5_read_24 : decode cX5_read 24 = .ok (.putfield 31, 3) := by decide +kernel
theorem dX5_read_27 : decode cX5_read 27 = .ok (.aload_n 0, 1) := by decide +kernel
theorem dX5_read_28 : decode cX5_read 28 = .ok (.iconst 0, 1) := by decide +kernel
theorem dX5_read_29 : decode cX5_read 29 = .ok (.putfield 34, 3) := by decide +kernel
theorem dX5_read_32 : decode cX5_read 32 = .ok (.aload_n 0, 1) := by decide +kernel
theorem dX5_read_33 : decode cX5_read 33 = .ok (.invokevirtual 37, 3) := by decide +kernel
theorem dX5_read_36 : decode cX5_read 36 = .ok (.ifCond .eq 13, 3) := by decide +kernel
theorem dX5_read_39 : decode cX5_read 39 = .ok (.aload_n 0, 1) := by decide +kernel
theorem dX5_read_40 : decode cX5_read 40 = .ok (.getfield 15, 3) := by decide +kernel
theorem dX5_read_43 : decode cX5_read 43 = .ok (.getfield 41, 3) := by decide +kernel
theorem dX5_read_46 : decode cX5_read 46 = .ok (.goto 16, 3) := by decide +kernel
theorem dX5_read_49 : decode cX5_read 49 = .ok (.sipush (-1000), 3) := by decide +kernel
theorem dX5_read_52 : decode cX5_read 52 = .ok (.aload_n 0, 1) := by decide +kernel
theorem dX5_read_53 : decode cX5_read 53 = .ok (.getfield 34, 3) := by decide +kernel
theorem dX5_read_56 : decode cX5_read 56 = .ok (.imul, 1) := by decide +kernel
theorem dX5_read_57 : decode cX5_read 57 = .ok (.aload_n 0, 1) := by decide +kernel
theorem dX5_read_58 : decode cX5_read 58 = .ok (.getfield 28, 3) := by decide +kernel
theorem dX5_read_61 : decode cX5_read 61 = .ok (.isub, 1) := by decide +kernel
theorem dX5_read_62 : decode cX5_read 62 = .ok (.ireturn, 1) := by decide +kernel
theorem dX5_sign_0 : decode cX5_sign 0 = .ok (.aload_n 0, 1) := by decide +kernel
theorem dX5_sign_1 : decode cX5_sign 1 = .ok (.getfield 28, 3) := by decide +kernel
theorem dX5_sign_4 : decode cX5_sign 4 = .ok (.ifCond .lt 42, 3) := by decide +kernel
theorem dX5_sign_7 : decode cX5_sign 7 = .ok (.aload_n 0, 1) := by decide +kernel
theorem dX5_sign_8 : decode cX5_sign 8 = .ok (.getfield 28, 3) := by decide +kernel
theorem dX5_sign_11 : decode cX5_sign 11 = .ok (.aload_n 0, 1) := by decide +kernel
theorem dX5_sign_12 : decode cX5_sign 12 = .ok (.getfield 24, 3) := by decide +kernel
theorem dX5_sign_15 : decode cX5_sign 15 = .ok (.if_icmp .ge 31, 3) := by decide +kernel
theorem dX5_sign_18 : decode cX5_sign 18 = .ok (.aload_n 0, 1) := by decide +kernel
theorem dX5_sign_19 : decode cX5_sign 19 = .ok (.getfield 28, 3) := by decide +kernel
theorem dX5_sign_22 : decode cX5_sign 22 = .ok (.aload_n 0, 1) := by decide +kernel
theorem dX5_sign_23 : decode cX5_sign 23 = .ok (.getfield 9, 3) := by decide +kernel
theorem dX5_sign_26 : decode cX5_sign 26 = .ok (.arraylength, 1) := by decide +kernel
theorem dX5_sign_27 : decode cX5_sign 27 = .ok (.if_icmp .ge 19, 3) := by decide +kernel
theorem dX5_sign_30 : decode cX5_sign 30 = .ok (.aload_n 0, 1) := by decide +kernel
theorem dX5_sign_31 : decode cX5_sign 31 = .ok (.getfield 9, 3) := by decide +kernel
theorem dX5_sign_34 : decode cX5_sign 34 = .ok (.aload_n 0, 1) := by decide +kernel
theorem dX5_sign_35 : decode cX5_sign 35 = .ok (.getfield 28, 3) := by decide +kernel
theorem dX5_sign_38 : decode cX5_sign 38 = .ok (.baload, 1) := by decide +kernel
theorem dX5_sign_39 : decode cX5_sign 39 = .ok (.sipush 255, 3) := by decide +kernel
theorem dX5_sign_42 : decode cX5_sign 42 = .ok (.iand, 1) := by decide +kernel
theorem dX5_sign_43 : decode cX5_sign 43 = .ok (.goto 4, 3) := by decide +kernel
theorem dX5_sign_46 : decode cX5_sign 46 = .ok (.iconst (-1), 1) := by decide +kernel
theorem dX5_sign_47 : decode cX5_sign 47 = .ok (.ireturn, 1) := by decide +kernel
theorem dX5_wrong_0 : decode cX5_wrong 0 = .ok (.aload_n 0, 1) := by decide +kernel
theorem dX5_wrong_1 : decode cX5_wrong 1 = .ok (.iload_n 1, 1) := by decide +kernel
theorem dX5_wrong_2 : decode cX5_wrong 2 = .ok (.putfield 34, 3) := by decide +kernel
theorem dX5_wrong_5 : decode cX5_wrong 5 = .ok (.iconst 0, 1) := by decide +kernel
theorem dX5_wrong_6 : decode cX5_wrong 6 = .ok (.ireturn, 1) := by decide +kernel
theorem dX5_take_0 : decode cX5_take 0 = .ok (.aload_n 0, 1) := by decide +kernel
theorem dX5_take_1 : decode cX5_take 1 = .ok (.invokevirtual 44, 3) := by decide +kernel
theorem dX5_take_4 : decode cX5_take 4 = .ok (.iload_n 1, 1) := by decide +kernel
theorem dX5_take_5 : decode cX5_take 5 = .ok (.if_icmp .eq 9, 3) := by decide +kernel
theorem dX5_take_8 : decode cX5_take 8 = .ok (.aload_n 0, 1) := by decide +kernel
theorem dX5_take_9 : decode cX5_take 9 = .ok (.iconst 1, 1) := by decide +kernel
theorem dX5_take_10 : decode cX5_take 10 = .ok (.invokevirtual 48, 3) := by decide +kernel
theorem dX5_take_13 : decode cX5_take 13 = .ok (.ireturn, 1) := by decide +kernel
theorem dX5_take_14 : decode cX5_take 14 = .ok (.aload_n 0, 1) := by decide +kernel
theorem dX5_take_15 : decode cX5_take 15 = .ok (.dup, 1) := by decide +kernel
theorem dX5_take_16 : decode cX5_take 16 = .ok (.getfield 28, 3) := by decide +kernel
theorem dX5_take_19 : decode cX5_take 19 = .ok (.iconst 1, 1) := by decide +kernel
theorem dX5_take_20 : decode cX5_take 20 = .ok (.iadd, 1) := by decide +kernel
theorem dX5_take_21 : decode cX5_take 21 = .ok (.putfield 28, 3) := by decide +kernel
theorem dX5_take_24 : decode cX5_take 24 = .ok (.iconst 1, 1) := by decide +kernel
theorem dX5_take_25 : decode cX5_take 25 = .ok (.ireturn, 1) := by decide +kernel
theorem dX5_opens_0 : decode cX5_opens 0 = .ok (.aload_n 0, 1) := by decide +kernel
theorem dX5_opens_1 : decode cX5_opens 1 = .ok (.invokevirtual 44, 3) := by decide +kernel
theorem dX5_opens_4 : decode cX5_opens 4 = .ok (.iload_n 1, 1) := by decide +kernel
theorem dX5_opens_5 : decode cX5_opens 5 = .ok (.if_icmp .ne 18, 3) := by decide +kernel
theorem dX5_opens_8 : decode cX5_opens 8 = .ok (.aload_n 0, 1) := by decide +kernel
theorem dX5_opens_9 : decode cX5_opens 9 = .ok (.getfield 31, 3) := by decide +kernel
theorem dX5_opens_12 : decode cX5_opens 12 = .ok (.bipush 6, 2) := by decide +kernel
theorem dX5_opens_14 : decode cX5_opens 14 = .ok (.if_icmp .lt 9, 3) := by decide +kernel
theorem dX5_opens_17 : decode cX5_opens 17 = .ok (.aload_n 0, 1) := by decide +kernel
theorem dX5_opens_18 : decode cX5_opens 18 = .ok (.iconst 5, 1) := by decide +kernel
theorem dX5_opens_19 : decode cX5_opens 19 = .ok (.invokevirtual 48, 3) := by decide +kernel
theorem dX5_opens_22 : decode cX5_opens 22 = .ok (.ireturn, 1) := by decide +kernel
theorem dX5_opens_23 : decode cX5_opens 23 = .ok (.aload_n 0, 1) := by decide +kernel
theorem dX5_opens_24 : decode cX5_opens 24 = .ok (.dup, 1) := by decide +kernel
theorem dX5_opens_25 : decode cX5_opens 25 = .ok (.getfield 31, 3) := by decide +kernel
theorem dX5_opens_28 : decode cX5_opens 28 = .ok (.iconst 1, 1) := by decide +kernel
theorem dX5_opens_29 : decode cX5_opens 29 = .ok (.iadd, 1) := by decide +kernel
theorem dX5_opens_30 : decode cX5_opens 30 = .ok (.putfield 31, 3) := by decide +kernel
theorem dX5_opens_33 : decode cX5_opens 33 = .ok (.aload_n 0, 1) := by decide +kernel
theorem dX5_opens_34 : decode cX5_opens 34 = .ok (.iload_n 1, 1) := by decide +kernel
theorem dX5_opens_35 : decode cX5_opens 35 = .ok (.invokevirtual 52, 3) := by decide +kernel
theorem dX5_opens_38 : decode cX5_opens 38 = .ok (.ireturn, 1) := by decide +kernel
theorem dX5_closes_0 : decode cX5_closes 0 = .ok (.aload_n 0, 1) := by decide +kernel
theorem dX5_closes_1 : decode cX5_closes 1 = .ok (.dup, 1) := by decide +kernel
theorem dX5_closes_2 : decode cX5_closes 2 = .ok (.getfield 31, 3) := by decide +kernel
theorem dX5_closes_5 : decode cX5_closes 5 = .ok (.iconst 1, 1) := by decide +kernel
theorem dX5_closes_6 : decode cX5_closes 6 = .ok (.isub, 1) := by decide +kernel
theorem dX5_closes_7 : decode cX5_closes 7 = .ok (.putfield 31, 3) := by decide +kernel
theorem dX5_closes_10 : decode cX5_closes 10 = .ok (.aload_n 0, 1) := by decide +kernel
theorem dX5_closes_11 : decode cX5_closes 11 = .ok (.iload_n 1, 1) := by decide +kernel
theorem dX5_closes_12 : decode cX5_closes 12 = .ok (.invokevirtual 52, 3) := by decide +kernel
theorem dX5_closes_15 : decode cX5_closes 15 = .ok (.ireturn, 1) := by decide +kernel
theorem dX5_allClauses_0 : decode cX5_allClauses 0 = .ok (.aload_n 0, 1) := by decide +kernel
theorem dX5_allClauses_1 : decode cX5_allClauses 1 = .ok (.invokevirtual 55, 3) := by decide +kernel
theorem dX5_allClauses_4 : decode cX5_allClauses 4 = .ok (.istore_n 1, 1) := by decide +kernel
theorem dX5_allClauses_5 : decode cX5_allClauses 5 = .ok (.iconst 0, 1) := by decide +kernel
theorem dX5_allClauses_6 : decode cX5_allClauses 6 = .ok (.istore_n 2, 1) := by decide +kernel
theorem dX5_allClauses_7 : decode cX5_allClauses 7 = .ok (.iload_n 2, 1) := by decide +kernel
theorem dX5_allClauses_8 : decode cX5_allClauses 8 = .ok (.bipush 120, 2) := by decide +kernel
theorem dX5_allClauses_10 : decode cX5_allClauses 10 = .ok (.if_icmp .ge 43, 3) := by decide +kernel
theorem dX5_allClauses_13 : decode cX5_allClauses 13 = .ok (.iload_n 1, 1) := by decide +kernel
theorem dX5_allClauses_14 : decode cX5_allClauses 14 = .ok (.ifCond .eq 39, 3) := by decide +kernel
theorem dX5_allClauses_17 : decode cX5_allClauses 17 = .ok (.aload_n 0, 1) := by decide +kernel
theorem dX5_allClauses_18 : decode cX5_allClauses 18 = .ok (.invokevirtual 44, 3) := by decide +kernel
theorem dX5_allClauses_21 : decode cX5_allClauses 21 = .ok (.iconst (-1), 1) := by decide +kernel
theorem dX5_allClauses_22 : decode cX5_allClauses 22 = .ok (.if_icmp .eq 31, 3) := by decide +kernel
theorem dX5_allClauses_25 : decode cX5_allClauses 25 = .ok (.aload_n 0, 1) := by decide +kernel
theorem dX5_allClauses_26 : decode cX5_allClauses 26 = .ok (.bipush 59, 2) := by decide +kernel
theorem dX5_allClauses_28 : decode cX5_allClauses 28 = .ok (.invokevirtual 52, 3) := by decide +kernel
theorem dX5_allClauses_31 : decode cX5_allClauses 31 = .ok (.ifCond .eq 14, 3) := by decide +kernel
theorem dX5_allClauses_34 : decode cX5_allClauses 34 = .ok (.aload_n 0, 1) := by decide +kernel
theorem dX5_allClauses_35 : decode cX5_allClauses 35 = .ok (.invokevirtual 55, 3) := by decide +kernel
theorem dX5_allClauses_38 : decode cX5_allClauses 38 = .ok (.ifCond .eq 7, 3) := by decide +kernel
theorem dX5_allClauses_41 : decode cX5_allClauses 41 = .ok (.iconst 1, 1) := by decide +kernel
theorem dX5_allClauses_42 : decode cX5_allClauses 42 = .ok (.goto 4, 3) := by decide +kernel
theorem dX5_allClauses_45 : decode cX5_allClauses 45 = .ok (.iconst 0, 1) := by decide +kernel
theorem dX5_allClauses_46 : decode cX5_allClauses 46 = .ok (.istore_n 1, 1) := by decide +kernel
theorem dX5_allClauses_47 : decode cX5_allClauses 47 = .ok (.iinc 2 1, 3) := by decide +kernel
theorem dX5_allClauses_50 : decode cX5_allClauses 50 = .ok (.goto (-43), 3) := by decide +kernel
theorem dX5_allClauses_53 : decode cX5_allClauses 53 = .ok (.iload_n 1, 1) := by decide +kernel
theorem dX5_allClauses_54 : decode cX5_allClauses 54 = .ok (.ireturn, 1) := by decide +kernel
theorem dX5_clause_0 : decode cX5_clause 0 = .ok (.aload_n 0, 1) := by decide +kernel
theorem dX5_clause_1 : decode cX5_clause 1 = .ok (.invokevirtual 44, 3) := by decide +kernel
theorem dX5_clause_4 : decode cX5_clause 4 = .ok (.bipush 99, 2) := by decide +kernel
theorem dX5_clause_6 : decode cX5_clause 6 = .ok (.if_icmp .ne 7, 3) := by decide +kernel
theorem dX5_clause_9 : decode cX5_clause 9 = .ok (.iconst 1, 1) := by decide +kernel
theorem dX5_clause_10 : decode cX5_clause 10 = .ok (.goto 17, 3) := by decide +kernel
theorem dX5_clause_13 : decode cX5_clause 13 = .ok (.aload_n 0, 1) := by decide +kernel
theorem dX5_clause_14 : decode cX5_clause 14 = .ok (.invokevirtual 44, 3) := by decide +kernel
theorem dX5_clause_17 : decode cX5_clause 17 = .ok (.bipush 104, 2) := by decide +kernel
theorem dX5_clause_19 : decode cX5_clause 19 = .ok (.if_icmp .ne 7, 3) := by decide +kernel
theorem dX5_clause_22 : decode cX5_clause 22 = .ok (.iconst 2, 1) := by decide +kernel
theorem dX5_clause_23 : decode cX5_clause 23 = .ok (.goto 4, 3) := by decide +kernel
theorem dX5_clause_26 : decode cX5_clause 26 = .ok (.iconst 0, 1) := by decide +kernel
theorem dX5_clause_27 : decode cX5_clause 27 = .ok (.istore_n 1, 1) := by decide +kernel
theorem dX5_clause_28 : decode cX5_clause 28 = .ok (.iload_n 1, 1) := by decide +kernel
theorem dX5_clause_29 : decode cX5_clause 29 = .ok (.ifCond .ne 9, 3) := by decide +kernel
theorem dX5_clause_32 : decode cX5_clause 32 = .ok (.aload_n 0, 1) := by decide +kernel
theorem dX5_clause_33 : decode cX5_clause 33 = .ok (.iconst 1, 1) := by decide +kernel
theorem dX5_clause_34 : decode cX5_clause 34 = .ok (.invokevirtual 48, 3) := by decide +kernel
theorem dX5_clause_37 : decode cX5_clause 37 = .ok (.ireturn, 1) := by decide +kernel
theorem dX5_clause_38 : decode cX5_clause 38 = .ok (.aload_n 0, 1) := by decide +kernel
theorem dX5_clause_39 : decode cX5_clause 39 = .ok (.getfield 15, 3) := by decide +kernel
theorem dX5_clause_42 : decode cX5_clause 42 = .ok (.getfield 41, 3) := by decide +kernel
theorem dX5_clause_45 : decode cX5_clause 45 = .ok (.bipush 12, 2) := by decide +kernel
theorem dX5_clause_47 : decode cX5_clause 47 = .ok (.if_icmp .lt 9, 3) := by decide +kernel
theorem dX5_clause_50 : decode cX5_clause 50 = .ok (.aload_n 0, 1) := by decide +kernel
theorem dX5_clause_51 : decode cX5_clause 51 = .ok (.iconst 4, 1) := by decide +kernel
theorem dX5_clause_52 : decode cX5_clause 52 = .ok (.invokevirtual 48, 3) := by decide +kernel
theorem dX5_clause_55 : decode cX5_clause 55 = .ok (.ireturn, 1) := by decide +kernel
theorem dX5_clause_56 : decode cX5_clause 56 = .ok (.aload_n 0, 1) := by decide +kernel
theorem dX5_clause_57 : decode cX5_clause 57 = .ok (.dup, 1) := by decide +kernel
theorem dX5_clause_58 : decode cX5_clause 58 = .ok (.getfield 28, 3) := by decide +kernel
theorem dX5_clause_61 : decode cX5_clause 61 = .ok (.iconst 1, 1) := by decide +kernel
theorem dX5_clause_62 : decode cX5_clause 62 = .ok (.iadd, 1) := by decide +kernel
theorem dX5_clause_63 : decode cX5_clause 63 = .ok (.putfield 28, 3) := by decide +kernel
theorem dX5_clause_66 : decode cX5_clause 66 = .ok (.aload_n 0, 1) := by decide +kernel
theorem dX5_clause_67 : decode cX5_clause 67 = .ok (.getfield 15, 3) := by decide +kernel
theorem dX5_clause_70 : decode cX5_clause 70 = .ok (.iconst 0, 1) := by decide +kernel
theorem dX5_clause_71 : decode cX5_clause 71 = .ok (.iconst 0, 1) := by decide +kernel
theorem dX5_clause_72 : decode cX5_clause 72 = .ok (.invokevirtual 58, 3) := by decide +kernel
theorem dX5_clause_75 : decode cX5_clause 75 = .ok (.istore_n 2, 1) := by decide +kernel
theorem dX5_clause_76 : decode cX5_clause 76 = .ok (.aload_n 0, 1) := by decide +kernel
theorem dX5_clause_77 : decode cX5_clause 77 = .ok (.bipush 40, 2) := by decide +kernel
theorem dX5_clause_79 : decode cX5_clause 79 = .ok (.invokevirtual 62, 3) := by decide +kernel
theorem dX5_clause_82 : decode cX5_clause 82 = .ok (.ifCond .eq 19, 3) := by decide +kernel
theorem dX5_clause_85 : decode cX5_clause 85 = .ok (.aload_n 0, 1) := by decide +kernel
theorem dX5_clause_86 : decode cX5_clause 86 = .ok (.invokevirtual 65, 3) := by decide +kernel
theorem dX5_clause_89 : decode cX5_clause 89 = .ok (.ifCond .eq 12, 3) := by decide +kernel
theorem dX5_clause_92 : decode cX5_clause 92 = .ok (.aload_n 0, 1) := by decide +kernel
theorem dX5_clause_93 : decode cX5_clause 93 = .ok (.bipush 41, 2) := by decide +kernel
theorem dX5_clause_95 : decode cX5_clause 95 = .ok (.invokevirtual 68, 3) := by decide +kernel
theorem dX5_clause_98 : decode cX5_clause 98 = .ok (.ifCond .ne 5, 3) := by decide +kernel
theorem dX5_clause_101 : decode cX5_clause 101 = .ok (.iconst 0, 1) := by decide +kernel
theorem dX5_clause_102 : decode cX5_clause 102 = .ok (.ireturn, 1) := by decide +kernel
theorem dX5_clause_103 : decode cX5_clause 103 = .ok (.aload_n 0, 1) := by decide +kernel
theorem dX5_clause_104 : decode cX5_clause 104 = .ok (.getfield 15, 3) := by decide +kernel
theorem dX5_clause_107 : decode cX5_clause 107 = .ok (.iconst 1, 1) := by decide +kernel
theorem dX5_clause_108 : decode cX5_clause 108 = .ok (.iload_n 1, 1) := by decide +kernel
theorem dX5_clause_109 : decode cX5_clause 109 = .ok (.invokevirtual 58, 3) := by decide +kernel
theorem dX5_clause_112 : decode cX5_clause 112 = .ok (.pop, 1) := by decide +kernel
theorem dX5_clause_113 : decode cX5_clause 113 = .ok (.aload_n 0, 1) := by decide +kernel
theorem dX5_clause_114 : decode cX5_clause 114 = .ok (.getfield 15, 3) := by decide +kernel
theorem dX5_clause_117 : decode cX5_clause 117 = .ok (.iload_n 2, 1) := by decide +kernel
theorem dX5_clause_118 : decode cX5_clause 118 = .ok (.invokevirtual 71, 3) := by decide +kernel
theorem dX5_clause_121 : decode cX5_clause 121 = .ok (.aload_n 0, 1) := by decide +kernel
theorem dX5_clause_122 : decode cX5_clause 122 = .ok (.getfield 15, 3) := by decide +kernel
theorem dX5_clause_125 : decode cX5_clause 125 = .ok (.dup, 1) := by decide +kernel
theorem dX5_clause_126 : decode cX5_clause 126 = .ok (.getfield 41, 3) := by decide +kernel
theorem dX5_clause_129 : decode cX5_clause 129 = .ok (.iconst 1, 1) := by decide +kernel
theorem dX5_clause_130 : decode cX5_clause 130 = .ok (.iadd, 1) := by decide +kernel
theorem dX5_clause_131 : decode cX5_clause 131 = .ok (.putfield 41, 3) := by decide +kernel
theorem dX5_clause_134 : decode cX5_clause 134 = .ok (.iconst 1, 1) := by decide +kernel
theorem dX5_clause_135 : decode cX5_clause 135 = .ok (.ireturn, 1) := by decide +kernel
theorem dX5_condition_0 : decode cX5_condition 0 = .ok (.aload_n 0, 1) := by decide +kernel
theorem dX5_condition_1 : decode cX5_condition 1 = .ok (.invokevirtual 75, 3) := by decide +kernel
theorem dX5_condition_4 : decode cX5_condition 4 = .ok (.istore_n 1, 1) := by decide +kernel
theorem dX5_condition_5 : decode cX5_condition 5 = .ok (.iconst 0, 1) := by decide +kernel
theorem dX5_condition_6 : decode cX5_condition 6 = .ok (.istore_n 2, 1) := by decide +kernel
theorem dX5_condition_7 : decode cX5_condition 7 = .ok (.iload_n 2, 1) := by decide +kernel
theorem dX5_condition_8 : decode cX5_condition 8 = .ok (.bipush 120, 2) := by decide +kernel
theorem dX5_condition_10 : decode cX5_condition 10 = .ok (.if_icmp .ge 56, 3) := by decide +kernel
theorem dX5_condition_13 : decode cX5_condition 13 = .ok (.iload_n 1, 1) := by decide +kernel
theorem dX5_condition_14 : decode cX5_condition 14 = .ok (.ifCond .eq 52, 3) := by decide +kernel
theorem dX5_condition_17 : decode cX5_condition 17 = .ok (.aload_n 0, 1) := by decide +kernel
theorem dX5_condition_18 : decode cX5_condition 18 = .ok (.invokevirtual 44, 3) := by decide +kernel
theorem dX5_condition_21 : decode cX5_condition 21 = .ok (.bipush 124, 2) := by decide +kernel
theorem dX5_condition_23 : decode cX5_condition 23 = .ok (.if_icmp .ne 43, 3) := by decide +kernel
theorem dX5_condition_26 : decode cX5_condition 26 = .ok (.aload_n 0, 1) := by decide +kernel
theorem dX5_condition_27 : decode cX5_condition 27 = .ok (.dup, 1) := by decide +kernel
theorem dX5_condition_28 : decode cX5_condition 28 = .ok (.getfield 28, 3) := by decide +kernel
theorem dX5_condition_31 : decode cX5_condition 31 = .ok (.iconst 1, 1) := by decide +kernel
theorem dX5_condition_32 : decode cX5_condition 32 = .ok (.iadd, 1) := by decide +kernel
theorem dX5_condition_33 : decode cX5_condition 33 = .ok (.putfield 28, 3) := by decide +kernel
theorem dX5_condition_36 : decode cX5_condition 36 = .ok (.aload_n 0, 1) := by decide +kernel
theorem dX5_condition_37 : decode cX5_condition 37 = .ok (.getfield 15, 3) := by decide +kernel
theorem dX5_condition_40 : decode cX5_condition 40 = .ok (.bipush 6, 2) := by decide +kernel
theorem dX5_condition_42 : decode cX5_condition 42 = .ok (.iconst 0, 1) := by decide +kernel
theorem dX5_condition_43 : decode cX5_condition 43 = .ok (.invokevirtual 58, 3) := by decide +kernel
theorem dX5_condition_46 : decode cX5_condition 46 = .ok (.istore_n 3, 1) := by decide +kernel
theorem dX5_condition_47 : decode cX5_condition 47 = .ok (.aload_n 0, 1) := by decide +kernel
theorem dX5_condition_48 : decode cX5_condition 48 = .ok (.invokevirtual 75, 3) := by decide +kernel
theorem dX5_condition_51 : decode cX5_condition 51 = .ok (.istore_n 1, 1) := by decide +kernel
theorem dX5_condition_52 : decode cX5_condition 52 = .ok (.aload_n 0, 1) := by decide +kernel
theorem dX5_condition_53 : decode cX5_condition 53 = .ok (.getfield 15, 3) := by decide +kernel
theorem dX5_condition_56 : decode cX5_condition 56 = .ok (.iload_n 3, 1) := by decide +kernel
theorem dX5_condition_57 : decode cX5_condition 57 = .ok (.invokevirtual 71, 3) := by decide +kernel
theorem dX5_condition_60 : decode cX5_condition 60 = .ok (.iinc 2 1, 3) := by decide +kernel
theorem dX5_condition_63 : decode cX5_condition 63 = .ok (.goto (-56), 3) := by decide +kernel
theorem dX5_condition_66 : decode cX5_condition 66 = .ok (.iload_n 1, 1) := by decide +kernel
theorem dX5_condition_67 : decode cX5_condition 67 = .ok (.ireturn, 1) := by decide +kernel
theorem dX5_part_0 : decode cX5_part 0 = .ok (.aload_n 0, 1) := by decide +kernel
theorem dX5_part_1 : decode cX5_part 1 = .ok (.invokevirtual 78, 3) := by decide +kernel
theorem dX5_part_4 : decode cX5_part 4 = .ok (.istore_n 1, 1) := by decide +kernel
theorem dX5_part_5 : decode cX5_part 5 = .ok (.iconst 0, 1) := by decide +kernel
theorem dX5_part_6 : decode cX5_part 6 = .ok (.istore_n 2, 1) := by decide +kernel
theorem dX5_part_7 : decode cX5_part 7 = .ok (.iload_n 2, 1) := by decide +kernel
theorem dX5_part_8 : decode cX5_part 8 = .ok (.bipush 120, 2) := by decide +kernel
theorem dX5_part_10 : decode cX5_part 10 = .ok (.if_icmp .ge 55, 3) := by decide +kernel
theorem dX5_part_13 : decode cX5_part 13 = .ok (.iload_n 1, 1) := by decide +kernel
theorem dX5_part_14 : decode cX5_part 14 = .ok (.ifCond .eq 51, 3) := by decide +kernel
theorem dX5_part_17 : decode cX5_part 17 = .ok (.aload_n 0, 1) := by decide +kernel
theorem dX5_part_18 : decode cX5_part 18 = .ok (.invokevirtual 44, 3) := by decide +kernel
theorem dX5_part_21 : decode cX5_part 21 = .ok (.bipush 38, 2) := by decide +kernel
theorem dX5_part_23 : decode cX5_part 23 = .ok (.if_icmp .ne 42, 3) := by decide +kernel
theorem dX5_part_26 : decode cX5_part 26 = .ok (.aload_n 0, 1) := by decide +kernel
theorem dX5_part_27 : decode cX5_part 27 = .ok (.dup, 1) := by decide +kernel
theorem dX5_part_28 : decode cX5_part 28 = .ok (.getfield 28, 3) := by decide +kernel
theorem dX5_part_31 : decode cX5_part 31 = .ok (.iconst 1, 1) := by decide +kernel
theorem dX5_part_32 : decode cX5_part 32 = .ok (.iadd, 1) := by decide +kernel
theorem dX5_part_33 : decode cX5_part 33 = .ok (.putfield 28, 3) := by decide +kernel
theorem dX5_part_36 : decode cX5_part 36 = .ok (.aload_n 0, 1) := by decide +kernel
theorem dX5_part_37 : decode cX5_part 37 = .ok (.getfield 15, 3) := by decide +kernel
theorem dX5_part_40 : decode cX5_part 40 = .ok (.iconst 5, 1) := by decide +kernel
theorem dX5_part_41 : decode cX5_part 41 = .ok (.iconst 0, 1) := by decide +kernel
theorem dX5_part_42 : decode cX5_part 42 = .ok (.invokevirtual 58, 3) := by decide +kernel
theorem dX5_part_45 : decode cX5_part 45 = .ok (.istore_n 3, 1) := by decide +kernel
theorem dX5_part_46 : decode cX5_part 46 = .ok (.aload_n 0, 1) := by decide +kernel
theorem dX5_part_47 : decode cX5_part 47 = .ok (.invokevirtual 78, 3) := by decide +kernel
theorem dX5_part_50 : decode cX5_part 50 = .ok (.istore_n 1, 1) := by decide +kernel
theorem dX5_part_51 : decode cX5_part 51 = .ok (.aload_n 0, 1) := by decide +kernel
theorem dX5_part_52 : decode cX5_part 52 = .ok (.getfield 15, 3) := by decide +kernel
theorem dX5_part_55 : decode cX5_part 55 = .ok (.iload_n 3, 1) := by decide +kernel
theorem dX5_part_56 : decode cX5_part 56 = .ok (.invokevirtual 71, 3) := by decide +kernel
theorem dX5_part_59 : decode cX5_part 59 = .ok (.iinc 2 1, 3) := by decide +kernel
theorem dX5_part_62 : decode cX5_part 62 = .ok (.goto (-55), 3) := by decide +kernel
theorem dX5_part_65 : decode cX5_part 65 = .ok (.iload_n 1, 1) := by decide +kernel
theorem dX5_part_66 : decode cX5_part 66 = .ok (.ireturn, 1) := by decide +kernel
theorem dX5_piece_0 : decode cX5_piece 0 = .ok (.aload_n 0, 1) := by decide +kernel
theorem dX5_piece_1 : decode cX5_piece 1 = .ok (.invokevirtual 44, 3) := by decide +kernel
theorem dX5_piece_4 : decode cX5_piece 4 = .ok (.bipush 40, 2) := by decide +kernel
theorem dX5_piece_6 : decode cX5_piece 6 = .ok (.if_icmp .ne 34, 3) := by decide +kernel
theorem dX5_piece_9 : decode cX5_piece 9 = .ok (.aload_n 0, 1) := by decide +kernel
theorem dX5_piece_10 : decode cX5_piece 10 = .ok (.bipush 40, 2) := by decide +kernel
theorem dX5_piece_12 : decode cX5_piece 12 = .ok (.invokevirtual 62, 3) := by decide +kernel
theorem dX5_piece_15 : decode cX5_piece 15 = .ok (.ifCond .eq 23, 3) := by decide +kernel
theorem dX5_piece_18 : decode cX5_piece 18 = .ok (.aload_n 0, 1) := by decide +kernel
theorem dX5_piece_19 : decode cX5_piece 19 = .ok (.invokevirtual 65, 3) := by decide +kernel
theorem dX5_piece_22 : decode cX5_piece 22 = .ok (.ifCond .eq 16, 3) := by decide +kernel
theorem dX5_piece_25 : decode cX5_piece 25 = .ok (.aload_n 0, 1) := by decide +kernel
theorem dX5_piece_26 : decode cX5_piece 26 = .ok (.bipush 41, 2) := by decide +kernel
theorem dX5_piece_28 : decode cX5_piece 28 = .ok (.invokevirtual 68, 3) := by decide +kernel
theorem dX5_piece_31 : decode cX5_piece 31 = .ok (.ifCond .eq 7, 3) := by decide +kernel
theorem dX5_piece_34 : decode cX5_piece 34 = .ok (.iconst 1, 1) := by decide +kernel
theorem dX5_piece_35 : decode cX5_piece 35 = .ok (.goto 4, 3) := by decide +kernel
theorem dX5_piece_38 : decode cX5_piece 38 = .ok (.iconst 0, 1) := by decide +kernel
theorem dX5_piece_39 : decode cX5_piece 39 = .ok (.ireturn, 1) := by decide +kernel
theorem dX5_piece_40 : decode cX5_piece 40 = .ok (.aload_n 0, 1) := by decide +kernel
theorem dX5_piece_41 : decode cX5_piece 41 = .ok (.invokevirtual 44, 3) := by decide +kernel
theorem dX5_piece_44 : decode cX5_piece 44 = .ok (.bipush 33, 2) := by decide +kernel
theorem dX5_piece_46 : decode cX5_piece 46 = .ok (.if_icmp .eq 8, 3) := by decide +kernel
theorem dX5_piece_49 : decode cX5_piece 49 = .ok (.aload_n 0, 1) := by decide +kernel
theorem dX5_piece_50 : decode cX5_piece 50 = .ok (.invokevirtual 81, 3) := by decide +kernel
theorem dX5_piece_53 : decode cX5_piece 53 = .ok (.ireturn, 1) := by decide +kernel
theorem dX5_piece_54 : decode cX5_piece 54 = .ok (.aload_n 0, 1) := by decide +kernel
theorem dX5_piece_55 : decode cX5_piece 55 = .ok (.bipush 33, 2) := by decide +kernel
theorem dX5_piece_57 : decode cX5_piece 57 = .ok (.invokevirtual 62, 3) := by decide +kernel
theorem dX5_piece_60 : decode cX5_piece 60 = .ok (.ifCond .eq 10, 3) := by decide +kernel
theorem dX5_piece_63 : decode cX5_piece 63 = .ok (.aload_n 0, 1) := by decide +kernel
theorem dX5_piece_64 : decode cX5_piece 64 = .ok (.invokevirtual 78, 3) := by decide +kernel
theorem dX5_piece_67 : decode cX5_piece 67 = .ok (.ifCond .ne 5, 3) := by decide +kernel
theorem dX5_piece_70 : decode cX5_piece 70 = .ok (.iconst 0, 1) := by decide +kernel
theorem dX5_piece_71 : decode cX5_piece 71 = .ok (.ireturn, 1) := by decide +kernel
theorem dX5_piece_72 : decode cX5_piece 72 = .ok (.aload_n 0, 1) := by decide +kernel
theorem dX5_piece_73 : decode cX5_piece 73 = .ok (.dup, 1) := by decide +kernel
theorem dX5_piece_74 : decode cX5_piece 74 = .ok (.getfield 31, 3) := by decide +kernel
theorem dX5_piece_77 : decode cX5_piece 77 = .ok (.iconst 1, 1) := by decide +kernel
theorem dX5_piece_78 : decode cX5_piece 78 = .ok (.isub, 1) := by decide +kernel
theorem dX5_piece_79 : decode cX5_piece 79 = .ok (.putfield 31, 3) := by decide +kernel
theorem dX5_piece_82 : decode cX5_piece 82 = .ok (.aload_n 0, 1) := by decide +kernel
theorem dX5_piece_83 : decode cX5_piece 83 = .ok (.getfield 15, 3) := by decide +kernel
theorem dX5_piece_86 : decode cX5_piece 86 = .ok (.iconst 4, 1) := by decide +kernel
theorem dX5_piece_87 : decode cX5_piece 87 = .ok (.iconst 0, 1) := by decide +kernel
theorem dX5_piece_88 : decode cX5_piece 88 = .ok (.invokevirtual 58, 3) := by decide +kernel
theorem dX5_piece_91 : decode cX5_piece 91 = .ok (.pop, 1) := by decide +kernel
theorem dX5_piece_92 : decode cX5_piece 92 = .ok (.iconst 1, 1) := by decide +kernel
theorem dX5_piece_93 : decode cX5_piece 93 = .ok (.ireturn, 1) := by decide +kernel
theorem dX5_comparison_0 : decode cX5_comparison 0 = .ok (.aload_n 0, 1) := by decide +kernel
theorem dX5_comparison_1 : decode cX5_comparison 1 = .ok (.invokevirtual 84, 3) := by decide +kernel
theorem dX5_comparison_4 : decode cX5_comparison 4 = .ok (.ifCond .ne 5, 3) := by decide +kernel
theorem dX5_comparison_7 : decode cX5_comparison 7 = .ok (.iconst 0, 1) := by decide +kernel
theorem dX5_comparison_8 : decode cX5_comparison 8 = .ok (.ireturn, 1) := by decide +kernel
theorem dX5_comparison_9 : decode cX5_comparison 9 = .ok (.aload_n 0, 1) := by decide +kernel
theorem dX5_comparison_10 : decode cX5_comparison 10 = .ok (.invokevirtual 44, 3) := by decide +kernel
theorem dX5_comparison_13 : decode cX5_comparison 13 = .ok (.invokestatic 87, 3) := by decide +kernel
theorem dX5_comparison_16 : decode cX5_comparison 16 = .ok (.istore_n 1, 1) := by decide +kernel
theorem dX5_comparison_17 : decode cX5_comparison 17 = .ok (.iload_n 1, 1) := by decide +kernel
theorem dX5_comparison_18 : decode cX5_comparison 18 = .ok (.iconst (-1), 1) := by decide +kernel
theorem dX5_comparison_19 : decode cX5_comparison 19 = .ok (.if_icmp .ne 9, 3) := by decide +kernel
theorem dX5_comparison_22 : decode cX5_comparison 22 = .ok (.aload_n 0, 1) := by decide +kernel
theorem dX5_comparison_23 : decode cX5_comparison 23 = .ok (.iconst 1, 1) := by decide +kernel
theorem dX5_comparison_24 : decode cX5_comparison 24 = .ok (.invokevirtual 48, 3) := by decide +kernel
theorem dX5_comparison_27 : decode cX5_comparison 27 = .ok (.ireturn, 1) := by decide +kernel
theorem dX5_comparison_28 : decode cX5_comparison 28 = .ok (.aload_n 0, 1) := by decide +kernel
theorem dX5_comparison_29 : decode cX5_comparison 29 = .ok (.dup, 1) := by decide +kernel
theorem dX5_comparison_30 : decode cX5_comparison 30 = .ok (.getfield 28, 3) := by decide +kernel
theorem dX5_comparison_33 : decode cX5_comparison 33 = .ok (.iconst 1, 1) := by decide +kernel
theorem dX5_comparison_34 : decode cX5_comparison 34 = .ok (.iadd, 1) := by decide +kernel
theorem dX5_comparison_35 : decode cX5_comparison 35 = .ok (.putfield 28, 3) := by decide +kernel
theorem dX5_comparison_38 : decode cX5_comparison 38 = .ok (.aload_n 0, 1) := by decide +kernel
theorem dX5_comparison_39 : decode cX5_comparison 39 = .ok (.invokevirtual 84, 3) := by decide +kernel
theorem dX5_comparison_42 : decode cX5_comparison 42 = .ok (.ifCond .ne 5, 3) := by decide +kernel
theorem dX5_comparison_45 : decode cX5_comparison 45 = .ok (.iconst 0, 1) := by decide +kernel
theorem dX5_comparison_46 : decode cX5_comparison 46 = .ok (.ireturn, 1) := by decide +kernel
theorem dX5_comparison_47 : decode cX5_comparison 47 = .ok (.aload_n 0, 1) := by decide +kernel
theorem dX5_comparison_48 : decode cX5_comparison 48 = .ok (.getfield 15, 3) := by decide +kernel
theorem dX5_comparison_51 : decode cX5_comparison 51 = .ok (.iload_n 1, 1) := by decide +kernel
theorem dX5_comparison_52 : decode cX5_comparison 52 = .ok (.iconst 0, 1) := by decide +kernel
theorem dX5_comparison_53 : decode cX5_comparison 53 = .ok (.invokevirtual 58, 3) := by decide +kernel
theorem dX5_comparison_56 : decode cX5_comparison 56 = .ok (.pop, 1) := by decide +kernel
theorem dX5_comparison_57 : decode cX5_comparison 57 = .ok (.iconst 1, 1) := by decide +kernel
theorem dX5_comparison_58 : decode cX5_comparison 58 = .ok (.ireturn, 1) := by decide +kernel
theorem dX5_sum_0 : decode cX5_sum 0 = .ok (.aload_n 0, 1) := by decide +kernel
theorem dX5_sum_1 : decode cX5_sum 1 = .ok (.invokevirtual 91, 3) := by decide +kernel
theorem dX5_sum_4 : decode cX5_sum 4 = .ok (.istore_n 1, 1) := by decide +kernel
theorem dX5_sum_5 : decode cX5_sum 5 = .ok (.iconst 0, 1) := by decide +kernel
theorem dX5_sum_6 : decode cX5_sum 6 = .ok (.istore_n 2, 1) := by decide +kernel
theorem dX5_sum_7 : decode cX5_sum 7 = .ok (.iload_n 2, 1) := by decide +kernel
theorem dX5_sum_8 : decode cX5_sum 8 = .ok (.bipush 120, 2) := by decide +kernel
theorem dX5_sum_10 : decode cX5_sum 10 = .ok (.if_icmp .ge 57, 3) := by decide +kernel
theorem dX5_sum_13 : decode cX5_sum 13 = .ok (.iload_n 1, 1) := by decide +kernel
theorem dX5_sum_14 : decode cX5_sum 14 = .ok (.ifCond .eq 53, 3) := by decide +kernel
theorem dX5_sum_17 : decode cX5_sum 17 = .ok (.aload_n 0, 1) := by decide +kernel
theorem dX5_sum_18 : decode cX5_sum 18 = .ok (.invokevirtual 44, 3) := by decide +kernel
theorem dX5_sum_21 : decode cX5_sum 21 = .ok (.invokestatic 94, 3) := by decide +kernel
theorem dX5_sum_24 : decode cX5_sum 24 = .ok (.iconst (-1), 1) := by decide +kernel
theorem dX5_sum_25 : decode cX5_sum 25 = .ok (.if_icmp .eq 42, 3) := by decide +kernel
theorem dX5_sum_28 : decode cX5_sum 28 = .ok (.aload_n 0, 1) := by decide +kernel
theorem dX5_sum_29 : decode cX5_sum 29 = .ok (.invokevirtual 44, 3) := by decide +kernel
theorem dX5_sum_32 : decode cX5_sum 32 = .ok (.invokestatic 94, 3) := by decide +kernel
theorem dX5_sum_35 : decode cX5_sum 35 = .ok (.istore_n 3, 1) := by decide +kernel
theorem dX5_sum_36 : decode cX5_sum 36 = .ok (.aload_n 0, 1) := by decide +kernel
theorem dX5_sum_37 : decode cX5_sum 37 = .ok (.dup, 1) := by decide +kernel
theorem dX5_sum_38 : decode cX5_sum 38 = .ok (.getfield 28, 3) := by decide +kernel
theorem dX5_sum_41 : decode cX5_sum 41 = .ok (.iconst 1, 1) := by decide +kernel
theorem dX5_sum_42 : decode cX5_sum 42 = .ok (.iadd, 1) := by decide +kernel
theorem dX5_sum_43 : decode cX5_sum 43 = .ok (.putfield 28, 3) := by decide +kernel
theorem dX5_sum_46 : decode cX5_sum 46 = .ok (.aload_n 0, 1) := by decide +kernel
theorem dX5_sum_47 : decode cX5_sum 47 = .ok (.invokevirtual 91, 3) := by decide +kernel
theorem dX5_sum_50 : decode cX5_sum 50 = .ok (.istore_n 1, 1) := by decide +kernel
theorem dX5_sum_51 : decode cX5_sum 51 = .ok (.aload_n 0, 1) := by decide +kernel
theorem dX5_sum_52 : decode cX5_sum 52 = .ok (.getfield 15, 3) := by decide +kernel
theorem dX5_sum_55 : decode cX5_sum 55 = .ok (.iload_n 3, 1) := by decide +kernel
theorem dX5_sum_56 : decode cX5_sum 56 = .ok (.iconst 0, 1) := by decide +kernel
theorem dX5_sum_57 : decode cX5_sum 57 = .ok (.invokevirtual 58, 3) := by decide +kernel
theorem dX5_sum_60 : decode cX5_sum 60 = .ok (.pop, 1) := by decide +kernel
theorem dX5_sum_61 : decode cX5_sum 61 = .ok (.iinc 2 1, 3) := by decide +kernel
theorem dX5_sum_64 : decode cX5_sum 64 = .ok (.goto (-57), 3) := by decide +kernel
theorem dX5_sum_67 : decode cX5_sum 67 = .ok (.iload_n 1, 1) := by decide +kernel
theorem dX5_sum_68 : decode cX5_sum 68 = .ok (.ireturn, 1) := by decide +kernel
theorem dX5_term_0 : decode cX5_term 0 = .ok (.aload_n 0, 1) := by decide +kernel
theorem dX5_term_1 : decode cX5_term 1 = .ok (.invokevirtual 97, 3) := by decide +kernel
theorem dX5_term_4 : decode cX5_term 4 = .ok (.istore_n 1, 1) := by decide +kernel
theorem dX5_term_5 : decode cX5_term 5 = .ok (.iconst 0, 1) := by decide +kernel
theorem dX5_term_6 : decode cX5_term 6 = .ok (.istore_n 2, 1) := by decide +kernel
theorem dX5_term_7 : decode cX5_term 7 = .ok (.iload_n 2, 1) := by decide +kernel
theorem dX5_term_8 : decode cX5_term 8 = .ok (.bipush 120, 2) := by decide +kernel
theorem dX5_term_10 : decode cX5_term 10 = .ok (.if_icmp .ge 57, 3) := by decide +kernel
theorem dX5_term_13 : decode cX5_term 13 = .ok (.iload_n 1, 1) := by decide +kernel
theorem dX5_term_14 : decode cX5_term 14 = .ok (.ifCond .eq 53, 3) := by decide +kernel
theorem dX5_term_17 : decode cX5_term 17 = .ok (.aload_n 0, 1) := by decide +kernel
theorem dX5_term_18 : decode cX5_term 18 = .ok (.invokevirtual 44, 3) := by decide +kernel
theorem dX5_term_21 : decode cX5_term 21 = .ok (.invokestatic 100, 3) := by decide +kernel
theorem dX5_term_24 : decode cX5_term 24 = .ok (.iconst (-1), 1) := by decide +kernel
theorem dX5_term_25 : decode cX5_term 25 = .ok (.if_icmp .eq 42, 3) := by decide +kernel
theorem dX5_term_28 : decode cX5_term 28 = .ok (.aload_n 0, 1) := by decide +kernel
theorem dX5_term_29 : decode cX5_term 29 = .ok (.invokevirtual 44, 3) := by decide +kernel
theorem dX5_term_32 : decode cX5_term 32 = .ok (.invokestatic 100, 3) := by decide +kernel
theorem dX5_term_35 : decode cX5_term 35 = .ok (.istore_n 3, 1) := by decide +kernel
theorem dX5_term_36 : decode cX5_term 36 = .ok (.aload_n 0, 1) := by decide +kernel
theorem dX5_term_37 : decode cX5_term 37 = .ok (.dup, 1) := by decide +kernel
theorem dX5_term_38 : decode cX5_term 38 = .ok (.getfield 28, 3) := by decide +kernel
theorem dX5_term_41 : decode cX5_term 41 = .ok (.iconst 1, 1) := by decide +kernel
theorem dX5_term_42 : decode cX5_term 42 = .ok (.iadd, 1) := by decide +kernel
theorem dX5_term_43 : decode cX5_term 43 = .ok (.putfield 28, 3) := by decide +kernel
theorem dX5_term_46 : decode cX5_term 46 = .ok (.aload_n 0, 1) := by decide +kernel
theorem dX5_term_47 : decode cX5_term 47 = .ok (.invokevirtual 97, 3) := by decide +kernel
theorem dX5_term_50 : decode cX5_term 50 = .ok (.istore_n 1, 1) := by decide +kernel
theorem dX5_term_51 : decode cX5_term 51 = .ok (.aload_n 0, 1) := by decide +kernel
theorem dX5_term_52 : decode cX5_term 52 = .ok (.getfield 15, 3) := by decide +kernel
theorem dX5_term_55 : decode cX5_term 55 = .ok (.iload_n 3, 1) := by decide +kernel
theorem dX5_term_56 : decode cX5_term 56 = .ok (.iconst 0, 1) := by decide +kernel
theorem dX5_term_57 : decode cX5_term 57 = .ok (.invokevirtual 58, 3) := by decide +kernel
theorem dX5_term_60 : decode cX5_term 60 = .ok (.pop, 1) := by decide +kernel
theorem dX5_term_61 : decode cX5_term 61 = .ok (.iinc 2 1, 3) := by decide +kernel
theorem dX5_term_64 : decode cX5_term 64 = .ok (.goto (-57), 3) := by decide +kernel
theorem dX5_term_67 : decode cX5_term 67 = .ok (.iload_n 1, 1) := by decide +kernel
theorem dX5_term_68 : decode cX5_term 68 = .ok (.ireturn, 1) := by decide +kernel
theorem dX5_factor_0 : decode cX5_factor 0 = .ok (.aload_n 0, 1) := by decide +kernel
theorem dX5_factor_1 : decode cX5_factor 1 = .ok (.invokevirtual 44, 3) := by decide +kernel
theorem dX5_factor_4 : decode cX5_factor 4 = .ok (.istore_n 1, 1) := by decide +kernel
theorem dX5_factor_5 : decode cX5_factor 5 = .ok (.iload_n 1, 1) := by decide +kernel
theorem dX5_factor_6 : decode cX5_factor 6 = .ok (.bipush 91, 2) := by decide +kernel
theorem dX5_factor_8 : decode cX5_factor 8 = .ok (.if_icmp .ne 34, 3) := by decide +kernel
theorem dX5_factor_11 : decode cX5_factor 11 = .ok (.aload_n 0, 1) := by decide +kernel
theorem dX5_factor_12 : decode cX5_factor 12 = .ok (.bipush 91, 2) := by decide +kernel
theorem dX5_factor_14 : decode cX5_factor 14 = .ok (.invokevirtual 62, 3) := by decide +kernel
theorem dX5_factor_17 : decode cX5_factor 17 = .ok (.ifCond .eq 23, 3) := by decide +kernel
theorem dX5_factor_20 : decode cX5_factor 20 = .ok (.aload_n 0, 1) := by decide +kernel
theorem dX5_factor_21 : decode cX5_factor 21 = .ok (.invokevirtual 84, 3) := by decide +kernel
theorem dX5_factor_24 : decode cX5_factor 24 = .ok (.ifCond .eq 16, 3) := by decide +kernel
theorem dX5_factor_27 : decode cX5_factor 27 = .ok (.aload_n 0, 1) := by decide +kernel
theorem dX5_factor_28 : decode cX5_factor 28 = .ok (.bipush 93, 2) := by decide +kernel
theorem dX5_factor_30 : decode cX5_factor 30 = .ok (.invokevirtual 68, 3) := by decide +kernel
theorem dX5_factor_33 : decode cX5_factor 33 = .ok (.ifCond .eq 7, 3) := by decide +kernel
theorem dX5_factor_36 : decode cX5_factor 36 = .ok (.iconst 1, 1) := by decide +kernel
theorem dX5_factor_37 : decode cX5_factor 37 = .ok (.goto 4, 3) := by decide +kernel
theorem dX5_factor_40 : decode cX5_factor 40 = .ok (.iconst 0, 1) := by decide +kernel
theorem dX5_factor_41 : decode cX5_factor 41 = .ok (.ireturn, 1) := by decide +kernel
theorem dX5_factor_42 : decode cX5_factor 42 = .ok (.iload_n 1, 1) := by decide +kernel
theorem dX5_factor_43 : decode cX5_factor 43 = .ok (.invokestatic 103, 3) := by decide +kernel
theorem dX5_factor_46 : decode cX5_factor 46 = .ok (.ifCond .eq 8, 3) := by decide +kernel
theorem dX5_factor_49 : decode cX5_factor 49 = .ok (.aload_n 0, 1) := by decide +kernel
theorem dX5_factor_50 : decode cX5_factor 50 = .ok (.invokevirtual 106, 3) := by decide +kernel
theorem dX5_factor_53 : decode cX5_factor 53 = .ok (.ireturn, 1) := by decide +kernel
theorem dX5_factor_54 : decode cX5_factor 54 = .ok (.iload_n 1, 1) := by decide +kernel
theorem dX5_factor_55 : decode cX5_factor 55 = .ok (.iconst (-1), 1) := by decide +kernel
theorem dX5_factor_56 : decode cX5_factor 56 = .ok (.if_icmp .eq 13, 3) := by decide +kernel
theorem dX5_factor_59 : decode cX5_factor 59 = .ok (.ldc 109, 2) := by decide +kernel
theorem dX5_factor_61 : decode cX5_factor 61 = .ok (.iload_n 1, 1) := by decide +kernel
theorem dX5_factor_62 : decode cX5_factor 62 = .ok (.i2c, 1) := by decide +kernel
theorem dX5_factor_63 : decode cX5_factor 63 = .ok (.invokevirtual 111, 3) := by decide +kernel
theorem dX5_factor_66 : decode cX5_factor 66 = .ok (.ifCond .ge 9, 3) := by decide +kernel
theorem dX5_factor_69 : decode cX5_factor 69 = .ok (.aload_n 0, 1) := by decide +kernel
theorem dX5_factor_70 : decode cX5_factor 70 = .ok (.iconst 1, 1) := by decide +kernel
theorem dX5_factor_71 : decode cX5_factor 71 = .ok (.invokevirtual 48, 3) := by decide +kernel
theorem dX5_factor_74 : decode cX5_factor 74 = .ok (.ireturn, 1) := by decide +kernel
theorem dX5_factor_75 : decode cX5_factor 75 = .ok (.aload_n 0, 1) := by decide +kernel
theorem dX5_factor_76 : decode cX5_factor 76 = .ok (.dup, 1) := by decide +kernel
theorem dX5_factor_77 : decode cX5_factor 77 = .ok (.getfield 28, 3) := by decide +kernel
theorem dX5_factor_80 : decode cX5_factor 80 = .ok (.iconst 1, 1) := by decide +kernel
theorem dX5_factor_81 : decode cX5_factor 81 = .ok (.iadd, 1) := by decide +kernel
theorem dX5_factor_82 : decode cX5_factor 82 = .ok (.putfield 28, 3) := by decide +kernel
theorem dX5_factor_85 : decode cX5_factor 85 = .ok (.aload_n 0, 1) := by decide +kernel
theorem dX5_factor_86 : decode cX5_factor 86 = .ok (.getfield 15, 3) := by decide +kernel
theorem dX5_factor_89 : decode cX5_factor 89 = .ok (.iconst 3, 1) := by decide +kernel
theorem dX5_factor_90 : decode cX5_factor 90 = .ok (.iload_n 1, 1) := by decide +kernel
theorem dX5_factor_91 : decode cX5_factor 91 = .ok (.invokevirtual 58, 3) := by decide +kernel
theorem dX5_factor_94 : decode cX5_factor 94 = .ok (.pop, 1) := by decide +kernel
theorem dX5_factor_95 : decode cX5_factor 95 = .ok (.iconst 1, 1) := by decide +kernel
theorem dX5_factor_96 : decode cX5_factor 96 = .ok (.ireturn, 1) := by decide +kernel
theorem dX5_number_0 : decode cX5_number 0 = .ok (.iconst 0, 1) := by decide +kernel
theorem dX5_number_1 : decode cX5_number 1 = .ok (.istore_n 1, 1) := by decide +kernel
theorem dX5_number_2 : decode cX5_number 2 = .ok (.iconst 0, 1) := by decide +kernel
theorem dX5_number_3 : decode cX5_number 3 = .ok (.istore_n 2, 1) := by decide +kernel
theorem dX5_number_4 : decode cX5_number 4 = .ok (.iload_n 2, 1) := by decide +kernel
theorem dX5_number_5 : decode cX5_number 5 = .ok (.iconst 5, 1) := by decide +kernel
theorem dX5_number_6 : decode cX5_number 6 = .ok (.if_icmp .ge 42, 3) := by decide +kernel
theorem dX5_number_9 : decode cX5_number 9 = .ok (.aload_n 0, 1) := by decide +kernel
theorem dX5_number_10 : decode cX5_number 10 = .ok (.invokevirtual 44, 3) := by decide +kernel
theorem dX5_number_13 : decode cX5_number 13 = .ok (.invokestatic 103, 3) := by decide +kernel
theorem dX5_number_16 : decode cX5_number 16 = .ok (.ifCond .eq 32, 3) := by decide +kernel
theorem dX5_number_19 : decode cX5_number 19 = .ok (.bipush 10, 2) := by decide +kernel
theorem dX5_number_21 : decode cX5_number 21 = .ok (.iload_n 1, 1) := by decide +kernel
theorem dX5_number_22 : decode cX5_number 22 = .ok (.imul, 1) := by decide +kernel
theorem dX5_number_23 : decode cX5_number 23 = .ok (.aload_n 0, 1) := by decide +kernel
theorem dX5_number_24 : decode cX5_number 24 = .ok (.invokevirtual 44, 3) := by decide +kernel
theorem dX5_number_27 : decode cX5_number 27 = .ok (.iadd, 1) := by decide +kernel
theorem dX5_number_28 : decode cX5_number 28 = .ok (.bipush 48, 2) := by decide +kernel
theorem dX5_number_30 : decode cX5_number 30 = .ok (.isub, 1) := by decide +kernel
theorem dX5_number_31 : decode cX5_number 31 = .ok (.istore_n 1, 1) := by decide +kernel
theorem dX5_number_32 : decode cX5_number 32 = .ok (.aload_n 0, 1) := by decide +kernel
theorem dX5_number_33 : decode cX5_number 33 = .ok (.dup, 1) := by decide +kernel
theorem dX5_number_34 : decode cX5_number 34 = .ok (.getfield 28, 3) := by decide +kernel
theorem dX5_number_37 : decode cX5_number 37 = .ok (.iconst 1, 1) := by decide +kernel
theorem dX5_number_38 : decode cX5_number 38 = .ok (.iadd, 1) := by decide +kernel
theorem dX5_number_39 : decode cX5_number 39 = .ok (.putfield 28, 3) := by decide +kernel
theorem dX5_number_42 : decode cX5_number 42 = .ok (.iinc 2 1, 3) := by decide +kernel
theorem dX5_number_45 : decode cX5_number 45 = .ok (.goto (-41), 3) := by decide +kernel
theorem dX5_number_48 : decode cX5_number 48 = .ok (.aload_n 0, 1) := by decide +kernel
theorem dX5_number_49 : decode cX5_number 49 = .ok (.invokevirtual 44, 3) := by decide +kernel
theorem dX5_number_52 : decode cX5_number 52 = .ok (.invokestatic 103, 3) := by decide +kernel
theorem dX5_number_55 : decode cX5_number 55 = .ok (.ifCond .eq 9, 3) := by decide +kernel
theorem dX5_number_58 : decode cX5_number 58 = .ok (.aload_n 0, 1) := by decide +kernel
theorem dX5_number_59 : decode cX5_number 59 = .ok (.iconst 2, 1) := by decide +kernel
theorem dX5_number_60 : decode cX5_number 60 = .ok (.invokevirtual 48, 3) := by decide +kernel
theorem dX5_number_63 : decode cX5_number 63 = .ok (.ireturn, 1) := by decide +kernel
theorem dX5_number_64 : decode cX5_number 64 = .ok (.aload_n 0, 1) := by decide +kernel
theorem dX5_number_65 : decode cX5_number 65 = .ok (.getfield 15, 3) := by decide +kernel
theorem dX5_number_68 : decode cX5_number 68 = .ok (.iconst 2, 1) := by decide +kernel
theorem dX5_number_69 : decode cX5_number 69 = .ok (.iload_n 1, 1) := by decide +kernel
theorem dX5_number_70 : decode cX5_number 70 = .ok (.invokevirtual 58, 3) := by decide +kernel
theorem dX5_number_73 : decode cX5_number 73 = .ok (.pop, 1) := by decide +kernel
theorem dX5_number_74 : decode cX5_number 74 = .ok (.iconst 1, 1) := by decide +kernel
theorem dX5_number_75 : decode cX5_number 75 = .ok (.ireturn, 1) := by decide +kernel
theorem dX5_isDigit_0 : decode cX5_isDigit 0 = .ok (.iload_n 0, 1) := by decide +kernel
theorem dX5_isDigit_1 : decode cX5_isDigit 1 = .ok (.bipush 48, 2) := by decide +kernel
theorem dX5_isDigit_3 : decode cX5_isDigit 3 = .ok (.if_icmp .lt 13, 3) := by decide +kernel
theorem dX5_isDigit_6 : decode cX5_isDigit 6 = .ok (.iload_n 0, 1) := by decide +kernel
theorem dX5_isDigit_7 : decode cX5_isDigit 7 = .ok (.bipush 57, 2) := by decide +kernel
theorem dX5_isDigit_9 : decode cX5_isDigit 9 = .ok (.if_icmp .gt 7, 3) := by decide +kernel
theorem dX5_isDigit_12 : decode cX5_isDigit 12 = .ok (.iconst 1, 1) := by decide +kernel
theorem dX5_isDigit_13 : decode cX5_isDigit 13 = .ok (.goto 4, 3) := by decide +kernel
theorem dX5_isDigit_16 : decode cX5_isDigit 16 = .ok (.iconst 0, 1) := by decide +kernel
theorem dX5_isDigit_17 : decode cX5_isDigit 17 = .ok (.ireturn, 1) := by decide +kernel
theorem dX5_comparing_0 : decode cX5_comparing 0 = .ok (.iload_n 0, 1) := by decide +kernel
theorem dX5_comparing_1 : decode cX5_comparing 1 = .ok (.tableswitch 36 60 62 #[27, 33, 30], 27) := by decide +kernel
theorem dX5_comparing_28 : decode cX5_comparing 28 = .ok (.bipush 12, 2) := by decide +kernel
theorem dX5_comparing_30 : decode cX5_comparing 30 = .ok (.ireturn, 1) := by decide +kernel
theorem dX5_comparing_31 : decode cX5_comparing 31 = .ok (.bipush 13, 2) := by decide +kernel
theorem dX5_comparing_33 : decode cX5_comparing 33 = .ok (.ireturn, 1) := by decide +kernel
theorem dX5_comparing_34 : decode cX5_comparing 34 = .ok (.bipush 14, 2) := by decide +kernel
theorem dX5_comparing_36 : decode cX5_comparing 36 = .ok (.ireturn, 1) := by decide +kernel
theorem dX5_comparing_37 : decode cX5_comparing 37 = .ok (.iconst (-1), 1) := by decide +kernel
theorem dX5_comparing_38 : decode cX5_comparing 38 = .ok (.ireturn, 1) := by decide +kernel
theorem dX5_adding_0 : decode cX5_adding 0 = .ok (.iload_n 0, 1) := by decide +kernel
theorem dX5_adding_1 : decode cX5_adding 1 = .ok (.lookupswitch 33 #[(43, 27), (45, 30)], 27) := by decide +kernel
theorem dX5_adding_28 : decode cX5_adding 28 = .ok (.bipush 7, 2) := by decide +kernel
theorem dX5_adding_30 : decode cX5_adding 30 = .ok (.ireturn, 1) := by decide +kernel
theorem dX5_adding_31 : decode cX5_adding 31 = .ok (.bipush 8, 2) := by decide +kernel
theorem dX5_adding_33 : decode cX5_adding 33 = .ok (.ireturn, 1) := by decide +kernel
theorem dX5_adding_34 : decode cX5_adding 34 = .ok (.iconst (-1), 1) := by decide +kernel
theorem dX5_adding_35 : decode cX5_adding 35 = .ok (.ireturn, 1) := by decide +kernel
theorem dX5_timing_0 : decode cX5_timing 0 = .ok (.iload_n 0, 1) := by decide +kernel
theorem dX5_timing_1 : decode cX5_timing 1 = .ok (.lookupswitch 44 #[(37, 41), (42, 35), (47, 38)], 35) := by decide +kernel
theorem dX5_timing_36 : decode cX5_timing 36 = .ok (.bipush 9, 2) := by decide +kernel
theorem dX5_timing_38 : decode cX5_timing 38 = .ok (.ireturn, 1) := by decide +kernel
theorem dX5_timing_39 : decode cX5_timing 39 = .ok (.bipush 10, 2) := by decide +kernel
theorem dX5_timing_41 : decode cX5_timing 41 = .ok (.ireturn, 1) := by decide +kernel
theorem dX5_timing_42 : decode cX5_timing 42 = .ok (.bipush 11, 2) := by decide +kernel
theorem dX5_timing_44 : decode cX5_timing 44 = .ok (.ireturn, 1) := by decide +kernel
theorem dX5_timing_45 : decode cX5_timing 45 = .ok (.iconst (-1), 1) := by decide +kernel
theorem dX5_timing_46 : decode cX5_timing 46 = .ok (.ireturn, 1) := by decide +kernel
theorem dJ11_isValidCodePoint_9a6ad_0 : decode cJ11_isValidCodePoint_9a6ad 0 = .ok (.iload_n 0, 1) := by decide +kernel
theorem dJ11_isValidCodePoint_9a6ad_1 : decode cJ11_isValidCodePoint_9a6ad 1 = .ok (.bipush 16, 2) := by decide +kernel
theorem dJ11_isValidCodePoint_9a6ad_3 : decode cJ11_isValidCodePoint_9a6ad 3 = .ok (.iushr, 1) := by decide +kernel
theorem dJ11_isValidCodePoint_9a6ad_4 : decode cJ11_isValidCodePoint_9a6ad 4 = .ok (.istore_n 1, 1) := by decide +kernel
theorem dJ11_isValidCodePoint_9a6ad_5 : decode cJ11_isValidCodePoint_9a6ad 5 = .ok (.iload_n 1, 1) := by decide +kernel
theorem dJ11_isValidCodePoint_9a6ad_6 : decode cJ11_isValidCodePoint_9a6ad 6 = .ok (.bipush 17, 2) := by decide +kernel
theorem dJ11_isValidCodePoint_9a6ad_8 : decode cJ11_isValidCodePoint_9a6ad 8 = .ok (.if_icmp .ge 7, 3) := by decide +kernel
theorem dJ11_isValidCodePoint_9a6ad_11 : decode cJ11_isValidCodePoint_9a6ad 11 = .ok (.iconst 1, 1) := by decide +kernel
theorem dJ11_isValidCodePoint_9a6ad_12 : decode cJ11_isValidCodePoint_9a6ad 12 = .ok (.goto 4, 3) := by decide +kernel
theorem dJ11_isValidCodePoint_9a6ad_15 : decode cJ11_isValidCodePoint_9a6ad 15 = .ok (.iconst 0, 1) := by decide +kernel
theorem dJ11_isValidCodePoint_9a6ad_16 : decode cJ11_isValidCodePoint_9a6ad 16 = .ok (.ireturn, 1) := by decide +kernel
theorem dJ11_highSurrogate_5068e_0 : decode cJ11_highSurrogate_5068e 0 = .ok (.iload_n 0, 1) := by decide +kernel
theorem dJ11_highSurrogate_5068e_1 : decode cJ11_highSurrogate_5068e 1 = .ok (.bipush 10, 2) := by decide +kernel
theorem dJ11_highSurrogate_5068e_3 : decode cJ11_highSurrogate_5068e 3 = .ok (.iushr, 1) := by decide +kernel
theorem dJ11_highSurrogate_5068e_4 : decode cJ11_highSurrogate_5068e 4 = .ok (.ldc 110, 2) := by decide +kernel
theorem dJ11_highSurrogate_5068e_6 : decode cJ11_highSurrogate_5068e 6 = .ok (.iadd, 1) := by decide +kernel
theorem dJ11_highSurrogate_5068e_7 : decode cJ11_highSurrogate_5068e 7 = .ok (.i2c, 1) := by decide +kernel
theorem dJ11_highSurrogate_5068e_8 : decode cJ11_highSurrogate_5068e 8 = .ok (.ireturn, 1) := by decide +kernel
theorem dJ11_lowSurrogate_5068e_0 : decode cJ11_lowSurrogate_5068e 0 = .ok (.iload_n 0, 1) := by decide +kernel
theorem dJ11_lowSurrogate_5068e_1 : decode cJ11_lowSurrogate_5068e 1 = .ok (.sipush 1023, 3) := by decide +kernel
theorem dJ11_lowSurrogate_5068e_4 : decode cJ11_lowSurrogate_5068e 4 = .ok (.iand, 1) := by decide +kernel
theorem dJ11_lowSurrogate_5068e_5 : decode cJ11_lowSurrogate_5068e 5 = .ok (.ldc 76, 2) := by decide +kernel
theorem dJ11_lowSurrogate_5068e_7 : decode cJ11_lowSurrogate_5068e 7 = .ok (.iadd, 1) := by decide +kernel
theorem dJ11_lowSurrogate_5068e_8 : decode cJ11_lowSurrogate_5068e 8 = .ok (.i2c, 1) := by decide +kernel
theorem dJ11_lowSurrogate_5068e_9 : decode cJ11_lowSurrogate_5068e 9 = .ok (.ireturn, 1) := by decide +kernel
theorem dJ6_compare_7cf53_0 : decode cJ6_compare_7cf53 0 = .ok (.iload_n 0, 1) := by decide +kernel
theorem dJ6_compare_7cf53_1 : decode cJ6_compare_7cf53 1 = .ok (.iload_n 1, 1) := by decide +kernel
theorem dJ6_compare_7cf53_2 : decode cJ6_compare_7cf53 2 = .ok (.if_icmp .ge 7, 3) := by decide +kernel
theorem dJ6_compare_7cf53_5 : decode cJ6_compare_7cf53 5 = .ok (.iconst (-1), 1) := by decide +kernel
theorem dJ6_compare_7cf53_6 : decode cJ6_compare_7cf53 6 = .ok (.goto 13, 3) := by decide +kernel
theorem dJ6_compare_7cf53_9 : decode cJ6_compare_7cf53 9 = .ok (.iload_n 0, 1) := by decide +kernel
theorem dJ6_compare_7cf53_10 : decode cJ6_compare_7cf53 10 = .ok (.iload_n 1, 1) := by decide +kernel
theorem dJ6_compare_7cf53_11 : decode cJ6_compare_7cf53 11 = .ok (.if_icmp .ne 7, 3) := by decide +kernel
theorem dJ6_compare_7cf53_14 : decode cJ6_compare_7cf53 14 = .ok (.iconst 0, 1) := by decide +kernel
theorem dJ6_compare_7cf53_15 : decode cJ6_compare_7cf53 15 = .ok (.goto 4, 3) := by decide +kernel
theorem dJ6_compare_7cf53_18 : decode cJ6_compare_7cf53 18 = .ok (.iconst 1, 1) := by decide +kernel
theorem dJ6_compare_7cf53_19 : decode cJ6_compare_7cf53 19 = .ok (.ireturn, 1) := by decide +kernel
theorem dJ6_bitCount_0f7a4_0 : decode cJ6_bitCount_0f7a4 0 = .ok (.iload_n 0, 1) := by decide +kernel
theorem dJ6_bitCount_0f7a4_1 : decode cJ6_bitCount_0f7a4 1 = .ok (.iload_n 0, 1) := by decide +kernel
theorem dJ6_bitCount_0f7a4_2 : decode cJ6_bitCount_0f7a4 2 = .ok (.iconst 1, 1) := by decide +kernel
theorem dJ6_bitCount_0f7a4_3 : decode cJ6_bitCount_0f7a4 3 = .ok (.iushr, 1) := by decide +kernel
theorem dJ6_bitCount_0f7a4_4 : decode cJ6_bitCount_0f7a4 4 = .ok (.ldc_w 265, 3) := by decide +kernel
theorem dJ6_bitCount_0f7a4_7 : decode cJ6_bitCount_0f7a4 7 = .ok (.iand, 1) := by decide +kernel
theorem dJ6_bitCount_0f7a4_8 : decode cJ6_bitCount_0f7a4 8 = .ok (.isub, 1) := by decide +kernel
theorem dJ6_bitCount_0f7a4_9 : decode cJ6_bitCount_0f7a4 9 = .ok (.istore_n 0, 1) := by decide +kernel
theorem dJ6_bitCount_0f7a4_10 : decode cJ6_bitCount_0f7a4 10 = .ok (.iload_n 0, 1) := by decide +kernel
theorem dJ6_bitCount_0f7a4_11 : decode cJ6_bitCount_0f7a4 11 = .ok (.ldc_w 266, 3) := by decide +kernel
theorem dJ6_bitCount_0f7a4_14 : decode cJ6_bitCount_0f7a4 14 = .ok (.iand, 1) := by decide +kernel
theorem dJ6_bitCount_0f7a4_15 : decode cJ6_bitCount_0f7a4 15 = .ok (.iload_n 0, 1) := by decide +kernel
theorem dJ6_bitCount_0f7a4_16 : decode cJ6_bitCount_0f7a4 16 = .ok (.iconst 2, 1) := by decide +kernel
theorem dJ6_bitCount_0f7a4_17 : decode cJ6_bitCount_0f7a4 17 = .ok (.iushr, 1) := by decide +kernel
theorem dJ6_bitCount_0f7a4_18 : decode cJ6_bitCount_0f7a4 18 = .ok (.ldc_w 266, 3) := by decide +kernel
theorem dJ6_bitCount_0f7a4_21 : decode cJ6_bitCount_0f7a4 21 = .ok (.iand, 1) := by decide +kernel
theorem dJ6_bitCount_0f7a4_22 : decode cJ6_bitCount_0f7a4 22 = .ok (.iadd, 1) := by decide +kernel
theorem dJ6_bitCount_0f7a4_23 : decode cJ6_bitCount_0f7a4 23 = .ok (.istore_n 0, 1) := by decide +kernel
theorem dJ6_bitCount_0f7a4_24 : decode cJ6_bitCount_0f7a4 24 = .ok (.iload_n 0, 1) := by decide +kernel
theorem dJ6_bitCount_0f7a4_25 : decode cJ6_bitCount_0f7a4 25 = .ok (.iload_n 0, 1) := by decide +kernel
theorem dJ6_bitCount_0f7a4_26 : decode cJ6_bitCount_0f7a4 26 = .ok (.iconst 4, 1) := by decide +kernel
theorem dJ6_bitCount_0f7a4_27 : decode cJ6_bitCount_0f7a4 27 = .ok (.iushr, 1) := by decide +kernel
theorem dJ6_bitCount_0f7a4_28 : decode cJ6_bitCount_0f7a4 28 = .ok (.iadd, 1) := by decide +kernel
theorem dJ6_bitCount_0f7a4_29 : decode cJ6_bitCount_0f7a4 29 = .ok (.ldc_w 267, 3) := by decide +kernel
theorem dJ6_bitCount_0f7a4_32 : decode cJ6_bitCount_0f7a4 32 = .ok (.iand, 1) := by decide +kernel
theorem dJ6_bitCount_0f7a4_33 : decode cJ6_bitCount_0f7a4 33 = .ok (.istore_n 0, 1) := by decide +kernel
theorem dJ6_bitCount_0f7a4_34 : decode cJ6_bitCount_0f7a4 34 = .ok (.iload_n 0, 1) := by decide +kernel
theorem dJ6_bitCount_0f7a4_35 : decode cJ6_bitCount_0f7a4 35 = .ok (.iload_n 0, 1) := by decide +kernel
theorem dJ6_bitCount_0f7a4_36 : decode cJ6_bitCount_0f7a4 36 = .ok (.bipush 8, 2) := by decide +kernel
theorem dJ6_bitCount_0f7a4_38 : decode cJ6_bitCount_0f7a4 38 = .ok (.iushr, 1) := by decide +kernel
theorem dJ6_bitCount_0f7a4_39 : decode cJ6_bitCount_0f7a4 39 = .ok (.iadd, 1) := by decide +kernel
theorem dJ6_bitCount_0f7a4_40 : decode cJ6_bitCount_0f7a4 40 = .ok (.istore_n 0, 1) := by decide +kernel
theorem dJ6_bitCount_0f7a4_41 : decode cJ6_bitCount_0f7a4 41 = .ok (.iload_n 0, 1) := by decide +kernel
theorem dJ6_bitCount_0f7a4_42 : decode cJ6_bitCount_0f7a4 42 = .ok (.iload_n 0, 1) := by decide +kernel
theorem dJ6_bitCount_0f7a4_43 : decode cJ6_bitCount_0f7a4 43 = .ok (.bipush 16, 2) := by decide +kernel
theorem dJ6_bitCount_0f7a4_45 : decode cJ6_bitCount_0f7a4 45 = .ok (.iushr, 1) := by decide +kernel
theorem dJ6_bitCount_0f7a4_46 : decode cJ6_bitCount_0f7a4 46 = .ok (.iadd, 1) := by decide +kernel
theorem dJ6_bitCount_0f7a4_47 : decode cJ6_bitCount_0f7a4 47 = .ok (.istore_n 0, 1) := by decide +kernel
theorem dJ6_bitCount_0f7a4_48 : decode cJ6_bitCount_0f7a4 48 = .ok (.iload_n 0, 1) := by decide +kernel
theorem dJ6_bitCount_0f7a4_49 : decode cJ6_bitCount_0f7a4 49 = .ok (.bipush 63, 2) := by decide +kernel
theorem dJ6_bitCount_0f7a4_51 : decode cJ6_bitCount_0f7a4 51 = .ok (.iand, 1) := by decide +kernel
theorem dJ6_bitCount_0f7a4_52 : decode cJ6_bitCount_0f7a4 52 = .ok (.ireturn, 1) := by decide +kernel
theorem dJ9_max_7cf53_0 : decode cJ9_max_7cf53 0 = .ok (.iload_n 0, 1) := by decide +kernel
theorem dJ9_max_7cf53_1 : decode cJ9_max_7cf53 1 = .ok (.iload_n 1, 1) := by decide +kernel
theorem dJ9_max_7cf53_2 : decode cJ9_max_7cf53 2 = .ok (.if_icmp .lt 7, 3) := by decide +kernel
theorem dJ9_max_7cf53_5 : decode cJ9_max_7cf53 5 = .ok (.iload_n 0, 1) := by decide +kernel
theorem dJ9_max_7cf53_6 : decode cJ9_max_7cf53 6 = .ok (.goto 4, 3) := by decide +kernel
theorem dJ9_max_7cf53_9 : decode cJ9_max_7cf53 9 = .ok (.iload_n 1, 1) := by decide +kernel
theorem dJ9_max_7cf53_10 : decode cJ9_max_7cf53 10 = .ok (.ireturn, 1) := by decide +kernel
theorem dJ9_min_7cf53_0 : decode cJ9_min_7cf53 0 = .ok (.iload_n 0, 1) := by decide +kernel
theorem dJ9_min_7cf53_1 : decode cJ9_min_7cf53 1 = .ok (.iload_n 1, 1) := by decide +kernel
theorem dJ9_min_7cf53_2 : decode cJ9_min_7cf53 2 = .ok (.if_icmp .gt 7, 3) := by decide +kernel
theorem dJ9_min_7cf53_5 : decode cJ9_min_7cf53 5 = .ok (.iload_n 0, 1) := by decide +kernel
theorem dJ9_min_7cf53_6 : decode cJ9_min_7cf53 6 = .ok (.goto 4, 3) := by decide +kernel
theorem dJ9_min_7cf53_9 : decode cJ9_min_7cf53 9 = .ok (.iload_n 1, 1) := by decide +kernel
theorem dJ9_min_7cf53_10 : decode cJ9_min_7cf53 10 = .ok (.ireturn, 1) := by decide +kernel
theorem dJ0_length_8abf5_0 : decode cJ0_length_8abf5 0 = .ok (.aload_n 0, 1) := by decide +kernel
theorem dJ0_length_8abf5_1 : decode cJ0_length_8abf5 1 = .ok (.getfield 9, 3) := by decide +kernel
theorem dJ0_length_8abf5_4 : decode cJ0_length_8abf5 4 = .ok (.arraylength, 1) := by decide +kernel
theorem dJ0_length_8abf5_5 : decode cJ0_length_8abf5 5 = .ok (.aload_n 0, 1) := by decide +kernel
theorem dJ0_length_8abf5_6 : decode cJ0_length_8abf5 6 = .ok (.invokevirtual 335, 3) := by decide +kernel
theorem dJ0_length_8abf5_9 : decode cJ0_length_8abf5 9 = .ok (.ishr, 1) := by decide +kernel
theorem dJ0_length_8abf5_10 : decode cJ0_length_8abf5 10 = .ok (.ireturn, 1) := by decide +kernel
theorem dJ0_indexOf_0f7a4_0 : decode cJ0_indexOf_0f7a4 0 = .ok (.aload_n 0, 1) := by decide +kernel
theorem dJ0_indexOf_0f7a4_1 : decode cJ0_indexOf_0f7a4 1 = .ok (.iload_n 1, 1) := by decide +kernel
theorem dJ0_indexOf_0f7a4_2 : decode cJ0_indexOf_0f7a4 2 = .ok (.iconst 0, 1) := by decide +kernel
theorem dJ0_indexOf_0f7a4_3 : decode cJ0_indexOf_0f7a4 3 = .ok (.invokevirtual 633, 3) := by decide +kernel
theorem dJ0_indexOf_0f7a4_6 : decode cJ0_indexOf_0f7a4 6 = .ok (.ireturn, 1) := by decide +kernel
theorem dJ0_indexOf_7cf53_0 : decode cJ0_indexOf_7cf53 0 = .ok (.aload_n 0, 1) := by decide +kernel
theorem dJ0_indexOf_7cf53_1 : decode cJ0_indexOf_7cf53 1 = .ok (.invokevirtual 492, 3) := by decide +kernel
theorem dJ0_indexOf_7cf53_4 : decode cJ0_indexOf_7cf53 4 = .ok (.ifCond .eq 19, 3) := by decide +kernel
theorem dJ0_indexOf_7cf53_7 : decode cJ0_indexOf_7cf53 7 = .ok (.aload_n 0, 1) := by decide +kernel
theorem dJ0_indexOf_7cf53_8 : decode cJ0_indexOf_7cf53 8 = .ok (.getfield 9, 3) := by decide +kernel
theorem dJ0_indexOf_7cf53_11 : decode cJ0_indexOf_7cf53 11 = .ok (.iload_n 1, 1) := by decide +kernel
theorem dJ0_indexOf_7cf53_12 : decode cJ0_indexOf_7cf53 12 = .ok (.iload_n 2, 1) := by decide +kernel
theorem dJ0_indexOf_7cf53_13 : decode cJ0_indexOf_7cf53 13 = .ok (.aload_n 0, 1) := by decide +kernel
theorem dJ0_indexOf_7cf53_14 : decode cJ0_indexOf_7cf53 14 = .ok (.invokevirtual 505, 3) := by decide +kernel
theorem dJ0_indexOf_7cf53_17 : decode cJ0_indexOf_7cf53 17 = .ok (.invokestatic 637, 3) := by decide +kernel
theorem dJ0_indexOf_7cf53_20 : decode cJ0_indexOf_7cf53 20 = .ok (.goto 16, 3) := by decide +kernel
theorem dJ0_indexOf_7cf53_23 : decode cJ0_indexOf_7cf53 23 = .ok (.aload_n 0, 1) := by decide +kernel
theorem dJ0_indexOf_7cf53_24 : decode cJ0_indexOf_7cf53 24 = .ok (.getfield 9, 3) := by decide +kernel
theorem dJ0_indexOf_7cf53_27 : decode cJ0_indexOf_7cf53 27 = .ok (.iload_n 1, 1) := by decide +kernel
theorem dJ0_indexOf_7cf53_28 : decode cJ0_indexOf_7cf53 28 = .ok (.iload_n 2, 1) := by decide +kernel
theorem dJ0_indexOf_7cf53_29 : decode cJ0_indexOf_7cf53 29 = .ok (.aload_n 0, 1) := by decide +kernel
theorem dJ0_indexOf_7cf53_30 : decode cJ0_indexOf_7cf53 30 = .ok (.invokevirtual 505, 3) := by decide +kernel
theorem dJ0_indexOf_7cf53_33 : decode cJ0_indexOf_7cf53 33 = .ok (.invokestatic 640, 3) := by decide +kernel
theorem dJ0_indexOf_7cf53_36 : decode cJ0_indexOf_7cf53 36 = .ok (.ireturn, 1) := by decide +kernel
theorem dJ0_coder_7d493_0 : decode cJ0_coder_7d493 0 = .ok (.getstatic 38, 3) := by decide +kernel
theorem dJ0_coder_7d493_3 : decode cJ0_coder_7d493 3 = .ok (.ifCond .eq 10, 3) := by decide +kernel
theorem dJ0_coder_7d493_6 : decode cJ0_coder_7d493 6 = .ok (.aload_n 0, 1) := by decide +kernel
theorem dJ0_coder_7d493_7 : decode cJ0_coder_7d493 7 = .ok (.getfield 15, 3) := by decide +kernel
theorem dJ0_coder_7d493_10 : decode cJ0_coder_7d493 10 = .ok (.goto 4, 3) := by decide +kernel
theorem dJ0_coder_7d493_13 : decode cJ0_coder_7d493 13 = .ok (.iconst 1, 1) := by decide +kernel
theorem dJ0_coder_7d493_14 : decode cJ0_coder_7d493 14 = .ok (.ireturn, 1) := by decide +kernel
theorem dJ0_isLatin1_aae02_0 : decode cJ0_isLatin1_aae02 0 = .ok (.getstatic 38, 3) := by decide +kernel
theorem dJ0_isLatin1_aae02_3 : decode cJ0_isLatin1_aae02 3 = .ok (.ifCond .eq 14, 3) := by decide +kernel
theorem dJ0_isLatin1_aae02_6 : decode cJ0_isLatin1_aae02 6 = .ok (.aload_n 0, 1) := by decide +kernel
theorem dJ0_isLatin1_aae02_7 : decode cJ0_isLatin1_aae02 7 = .ok (.getfield 15, 3) := by decide +kernel
theorem dJ0_isLatin1_aae02_10 : decode cJ0_isLatin1_aae02 10 = .ok (.ifCond .ne 7, 3) := by decide +kernel
theorem dJ0_isLatin1_aae02_13 : decode cJ0_isLatin1_aae02 13 = .ok (.iconst 1, 1) := by decide +kernel
theorem dJ0_isLatin1_aae02_14 : decode cJ0_isLatin1_aae02 14 = .ok (.goto 4, 3) := by decide +kernel
theorem dJ0_isLatin1_aae02_17 : decode cJ0_isLatin1_aae02 17 = .ok (.iconst 0, 1) := by decide +kernel
theorem dJ0_isLatin1_aae02_18 : decode cJ0_isLatin1_aae02 18 = .ok (.ireturn, 1) := by decide +kernel
theorem dJ0_checkBoundsBeginEnd_23922_0 : decode cJ0_checkBoundsBeginEnd_23922 0 = .ok (.iload_n 0, 1) := by decide +kernel
theorem dJ0_checkBoundsBeginEnd_23922_1 : decode cJ0_checkBoundsBeginEnd_23922 1 = .ok (.iload_n 1, 1) := by decide +kernel
theorem dJ0_checkBoundsBeginEnd_23922_2 : decode cJ0_checkBoundsBeginEnd_23922 2 = .ok (.iload_n 2, 1) := by decide +kernel
theorem dJ0_checkBoundsBeginEnd_23922_3 : decode cJ0_checkBoundsBeginEnd_23922 3 = .ok (.getstatic 1053, 3) := by decide +kernel
theorem dJ0_checkBoundsBeginEnd_23922_6 : decode cJ0_checkBoundsBeginEnd_23922 6 = .ok (.invokestatic 1062, 3) := by decide +kernel
theorem dJ0_checkBoundsBeginEnd_23922_9 : decode cJ0_checkBoundsBeginEnd_23922 9 = .ok (.pop, 1) := by decide +kernel
theorem dJ0_checkBoundsBeginEnd_23922_10 : decode cJ0_checkBoundsBeginEnd_23922 10 = .ok (.return_, 1) := by decide +kernel
theorem dJ1_canEncode_9a6ad_0 : decode cJ1_canEncode_9a6ad 0 = .ok (.iload_n 0, 1) := by decide +kernel
theorem dJ1_canEncode_9a6ad_1 : decode cJ1_canEncode_9a6ad 1 = .ok (.ifCond .lt 14, 3) := by decide +kernel
theorem dJ1_canEncode_9a6ad_4 : decode cJ1_canEncode_9a6ad 4 = .ok (.iload_n 0, 1) := by decide +kernel
theorem dJ1_canEncode_9a6ad_5 : decode cJ1_canEncode_9a6ad 5 = .ok (.sipush 255, 3) := by decide +kernel
theorem dJ1_canEncode_9a6ad_8 : decode cJ1_canEncode_9a6ad 8 = .ok (.if_icmp .gt 7, 3) := by decide +kernel
theorem dJ1_canEncode_9a6ad_11 : decode cJ1_canEncode_9a6ad 11 = .ok (.iconst 1, 1) := by decide +kernel
theorem dJ1_canEncode_9a6ad_12 : decode cJ1_canEncode_9a6ad 12 = .ok (.goto 4, 3) := by decide +kernel
theorem dJ1_canEncode_9a6ad_15 : decode cJ1_canEncode_9a6ad 15 = .ok (.iconst 0, 1) := by decide +kernel
theorem dJ1_canEncode_9a6ad_16 : decode cJ1_canEncode_9a6ad 16 = .ok (.ireturn, 1) := by decide +kernel
theorem dJ1_indexOf_4cfef_0 : decode cJ1_indexOf_4cfef 0 = .ok (.iload_n 1, 1) := by decide +kernel
theorem dJ1_indexOf_4cfef_1 : decode cJ1_indexOf_4cfef 1 = .ok (.invokestatic 88, 3) := by decide +kernel
theorem dJ1_indexOf_4cfef_4 : decode cJ1_indexOf_4cfef 4 = .ok (.ifCond .ne 5, 3) := by decide +kernel
theorem dJ1_indexOf_4cfef_7 : decode cJ1_indexOf_4cfef 7 = .ok (.iconst (-1), 1) := by decide +kernel
theorem dJ1_indexOf_4cfef_8 : decode cJ1_indexOf_4cfef 8 = .ok (.ireturn, 1) := by decide +kernel
theorem dJ1_indexOf_4cfef_9 : decode cJ1_indexOf_4cfef 9 = .ok (.iload_n 2, 1) := by decide +kernel
theorem dJ1_indexOf_4cfef_10 : decode cJ1_indexOf_4cfef 10 = .ok (.iconst 0, 1) := by decide +kernel
theorem dJ1_indexOf_4cfef_11 : decode cJ1_indexOf_4cfef 11 = .ok (.invokestatic 92, 3) := by decide +kernel
theorem dJ1_indexOf_4cfef_14 : decode cJ1_indexOf_4cfef 14 = .ok (.istore_n 2, 1) := by decide +kernel
theorem dJ1_indexOf_4cfef_15 : decode cJ1_indexOf_4cfef 15 = .ok (.iload_n 3, 1) := by decide +kernel
theorem dJ1_indexOf_4cfef_16 : decode cJ1_indexOf_4cfef 16 = .ok (.aload_n 0, 1) := by decide +kernel
theorem dJ1_indexOf_4cfef_17 : decode cJ1_indexOf_4cfef 17 = .ok (.arraylength, 1) := by decide +kernel
theorem dJ1_indexOf_4cfef_18 : decode cJ1_indexOf_4cfef 18 = .ok (.invokestatic 38, 3) := by decide +kernel
theorem dJ1_indexOf_4cfef_21 : decode cJ1_indexOf_4cfef 21 = .ok (.istore_n 3, 1) := by decide +kernel
theorem dJ1_indexOf_4cfef_22 : decode cJ1_indexOf_4cfef 22 = .ok (.iload_n 2, 1) := by decide +kernel
theorem dJ1_indexOf_4cfef_23 : decode cJ1_indexOf_4cfef 23 = .ok (.iload_n 3, 1) := by decide +kernel
theorem dJ1_indexOf_4cfef_24 : decode cJ1_indexOf_4cfef 24 = .ok (.if_icmp .lt 5, 3) := by decide +kernel
theorem dJ1_indexOf_4cfef_27 : decode cJ1_indexOf_4cfef 27 = .ok (.iconst (-1), 1) := by decide +kernel
theorem dJ1_indexOf_4cfef_28 : decode cJ1_indexOf_4cfef 28 = .ok (.ireturn, 1) := by decide +kernel
theorem dJ1_indexOf_4cfef_29 : decode cJ1_indexOf_4cfef 29 = .ok (.aload_n 0, 1) := by decide +kernel
theorem dJ1_indexOf_4cfef_30 : decode cJ1_indexOf_4cfef 30 = .ok (.iload_n 1, 1) := by decide +kernel
theorem dJ1_indexOf_4cfef_31 : decode cJ1_indexOf_4cfef 31 = .ok (.iload_n 2, 1) := by decide +kernel
theorem dJ1_indexOf_4cfef_32 : decode cJ1_indexOf_4cfef 32 = .ok (.iload_n 3, 1) := by decide +kernel
theorem dJ1_indexOf_4cfef_33 : decode cJ1_indexOf_4cfef 33 = .ok (.invokestatic 95, 3) := by decide +kernel
theorem dJ1_indexOf_4cfef_36 : decode cJ1_indexOf_4cfef 36 = .ok (.ireturn, 1) := by decide +kernel
theorem dJ1_indexOfChar_4cfef_0 : decode cJ1_indexOfChar_4cfef 0 = .ok (.iload_n 1, 1) := by decide +kernel
theorem dJ1_indexOfChar_4cfef_1 : decode cJ1_indexOfChar_4cfef 1 = .ok (.i2b, 1) := by decide +kernel
theorem dJ1_indexOfChar_4cfef_2 : decode cJ1_indexOfChar_4cfef 2 = .ok (.istore 4, 2) := by decide +kernel
theorem dJ1_indexOfChar_4cfef_4 : decode cJ1_indexOfChar_4cfef 4 = .ok (.iload_n 2, 1) := by decide +kernel
theorem dJ1_indexOfChar_4cfef_5 : decode cJ1_indexOfChar_4cfef 5 = .ok (.istore 5, 2) := by decide +kernel
theorem dJ1_indexOfChar_4cfef_7 : decode cJ1_indexOfChar_4cfef 7 = .ok (.iload 5, 2) := by decide +kernel
theorem dJ1_indexOfChar_4cfef_9 : decode cJ1_indexOfChar_4cfef 9 = .ok (.iload_n 3, 1) := by decide +kernel
theorem dJ1_indexOfChar_4cfef_10 : decode cJ1_indexOfChar_4cfef 10 = .ok (.if_icmp .ge 21, 3) := by decide +kernel
theorem dJ1_indexOfChar_4cfef_13 : decode cJ1_indexOfChar_4cfef 13 = .ok (.aload_n 0, 1) := by decide +kernel
theorem dJ1_indexOfChar_4cfef_14 : decode cJ1_indexOfChar_4cfef 14 = .ok (.iload 5, 2) := by decide +kernel
theorem dJ1_indexOfChar_4cfef_16 : decode cJ1_indexOfChar_4cfef 16 = .ok (.baload, 1) := by decide +kernel
theorem dJ1_indexOfChar_4cfef_17 : decode cJ1_indexOfChar_4cfef 17 = .ok (.iload 4, 2) := by decide +kernel
theorem dJ1_indexOfChar_4cfef_19 : decode cJ1_indexOfChar_4cfef 19 = .ok (.if_icmp .ne 6, 3) := by decide +kernel
theorem dJ1_indexOfChar_4cfef_22 : decode cJ1_indexOfChar_4cfef 22 = .ok (.iload 5, 2) := by decide +kernel
theorem dJ1_indexOfChar_4cfef_24 : decode cJ1_indexOfChar_4cfef 24 = .ok (.ireturn, 1) := by decide +kernel
theorem dJ1_indexOfChar_4cfef_25 : decode cJ1_indexOfChar_4cfef 25 = .ok (.iinc 5 1, 3) := by decide +kernel
theorem dJ1_indexOfChar_4cfef_28 : decode cJ1_indexOfChar_4cfef 28 = .ok (.goto (-21), 3) := by decide +kernel
theorem dJ1_indexOfChar_4cfef_31 : decode cJ1_indexOfChar_4cfef 31 = .ok (.iconst (-1), 1) := by decide +kernel
theorem dJ1_indexOfChar_4cfef_32 : decode cJ1_indexOfChar_4cfef 32 = .ok (.ireturn, 1) := by decide +kernel
theorem dJ2_getChar_3b067_0 : decode cJ2_getChar_3b067 0 = .ok (.getstatic 44, 3) := by decide +kernel
theorem dJ2_getChar_3b067_3 : decode cJ2_getChar_3b067 3 = .ok (.ifCond .ne 25, 3) := by decide +kernel
theorem dJ2_getChar_3b067_6 : decode cJ2_getChar_3b067 6 = .ok (.iload_n 1, 1) := by decide +kernel
theorem dJ2_getChar_3b067_7 : decode cJ2_getChar_3b067 7 = .ok (.ifCond .lt 11, 3) := by decide +kernel
theorem dJ2_getChar_3b067_10 : decode cJ2_getChar_3b067 10 = .ok (.iload_n 1, 1) := by decide +kernel
theorem dJ2_getChar_3b067_11 : decode cJ2_getChar_3b067 11 = .ok (.aload_n 0, 1) := by decide +kernel
theorem dJ2_getChar_3b067_12 : decode cJ2_getChar_3b067 12 = .ok (.invokestatic 48, 3) := by decide +kernel
theorem dJ2_getChar_3b067_15 : decode cJ2_getChar_3b067 15 = .ok (.if_icmp .lt 13, 3) := by decide +kernel
theorem dJ2_getChar_3b067_18 : decode cJ2_getChar_3b067 18 = .ok (.new 52, 3) := by decide +kernel
theorem dJ2_getChar_3b067_21 : decode cJ2_getChar_3b067 21 = .ok (.dup, 1) := by decide +kernel
theorem dJ2_getChar_3b067_22 : decode cJ2_getChar_3b067 22 = .ok (.ldc 54, 2) := by decide +kernel
theorem dJ2_getChar_3b067_24 : decode cJ2_getChar_3b067 24 = .ok (.invokespecial 56, 3) := by decide +kernel
theorem dJ2_getChar_3b067_27 : decode cJ2_getChar_3b067 27 = .ok (.athrow, 1) := by decide +kernel
theorem dJ2_getChar_3b067_28 : decode cJ2_getChar_3b067 28 = .ok (.iload_n 1, 1) := by decide +kernel
theorem dJ2_getChar_3b067_29 : decode cJ2_getChar_3b067 29 = .ok (.iconst 1, 1) := by decide +kernel
theorem dJ2_getChar_3b067_30 : decode cJ2_getChar_3b067 30 = .ok (.ishl, 1) := by decide +kernel
theorem dJ2_getChar_3b067_31 : decode cJ2_getChar_3b067 31 = .ok (.istore_n 1, 1) := by decide +kernel
theorem dJ2_getChar_3b067_32 : decode cJ2_getChar_3b067 32 = .ok (.aload_n 0, 1) := by decide +kernel
theorem dJ2_getChar_3b067_33 : decode cJ2_getChar_3b067 33 = .ok (.iload_n 1, 1) := by decide +kernel
theorem dJ2_getChar_3b067_34 : decode cJ2_getChar_3b067 34 = .ok (.iinc 1 1, 3) := by decide +kernel
theorem dJ2_getChar_3b067_37 : decode cJ2_getChar_3b067 37 = .ok (.baload, 1) := by decide +kernel
theorem dJ2_getChar_3b067_38 : decode cJ2_getChar_3b067 38 = .ok (.sipush 255, 3) := by decide +kernel
theorem dJ2_getChar_3b067_41 : decode cJ2_getChar_3b067 41 = .ok (.iand, 1) := by decide +kernel
theorem dJ2_getChar_3b067_42 : decode cJ2_getChar_3b067 42 = .ok (.getstatic 59, 3) := by decide +kernel
theorem dJ2_getChar_3b067_45 : decode cJ2_getChar_3b067 45 = .ok (.ishl, 1) := by decide +kernel
theorem dJ2_getChar_3b067_46 : decode cJ2_getChar_3b067 46 = .ok (.aload_n 0, 1) := by decide +kernel
theorem dJ2_getChar_3b067_47 : decode cJ2_getChar_3b067 47 = .ok (.iload_n 1, 1) := by decide +kernel
theorem dJ2_getChar_3b067_48 : decode cJ2_getChar_3b067 48 = .ok (.baload, 1) := by decide +kernel
theorem dJ2_getChar_3b067_49 : decode cJ2_getChar_3b067 49 = .ok (.sipush 255, 3) := by decide +kernel
theorem dJ2_getChar_3b067_52 : decode cJ2_getChar_3b067 52 = .ok (.iand, 1) := by decide +kernel
theorem dJ2_getChar_3b067_53 : decode cJ2_getChar_3b067 53 = .ok (.getstatic 63, 3) := by decide +kernel
theorem dJ2_getChar_3b067_56 : decode cJ2_getChar_3b067 56 = .ok (.ishl, 1) := by decide +kernel
theorem dJ2_getChar_3b067_57 : decode cJ2_getChar_3b067 57 = .ok (.ior, 1) := by decide +kernel
theorem dJ2_getChar_3b067_58 : decode cJ2_getChar_3b067 58 = .ok (.i2c, 1) := by decide +kernel
theorem dJ2_getChar_3b067_59 : decode cJ2_getChar_3b067 59 = .ok (.ireturn, 1) := by decide +kernel
theorem dJ2_length_9d52b_0 : decode cJ2_length_9d52b 0 = .ok (.aload_n 0, 1) := by decide +kernel
theorem dJ2_length_9d52b_1 : decode cJ2_length_9d52b 1 = .ok (.arraylength, 1) := by decide +kernel
theorem dJ2_length_9d52b_2 : decode cJ2_length_9d52b 2 = .ok (.iconst 1, 1) := by decide +kernel
theorem dJ2_length_9d52b_3 : decode cJ2_length_9d52b 3 = .ok (.ishr, 1) := by decide +kernel
theorem dJ2_length_9d52b_4 : decode cJ2_length_9d52b 4 = .ok (.ireturn, 1) := by decide +kernel
theorem dJ2_indexOf_4cfef_0 : decode cJ2_indexOf_4cfef 0 = .ok (.iload_n 2, 1) := by decide +kernel
theorem dJ2_indexOf_4cfef_1 : decode cJ2_indexOf_4cfef 1 = .ok (.iconst 0, 1) := by decide +kernel
theorem dJ2_indexOf_4cfef_2 : decode cJ2_indexOf_4cfef 2 = .ok (.invokestatic 224, 3) := by decide +kernel
theorem dJ2_indexOf_4cfef_5 : decode cJ2_indexOf_4cfef 5 = .ok (.istore_n 2, 1) := by decide +kernel
theorem dJ2_indexOf_4cfef_6 : decode cJ2_indexOf_4cfef 6 = .ok (.iload_n 3, 1) := by decide +kernel
theorem dJ2_indexOf_4cfef_7 : decode cJ2_indexOf_4cfef 7 = .ok (.aload_n 0, 1) := by decide +kernel
theorem dJ2_indexOf_4cfef_8 : decode cJ2_indexOf_4cfef 8 = .ok (.arraylength, 1) := by decide +kernel
theorem dJ2_indexOf_4cfef_9 : decode cJ2_indexOf_4cfef 9 = .ok (.iconst 1, 1) := by decide +kernel
theorem dJ2_indexOf_4cfef_10 : decode cJ2_indexOf_4cfef 10 = .ok (.ishr, 1) := by decide +kernel
theorem dJ2_indexOf_4cfef_11 : decode cJ2_indexOf_4cfef 11 = .ok (.invokestatic 183, 3) := by decide +kernel
theorem dJ2_indexOf_4cfef_14 : decode cJ2_indexOf_4cfef 14 = .ok (.istore_n 3, 1) := by decide +kernel
theorem dJ2_indexOf_4cfef_15 : decode cJ2_indexOf_4cfef 15 = .ok (.iload_n 2, 1) := by decide +kernel
theorem dJ2_indexOf_4cfef_16 : decode cJ2_indexOf_4cfef 16 = .ok (.iload_n 3, 1) := by decide +kernel
theorem dJ2_indexOf_4cfef_17 : decode cJ2_indexOf_4cfef 17 = .ok (.if_icmp .lt 5, 3) := by decide +kernel
theorem dJ2_indexOf_4cfef_20 : decode cJ2_indexOf_4cfef 20 = .ok (.iconst (-1), 1) := by decide +kernel
theorem dJ2_indexOf_4cfef_21 : decode cJ2_indexOf_4cfef 21 = .ok (.ireturn, 1) := by decide +kernel
theorem dJ2_indexOf_4cfef_22 : decode cJ2_indexOf_4cfef 22 = .ok (.iload_n 1, 1) := by decide +kernel
theorem dJ2_indexOf_4cfef_23 : decode cJ2_indexOf_4cfef 23 = .ok (.ldc 227, 2) := by decide +kernel
theorem dJ2_indexOf_4cfef_25 : decode cJ2_indexOf_4cfef 25 = .ok (.if_icmp .ge 11, 3) := by decide +kernel
theorem dJ2_indexOf_4cfef_28 : decode cJ2_indexOf_4cfef 28 = .ok (.aload_n 0, 1) := by decide +kernel
theorem dJ2_indexOf_4cfef_29 : decode cJ2_indexOf_4cfef 29 = .ok (.iload_n 1, 1) := by decide +kernel
theorem dJ2_indexOf_4cfef_30 : decode cJ2_indexOf_4cfef 30 = .ok (.iload_n 2, 1) := by decide +kernel
theorem dJ2_indexOf_4cfef_31 : decode cJ2_indexOf_4cfef 31 = .ok (.iload_n 3, 1) := by decide +kernel
theorem dJ2_indexOf_4cfef_32 : decode cJ2_indexOf_4cfef 32 = .ok (.invokestatic 228, 3) := by decide +kernel
theorem dJ2_indexOf_4cfef_35 : decode cJ2_indexOf_4cfef 35 = .ok (.ireturn, 1) := by decide +kernel
theorem dJ2_indexOf_4cfef_36 : decode cJ2_indexOf_4cfef 36 = .ok (.aload_n 0, 1) := by decide +kernel
theorem dJ2_indexOf_4cfef_37 : decode cJ2_indexOf_4cfef 37 = .ok (.iload_n 1, 1) := by decide +kernel
theorem dJ2_indexOf_4cfef_38 : decode cJ2_indexOf_4cfef 38 = .ok (.iload_n 2, 1) := by decide +kernel
theorem dJ2_indexOf_4cfef_39 : decode cJ2_indexOf_4cfef 39 = .ok (.iload_n 3, 1) := by decide +kernel
theorem dJ2_indexOf_4cfef_40 : decode cJ2_indexOf_4cfef 40 = .ok (.invokestatic 232, 3) := by decide +kernel
theorem dJ2_indexOf_4cfef_43 : decode cJ2_indexOf_4cfef 43 = .ok (.ireturn, 1) := by decide +kernel
theorem dJ2_indexOfChar_4cfef_0 : decode cJ2_indexOfChar_4cfef 0 = .ok (.iload_n 2, 1) := by decide +kernel
theorem dJ2_indexOfChar_4cfef_1 : decode cJ2_indexOfChar_4cfef 1 = .ok (.iload_n 3, 1) := by decide +kernel
theorem dJ2_indexOfChar_4cfef_2 : decode cJ2_indexOfChar_4cfef 2 = .ok (.aload_n 0, 1) := by decide +kernel
theorem dJ2_indexOfChar_4cfef_3 : decode cJ2_indexOfChar_4cfef 3 = .ok (.invokestatic 96, 3) := by decide +kernel
theorem dJ2_indexOfChar_4cfef_6 : decode cJ2_indexOfChar_4cfef 6 = .ok (.aload_n 0, 1) := by decide +kernel
theorem dJ2_indexOfChar_4cfef_7 : decode cJ2_indexOfChar_4cfef 7 = .ok (.iload_n 1, 1) := by decide +kernel
theorem dJ2_indexOfChar_4cfef_8 : decode cJ2_indexOfChar_4cfef 8 = .ok (.iload_n 2, 1) := by decide +kernel
theorem dJ2_indexOfChar_4cfef_9 : decode cJ2_indexOfChar_4cfef 9 = .ok (.iload_n 3, 1) := by decide +kernel
theorem dJ2_indexOfChar_4cfef_10 : decode cJ2_indexOfChar_4cfef 10 = .ok (.invokestatic 244, 3) := by decide +kernel
theorem dJ2_indexOfChar_4cfef_13 : decode cJ2_indexOfChar_4cfef 13 = .ok (.ireturn, 1) := by decide +kernel
theorem dJ2_indexOfCharUnsafe_4cfef_0 : decode cJ2_indexOfCharUnsafe_4cfef 0 = .ok (.iload_n 2, 1) := by decide +kernel
theorem dJ2_indexOfCharUnsafe_4cfef_1 : decode cJ2_indexOfCharUnsafe_4cfef 1 = .ok (.istore 4, 2) := by decide +kernel
theorem dJ2_indexOfCharUnsafe_4cfef_3 : decode cJ2_indexOfCharUnsafe_4cfef 3 = .ok (.iload 4, 2) := by decide +kernel
theorem dJ2_indexOfCharUnsafe_4cfef_5 : decode cJ2_indexOfCharUnsafe_4cfef 5 = .ok (.iload_n 3, 1) := by decide +kernel
theorem dJ2_indexOfCharUnsafe_4cfef_6 : decode cJ2_indexOfCharUnsafe_4cfef 6 = .ok (.if_icmp .ge 22, 3) := by decide +kernel
theorem dJ2_indexOfCharUnsafe_4cfef_9 : decode cJ2_indexOfCharUnsafe_4cfef 9 = .ok (.aload_n 0, 1) := by decide +kernel
theorem dJ2_indexOfCharUnsafe_4cfef_10 : decode cJ2_indexOfCharUnsafe_4cfef 10 = .ok (.iload 4, 2) := by decide +kernel
theorem dJ2_indexOfCharUnsafe_4cfef_12 : decode cJ2_indexOfCharUnsafe_4cfef 12 = .ok (.invokestatic 71, 3) := by decide +kernel
theorem dJ2_indexOfCharUnsafe_4cfef_15 : decode cJ2_indexOfCharUnsafe_4cfef 15 = .ok (.iload_n 1, 1) := by decide +kernel
theorem dJ2_indexOfCharUnsafe_4cfef_16 : decode cJ2_indexOfCharUnsafe_4cfef 16 = .ok (.if_icmp .ne 6, 3) := by decide +kernel
theorem dJ2_indexOfCharUnsafe_4cfef_19 : decode cJ2_indexOfCharUnsafe_4cfef 19 = .ok (.iload 4, 2) := by decide +kernel
theorem dJ2_indexOfCharUnsafe_4cfef_21 : decode cJ2_indexOfCharUnsafe_4cfef 21 = .ok (.ireturn, 1) := by decide +kernel
theorem dJ2_indexOfCharUnsafe_4cfef_22 : decode cJ2_indexOfCharUnsafe_4cfef 22 = .ok (.iinc 4 1, 3) := by decide +kernel
theorem dJ2_indexOfCharUnsafe_4cfef_25 : decode cJ2_indexOfCharUnsafe_4cfef 25 = .ok (.goto (-22), 3) := by decide +kernel
theorem dJ2_indexOfCharUnsafe_4cfef_28 : decode cJ2_indexOfCharUnsafe_4cfef 28 = .ok (.iconst (-1), 1) := by decide +kernel
theorem dJ2_indexOfCharUnsafe_4cfef_29 : decode cJ2_indexOfCharUnsafe_4cfef 29 = .ok (.ireturn, 1) := by decide +kernel
theorem dJ2_indexOfSupplementary_4cfef_0 : decode cJ2_indexOfSupplementary_4cfef 0 = .ok (.iload_n 1, 1) := by decide +kernel
theorem dJ2_indexOfSupplementary_4cfef_1 : decode cJ2_indexOfSupplementary_4cfef 1 = .ok (.invokestatic 164, 3) := by decide +kernel
theorem dJ2_indexOfSupplementary_4cfef_4 : decode cJ2_indexOfSupplementary_4cfef 4 = .ok (.ifCond .eq 65, 3) := by decide +kernel
theorem dJ2_indexOfSupplementary_4cfef_7 : decode cJ2_indexOfSupplementary_4cfef 7 = .ok (.iload_n 1, 1) := by decide +kernel
theorem dJ2_indexOfSupplementary_4cfef_8 : decode cJ2_indexOfSupplementary_4cfef 8 = .ok (.invokestatic 157, 3) := by decide +kernel
theorem dJ2_indexOfSupplementary_4cfef_11 : decode cJ2_indexOfSupplementary_4cfef 11 = .ok (.istore 4, 2) := by decide +kernel
theorem dJ2_indexOfSupplementary_4cfef_13 : decode cJ2_indexOfSupplementary_4cfef 13 = .ok (.iload_n 1, 1) := by decide +kernel
theorem dJ2_indexOfSupplementary_4cfef_14 : decode cJ2_indexOfSupplementary_4cfef 14 = .ok (.invokestatic 161, 3) := by decide +kernel
theorem dJ2_indexOfSupplementary_4cfef_17 : decode cJ2_indexOfSupplementary_4cfef 17 = .ok (.istore 5, 2) := by decide +kernel
theorem dJ2_indexOfSupplementary_4cfef_19 : decode cJ2_indexOfSupplementary_4cfef 19 = .ok (.iload_n 2, 1) := by decide +kernel
theorem dJ2_indexOfSupplementary_4cfef_20 : decode cJ2_indexOfSupplementary_4cfef 20 = .ok (.iload_n 3, 1) := by decide +kernel
theorem dJ2_indexOfSupplementary_4cfef_21 : decode cJ2_indexOfSupplementary_4cfef 21 = .ok (.aload_n 0, 1) := by decide +kernel
theorem dJ2_indexOfSupplementary_4cfef_22 : decode cJ2_indexOfSupplementary_4cfef 22 = .ok (.invokestatic 96, 3) := by decide +kernel
theorem dJ2_indexOfSupplementary_4cfef_25 : decode cJ2_indexOfSupplementary_4cfef 25 = .ok (.iload_n 2, 1) := by decide +kernel
theorem dJ2_indexOfSupplementary_4cfef_26 : decode cJ2_indexOfSupplementary_4cfef 26 = .ok (.istore 6, 2) := by decide +kernel
theorem dJ2_indexOfSupplementary_4cfef_28 : decode cJ2_indexOfSupplementary_4cfef 28 = .ok (.iload 6, 2) := by decide +kernel
theorem dJ2_indexOfSupplementary_4cfef_30 : decode cJ2_indexOfSupplementary_4cfef 30 = .ok (.iload_n 3, 1) := by decide +kernel
theorem dJ2_indexOfSupplementary_4cfef_31 : decode cJ2_indexOfSupplementary_4cfef 31 = .ok (.iconst 1, 1) := by decide +kernel
theorem dJ2_indexOfSupplementary_4cfef_32 : decode cJ2_indexOfSupplementary_4cfef 32 = .ok (.isub, 1) := by decide +kernel
theorem dJ2_indexOfSupplementary_4cfef_33 : decode cJ2_indexOfSupplementary_4cfef 33 = .ok (.if_icmp .ge 36, 3) := by decide +kernel
theorem dJ2_indexOfSupplementary_4cfef_36 : decode cJ2_indexOfSupplementary_4cfef 36 = .ok (.aload_n 0, 1) := by decide +kernel
theorem dJ2_indexOfSupplementary_4cfef_37 : decode cJ2_indexOfSupplementary_4cfef 37 = .ok (.iload 6, 2) := by decide +kernel
theorem dJ2_indexOfSupplementary_4cfef_39 : decode cJ2_indexOfSupplementary_4cfef 39 = .ok (.invokestatic 71, 3) := by decide +kernel
theorem dJ2_indexOfSupplementary_4cfef_42 : decode cJ2_indexOfSupplementary_4cfef 42 = .ok (.iload 4, 2) := by decide +kernel
theorem dJ2_indexOfSupplementary_4cfef_44 : decode cJ2_indexOfSupplementary_4cfef 44 = .ok (.if_icmp .ne 19, 3) := by decide +kernel
theorem dJ2_indexOfSupplementary_4cfef_47 : decode cJ2_indexOfSupplementary_4cfef 47 = .ok (.aload_n 0, 1) := by decide +kernel
theorem dJ2_indexOfSupplementary_4cfef_48 : decode cJ2_indexOfSupplementary_4cfef 48 = .ok (.iload 6, 2) := by decide +kernel
theorem dJ2_indexOfSupplementary_4cfef_50 : decode cJ2_indexOfSupplementary_4cfef 50 = .ok (.iconst 1, 1) := by decide +kernel
theorem dJ2_indexOfSupplementary_4cfef_51 : decode cJ2_indexOfSupplementary_4cfef 51 = .ok (.iadd, 1) := by decide +kernel
theorem dJ2_indexOfSupplementary_4cfef_52 : decode cJ2_indexOfSupplementary_4cfef 52 = .ok (.invokestatic 71, 3) := by decide +kernel
theorem dJ2_indexOfSupplementary_4cfef_55 : decode cJ2_indexOfSupplementary_4cfef 55 = .ok (.iload 5, 2) := by decide +kernel
theorem dJ2_indexOfSupplementary_4cfef_57 : decode cJ2_indexOfSupplementary_4cfef 57 = .ok (.if_icmp .ne 6, 3) := by decide +kernel
theorem dJ2_indexOfSupplementary_4cfef_60 : decode cJ2_indexOfSupplementary_4cfef 60 = .ok (.iload 6, 2) := by decide +kernel
theorem dJ2_indexOfSupplementary_4cfef_62 : decode cJ2_indexOfSupplementary_4cfef 62 = .ok (.ireturn, 1) := by decide +kernel
theorem dJ2_indexOfSupplementary_4cfef_63 : decode cJ2_indexOfSupplementary_4cfef 63 = .ok (.iinc 6 1, 3) := by decide +kernel
theorem dJ2_indexOfSupplementary_4cfef_66 : decode cJ2_indexOfSupplementary_4cfef 66 = .ok (.goto (-38), 3) := by decide +kernel
theorem dJ2_indexOfSupplementary_4cfef_69 : decode cJ2_indexOfSupplementary_4cfef 69 = .ok (.iconst (-1), 1) := by decide +kernel
theorem dJ2_indexOfSupplementary_4cfef_70 : decode cJ2_indexOfSupplementary_4cfef 70 = .ok (.ireturn, 1) := by decide +kernel
theorem dJ2_checkBoundsBeginEnd_d044e_0 : decode cJ2_checkBoundsBeginEnd_d044e 0 = .ok (.iload_n 0, 1) := by decide +kernel
theorem dJ2_checkBoundsBeginEnd_d044e_1 : decode cJ2_checkBoundsBeginEnd_d044e 1 = .ok (.iload_n 1, 1) := by decide +kernel
theorem dJ2_checkBoundsBeginEnd_d044e_2 : decode cJ2_checkBoundsBeginEnd_d044e 2 = .ok (.aload_n 2, 1) := by decide +kernel
theorem dJ2_checkBoundsBeginEnd_d044e_3 : decode cJ2_checkBoundsBeginEnd_d044e 3 = .ok (.invokestatic 48, 3) := by decide +kernel
theorem dJ2_checkBoundsBeginEnd_d044e_6 : decode cJ2_checkBoundsBeginEnd_d044e 6 = .ok (.invokestatic 241, 3) := by decide +kernel
theorem dJ2_checkBoundsBeginEnd_d044e_9 : decode cJ2_checkBoundsBeginEnd_d044e 9 = .ok (.return_, 1) := by decide +kernel
theorem dJ3_checkFromToIndex_8c36e_0 : decode cJ3_checkFromToIndex_8c36e 0 = .ok (.iload_n 0, 1) := by decide +kernel
theorem dJ3_checkFromToIndex_8c36e_1 : decode cJ3_checkFromToIndex_8c36e 1 = .ok (.ifCond .lt 13, 3) := by decide +kernel
theorem dJ3_checkFromToIndex_8c36e_4 : decode cJ3_checkFromToIndex_8c36e 4 = .ok (.iload_n 0, 1) := by decide +kernel
theorem dJ3_checkFromToIndex_8c36e_5 : decode cJ3_checkFromToIndex_8c36e 5 = .ok (.iload_n 1, 1) := by decide +kernel
theorem dJ3_checkFromToIndex_8c36e_6 : decode cJ3_checkFromToIndex_8c36e 6 = .ok (.if_icmp .gt 8, 3) := by decide +kernel
theorem dJ3_checkFromToIndex_8c36e_9 : decode cJ3_checkFromToIndex_8c36e 9 = .ok (.iload_n 1, 1) := by decide +kernel
theorem dJ3_checkFromToIndex_8c36e_10 : decode cJ3_checkFromToIndex_8c36e 10 = .ok (.iload_n 2, 1) := by decide +kernel
theorem dJ3_checkFromToIndex_8c36e_11 : decode cJ3_checkFromToIndex_8c36e 11 = .ok (.if_icmp .le 11, 3) := by decide +kernel
theorem dJ3_checkFromToIndex_8c36e_14 : decode cJ3_checkFromToIndex_8c36e 14 = .ok (.aload_n 3, 1) := by decide +kernel
theorem dJ3_checkFromToIndex_8c36e_15 : decode cJ3_checkFromToIndex_8c36e 15 = .ok (.iload_n 0, 1) := by decide +kernel
theorem dJ3_checkFromToIndex_8c36e_16 : decode cJ3_checkFromToIndex_8c36e 16 = .ok (.iload_n 1, 1) := by decide +kernel
theorem dJ3_checkFromToIndex_8c36e_17 : decode cJ3_checkFromToIndex_8c36e 17 = .ok (.iload_n 2, 1) := by decide +kernel
theorem dJ3_checkFromToIndex_8c36e_18 : decode cJ3_checkFromToIndex_8c36e 18 = .ok (.invokestatic 99, 3) := by decide +kernel
theorem dJ3_checkFromToIndex_8c36e_21 : decode cJ3_checkFromToIndex_8c36e 21 = .ok (.athrow, 1) := by decide +kernel
theorem dJ3_checkFromToIndex_8c36e_22 : decode cJ3_checkFromToIndex_8c36e 22 = .ok (.iload_n 0, 1) := by decide +kernel
theorem dJ3_checkFromToIndex_8c36e_23 : decode cJ3_checkFromToIndex_8c36e 23 = .ok (.ireturn, 1) := by decide +kernel
