theorem dX6_init_0 : decode cX6_init 0 = .ok (.aload_n 0, 1) := by decide +kernel
theorem dX6_init_1 : decode cX6_init 1 = .ok (.invokespecial 1, 3) := by decide +kernel
theorem dX6_init_4 : decode cX6_init 4 = .ok (.aload_n 0, 1) := by decide +kernel
theorem dX6_init_5 : decode cX6_init 5 = .ok (.new 7, 3) := by decide +kernel
theorem dX6_init_8 : decode cX6_init 8 = .ok (.dup, 1) := by decide +kernel
theorem dX6_init_9 : decode cX6_init 9 = .ok (.new 9, 3) := by decide +kernel
theorem dX6_init_12 : decode cX6_init 12 = .ok (.dup, 1) := by decide +kernel
theorem dX6_init_13 : decode cX6_init 13 = .ok (.invokespecial 11, 3) := by decide +kernel
theorem dX6_init_16 : decode cX6_init 16 = .ok (.invokespecial 12, 3) := by decide +kernel
theorem dX6_init_19 : decode cX6_init 19 = .ok (.putfield 15, 3) := by decide +kernel
theorem dX6_init_22 : decode cX6_init 22 = .ok (.aload_n 0, 1) := by decide +kernel
theorem dX6_init_23 : decode cX6_init 23 = .ok (.new 7, 3) := by decide +kernel
theorem dX6_init_26 : decode cX6_init 26 = .ok (.dup, 1) := by decide +kernel
theorem dX6_init_27 : decode cX6_init 27 = .ok (.aload_n 0, 1) := by decide +kernel
theorem dX6_init_28 : decode cX6_init 28 = .ok (.getfield 15, 3) := by decide +kernel
theorem dX6_init_31 : decode cX6_init 31 = .ok (.getfield 21, 3) := by decide +kernel
theorem dX6_init_34 : decode cX6_init 34 = .ok (.invokespecial 12, 3) := by decide +kernel
theorem dX6_init_37 : decode cX6_init 37 = .ok (.putfield 25, 3) := by decide +kernel
theorem dX6_init_40 : decode cX6_init 40 = .ok (.aload_n 0, 1) := by decide +kernel
theorem dX6_init_41 : decode cX6_init 41 = .ok (.iconst 1, 1) := by decide +kernel
theorem dX6_init_42 : decode cX6_init 42 = .ok (.putfield 28, 3) := by decide +kernel
theorem dX6_init_45 : decode cX6_init 45 = .ok (.aload_n 0, 1) := by decide +kernel
theorem dX6_init_46 : decode cX6_init 46 = .ok (.bipush 20, 2) := by decide +kernel
theorem dX6_init_48 : decode cX6_init 48 = .ok (.anewarray 7, 3) := by decide +kernel
theorem dX6_init_51 : decode cX6_init 51 = .ok (.putfield 32, 3) := by decide +kernel
theorem dX6_init_54 : decode cX6_init 54 = .ok (.iconst 0, 1) := by decide +kernel
theorem dX6_init_55 : decode cX6_init 55 = .ok (.istore_n 1, 1) := by decide +kernel
theorem dX6_init_56 : decode cX6_init 56 = .ok (.iload_n 1, 1) := by decide +kernel
theorem dX6_init_57 : decode cX6_init 57 = .ok (.bipush 20, 2) := by decide +kernel
theorem dX6_init_59 : decode cX6_init 59 = .ok (.if_icmp .ge 29, 3) := by decide +kernel
theorem dX6_init_62 : decode cX6_init 62 = .ok (.aload_n 0, 1) := by decide +kernel
theorem dX6_init_63 : decode cX6_init 63 = .ok (.getfield 32, 3) := by decide +kernel
theorem dX6_init_66 : decode cX6_init 66 = .ok (.iload_n 1, 1) := by decide +kernel
theorem dX6_init_67 : decode cX6_init 67 = .ok (.new 7, 3) := by decide +kernel
theorem dX6_init_70 : decode cX6_init 70 = .ok (.dup, 1) := by decide +kernel
theorem dX6_init_71 : decode cX6_init 71 = .ok (.new 9, 3) := by decide +kernel
theorem dX6_init_74 : decode cX6_init 74 = .ok (.dup, 1) := by decide +kernel
theorem dX6_init_75 : decode cX6_init 75 = .ok (.invokespecial 11, 3) := by decide +kernel
theorem dX6_init_78 : decode cX6_init 78 = .ok (.invokespecial 12, 3) := by decide +kernel
theorem dX6_init_81 : decode cX6_init 81 = .ok (.aastore, 1) := by decide +kernel
theorem dX6_init_82 : decode cX6_init 82 = .ok (.iinc 1 1, 3) := by decide +kernel
theorem dX6_init_85 : decode cX6_init 85 = .ok (.goto (-29), 3) := by decide +kernel
theorem dX6_init_88 : decode cX6_init 88 = .ok (.aload_n 0, 1) := by decide +kernel
theorem dX6_init_89 : decode cX6_init 89 = .ok (.new 36, 3) := by decide +kernel
theorem dX6_init_92 : decode cX6_init 92 = .ok (.dup, 1) := by decide +kernel
theorem dX6_init_93 : decode cX6_init 93 = .ok (.aload_n 0, 1) := by decide +kernel
theorem dX6_init_94 : decode cX6_init 94 = .ok (.getfield 15, 3) := by decide +kernel
theorem dX6_init_97 : decode cX6_init 97 = .ok (.getfield 38, 3) := by decide +kernel
theorem dX6_init_100 : decode cX6_init 100 = .ok (.invokespecial 42, 3) := by decide +kernel
theorem dX6_init_103 : decode cX6_init 103 = .ok (.putfield 45, 3) := by decide +kernel
theorem dX6_init_106 : decode cX6_init 106 = .ok (.aload_n 0, 1) := by decide +kernel
theorem dX6_init_107 : decode cX6_init 107 = .ok (.iconst 4, 1) := by decide +kernel
theorem dX6_init_108 : decode cX6_init 108 = .ok (.anewarray 49, 3) := by decide +kernel
theorem dX6_init_111 : decode cX6_init 111 = .ok (.putfield 51, 3) := by decide +kernel
theorem dX6_init_114 : decode cX6_init 114 = .ok (.iconst 0, 1) := by decide +kernel
theorem dX6_init_115 : decode cX6_init 115 = .ok (.istore_n 1, 1) := by decide +kernel
theorem dX6_init_116 : decode cX6_init 116 = .ok (.iload_n 1, 1) := by decide +kernel
theorem dX6_init_117 : decode cX6_init 117 = .ok (.iconst 4, 1) := by decide +kernel
theorem dX6_init_118 : decode cX6_init 118 = .ok (.if_icmp .ge 22, 3) := by decide +kernel
theorem dX6_init_121 : decode cX6_init 121 = .ok (.aload_n 0, 1) := by decide +kernel
theorem dX6_init_122 : decode cX6_init 122 = .ok (.getfield 51, 3) := by decide +kernel
theorem dX6_init_125 : decode cX6_init 125 = .ok (.iload_n 1, 1) := by decide +kernel
theorem dX6_init_126 : decode cX6_init 126 = .ok (.new 49, 3) := by decide +kernel
theorem dX6_init_129 : decode cX6_init 129 = .ok (.dup, 1) := by decide +kernel
theorem dX6_init_130 : decode cX6_init 130 = .ok (.invokespecial 55, 3) := by decide +kernel
theorem dX6_init_133 : decode cX6_init 133 = .ok (.aastore, 1) := by decide +kernel
theorem dX6_init_134 : decode cX6_init 134 = .ok (.iinc 1 1, 3) := by decide +kernel
theorem dX6_init_137 : decode cX6_init 137 = .ok (.goto (-21), 3) := by decide +kernel
theorem dX6_init_140 : decode cX6_init 140 = .ok (.aload_n 0, 1) := by decide +kernel
theorem dX6_init_141 : decode cX6_init 141 = .ok (.new 49, 3) := by decide +kernel
theorem dX6_init_144 : decode cX6_init 144 = .ok (.dup, 1) := by decide +kernel
theorem dX6_init_145 : decode cX6_init 145 = .ok (.invokespecial 55, 3) := by decide +kernel
theorem dX6_init_148 : decode cX6_init 148 = .ok (.putfield 56, 3) := by decide +kernel
theorem dX6_init_151 : decode cX6_init 151 = .ok (.aload_n 0, 1) := by decide +kernel
theorem dX6_init_152 : decode cX6_init 152 = .ok (.sipush 500, 3) := by decide +kernel
theorem dX6_init_155 : decode cX6_init 155 = .ok (.newarray .byte, 2) := by decide +kernel
theorem dX6_init_157 : decode cX6_init 157 = .ok (.putfield 60, 3) := by decide +kernel
theorem dX6_init_160 : decode cX6_init 160 = .ok (.aload_n 0, 1) := by decide +kernel
theorem dX6_init_161 : decode cX6_init 161 = .ok (.new 64, 3) := by decide +kernel
theorem dX6_init_164 : decode cX6_init 164 = .ok (.dup, 1) := by decide +kernel
theorem dX6_init_165 : decode cX6_init 165 = .ok (.aload_n 0, 1) := by decide +kernel
theorem dX6_init_166 : decode cX6_init 166 = .ok (.getfield 60, 3) := by decide +kernel
theorem dX6_init_169 : decode cX6_init 169 = .ok (.aload_n 0, 1) := by decide +kernel
theorem dX6_init_170 : decode cX6_init 170 = .ok (.getfield 56, 3) := by decide +kernel
theorem dX6_init_173 : decode cX6_init 173 = .ok (.invokespecial 66, 3) := by decide +kernel
theorem dX6_init_176 : decode cX6_init 176 = .ok (.putfield 69, 3) := by decide +kernel
theorem dX6_init_179 : decode cX6_init 179 = .ok (.aload_n 0, 1) := by decide +kernel
theorem dX6_init_180 : decode cX6_init 180 = .ok (.bipush 40, 2) := by decide +kernel
theorem dX6_init_182 : decode cX6_init 182 = .ok (.newarray .int, 2) := by decide +kernel
theorem dX6_init_184 : decode cX6_init 184 = .ok (.putfield 73, 3) := by decide +kernel
theorem dX6_init_187 : decode cX6_init 187 = .ok (.aload_n 0, 1) := by decide +kernel
theorem dX6_init_188 : decode cX6_init 188 = .ok (.bipush 40, 2) := by decide +kernel
theorem dX6_init_190 : decode cX6_init 190 = .ok (.newarray .int, 2) := by decide +kernel
theorem dX6_init_192 : decode cX6_init 192 = .ok (.putfield 77, 3) := by decide +kernel
theorem dX6_init_195 : decode cX6_init 195 = .ok (.aload_n 0, 1) := by decide +kernel
theorem dX6_init_196 : decode cX6_init 196 = .ok (.iconst 1, 1) := by decide +kernel
theorem dX6_init_197 : decode cX6_init 197 = .ok (.putfield 80, 3) := by decide +kernel
theorem dX6_init_200 : decode cX6_init 200 = .ok (.aload_n 0, 1) := by decide +kernel
theorem dX6_init_201 : decode cX6_init 201 = .ok (.iconst 1, 1) := by decide +kernel
theorem dX6_init_202 : decode cX6_init 202 = .ok (.putfield 84, 3) := by decide +kernel
theorem dX6_init_205 : decode cX6_init 205 = .ok (.aload_n 0, 1) := by decide +kernel
theorem dX6_init_206 : decode cX6_init 206 = .ok (.bipush 25, 2) := by decide +kernel
theorem dX6_init_208 : decode cX6_init 208 = .ok (.newarray .int, 2) := by decide +kernel
theorem dX6_init_210 : decode cX6_init 210 = .ok (.putfield 87, 3) := by decide +kernel
theorem dX6_init_213 : decode cX6_init 213 = .ok (.aload_n 0, 1) := by decide +kernel
theorem dX6_init_214 : decode cX6_init 214 = .ok (.bipush 25, 2) := by decide +kernel
theorem dX6_init_216 : decode cX6_init 216 = .ok (.newarray .int, 2) := by decide +kernel
theorem dX6_init_218 : decode cX6_init 218 = .ok (.putfield 90, 3) := by decide +kernel
theorem dX6_init_221 : decode cX6_init 221 = .ok (.return_, 1) := by decide +kernel
theorem dX6_rows_0 : decode cX6_rows 0 = .ok (.iload_n 1, 1) := by decide +kernel
theorem dX6_rows_1 : decode cX6_rows 1 = .ok (.iconst 4, 1) := by decide +kernel
theorem dX6_rows_2 : decode cX6_rows 2 = .ok (.bipush 8, 2) := by decide +kernel
theorem dX6_rows_4 : decode cX6_rows 4 = .ok (.invokestatic 93, 3) := by decide +kernel
theorem dX6_rows_7 : decode cX6_rows 7 = .ok (.ifCond .eq 16, 3) := by decide +kernel
theorem dX6_rows_10 : decode cX6_rows 10 = .ok (.aload_n 0, 1) := by decide +kernel
theorem dX6_rows_11 : decode cX6_rows 11 = .ok (.getfield 15, 3) := by decide +kernel
theorem dX6_rows_14 : decode cX6_rows 14 = .ok (.getfield 38, 3) := by decide +kernel
theorem dX6_rows_17 : decode cX6_rows 17 = .ok (.getfield 97, 3) := by decide +kernel
theorem dX6_rows_20 : decode cX6_rows 20 = .ok (.ifCond .eq 5, 3) := by decide +kernel
theorem dX6_rows_23 : decode cX6_rows 23 = .ok (.iconst 0, 1) := by decide +kernel
theorem dX6_rows_24 : decode cX6_rows 24 = .ok (.ireturn, 1) := by decide +kernel
theorem dX6_rows_25 : decode cX6_rows 25 = .ok (.aload_n 0, 1) := by decide +kernel
theorem dX6_rows_26 : decode cX6_rows 26 = .ok (.getfield 15, 3) := by decide +kernel
theorem dX6_rows_29 : decode cX6_rows 29 = .ok (.getfield 38, 3) := by decide +kernel
theorem dX6_rows_32 : decode cX6_rows 32 = .ok (.iload_n 1, 1) := by decide +kernel
theorem dX6_rows_33 : decode cX6_rows 33 = .ok (.putfield 102, 3) := by decide +kernel
theorem dX6_rows_36 : decode cX6_rows 36 = .ok (.aload_n 0, 1) := by decide +kernel
theorem dX6_rows_37 : decode cX6_rows 37 = .ok (.iconst 1, 1) := by decide +kernel
theorem dX6_rows_38 : decode cX6_rows 38 = .ok (.putfield 28, 3) := by decide +kernel
theorem dX6_rows_41 : decode cX6_rows 41 = .ok (.iconst 1, 1) := by decide +kernel
theorem dX6_rows_42 : decode cX6_rows 42 = .ok (.ireturn, 1) := by decide +kernel
theorem dX6_seat_0 : decode cX6_seat 0 = .ok (.iload_n 1, 1) := by decide +kernel
theorem dX6_seat_1 : decode cX6_seat 1 = .ok (.invokestatic 105, 3) := by decide +kernel
theorem dX6_seat_4 : decode cX6_seat 4 = .ok (.ifCond .eq 21, 3) := by decide +kernel
theorem dX6_seat_7 : decode cX6_seat 7 = .ok (.iload_n 2, 1) := by decide +kernel
theorem dX6_seat_8 : decode cX6_seat 8 = .ok (.iconst (-1), 1) := by decide +kernel
theorem dX6_seat_9 : decode cX6_seat 9 = .ok (.iconst 3, 1) := by decide +kernel
theorem dX6_seat_10 : decode cX6_seat 10 = .ok (.invokestatic 93, 3) := by decide +kernel
theorem dX6_seat_13 : decode cX6_seat 13 = .ok (.ifCond .eq 12, 3) := by decide +kernel
theorem dX6_seat_16 : decode cX6_seat 16 = .ok (.iload_n 3, 1) := by decide +kernel
theorem dX6_seat_17 : decode cX6_seat 17 = .ok (.iconst 0, 1) := by decide +kernel
theorem dX6_seat_18 : decode cX6_seat 18 = .ok (.iconst 1, 1) := by decide +kernel
theorem dX6_seat_19 : decode cX6_seat 19 = .ok (.invokestatic 93, 3) := by decide +kernel
theorem dX6_seat_22 : decode cX6_seat 22 = .ok (.ifCond .ne 5, 3) := by decide +kernel
theorem dX6_seat_25 : decode cX6_seat 25 = .ok (.iconst 0, 1) := by decide +kernel
theorem dX6_seat_26 : decode cX6_seat 26 = .ok (.ireturn, 1) := by decide +kernel
theorem dX6_seat_27 : decode cX6_seat 27 = .ok (.iload_n 2, 1) := by decide +kernel
theorem dX6_seat_28 : decode cX6_seat 28 = .ok (.iconst (-1), 1) := by decide +kernel
theorem dX6_seat_29 : decode cX6_seat 29 = .ok (.if_icmp .ne 17, 3) := by decide +kernel
theorem dX6_seat_32 : decode cX6_seat 32 = .ok (.aload_n 0, 1) := by decide +kernel
theorem dX6_seat_33 : decode cX6_seat 33 = .ok (.getfield 15, 3) := by decide +kernel
theorem dX6_seat_36 : decode cX6_seat 36 = .ok (.getfield 38, 3) := by decide +kernel
theorem dX6_seat_39 : decode cX6_seat 39 = .ok (.iload_n 1, 1) := by decide +kernel
theorem dX6_seat_40 : decode cX6_seat 40 = .ok (.invokevirtual 109, 3) := by decide +kernel
theorem dX6_seat_43 : decode cX6_seat 43 = .ok (.goto 16, 3) := by decide +kernel
theorem dX6_seat_46 : decode cX6_seat 46 = .ok (.aload_n 0, 1) := by decide +kernel
theorem dX6_seat_47 : decode cX6_seat 47 = .ok (.getfield 15, 3) := by decide +kernel
theorem dX6_seat_50 : decode cX6_seat 50 = .ok (.getfield 38, 3) := by decide +kernel
theorem dX6_seat_53 : decode cX6_seat 53 = .ok (.iload_n 1, 1) := by decide +kernel
theorem dX6_seat_54 : decode cX6_seat 54 = .ok (.iload_n 2, 1) := by decide +kernel
theorem dX6_seat_55 : decode cX6_seat 55 = .ok (.iload_n 3, 1) := by decide +kernel
theorem dX6_seat_56 : decode cX6_seat 56 = .ok (.invokevirtual 113, 3) := by decide +kernel
theorem dX6_seat_59 : decode cX6_seat 59 = .ok (.aload_n 0, 1) := by decide +kernel
theorem dX6_seat_60 : decode cX6_seat 60 = .ok (.iconst 1, 1) := by decide +kernel
theorem dX6_seat_61 : decode cX6_seat 61 = .ok (.putfield 28, 3) := by decide +kernel
theorem dX6_seat_64 : decode cX6_seat 64 = .ok (.iconst 1, 1) := by decide +kernel
theorem dX6_seat_65 : decode cX6_seat 65 = .ok (.ireturn, 1) := by decide +kernel
theorem dX6_paid_0 : decode cX6_paid 0 = .ok (.iload_n 1, 1) := by decide +kernel
theorem dX6_paid_1 : decode cX6_paid 1 = .ok (.invokestatic 105, 3) := by decide +kernel
theorem dX6_paid_4 : decode cX6_paid 4 = .ok (.ifCond .eq 26, 3) := by decide +kernel
theorem dX6_paid_7 : decode cX6_paid 7 = .ok (.aload_n 0, 1) := by decide +kernel
theorem dX6_paid_8 : decode cX6_paid 8 = .ok (.getfield 15, 3) := by decide +kernel
theorem dX6_paid_11 : decode cX6_paid 11 = .ok (.getfield 38, 3) := by decide +kernel
theorem dX6_paid_14 : decode cX6_paid 14 = .ok (.iload_n 1, 1) := by decide +kernel
theorem dX6_paid_15 : decode cX6_paid 15 = .ok (.invokevirtual 117, 3) := by decide +kernel
theorem dX6_paid_18 : decode cX6_paid 18 = .ok (.ifCond .eq 12, 3) := by decide +kernel
theorem dX6_paid_21 : decode cX6_paid 21 = .ok (.iload_n 2, 1) := by decide +kernel
theorem dX6_paid_22 : decode cX6_paid 22 = .ok (.iconst 0, 1) := by decide +kernel
theorem dX6_paid_23 : decode cX6_paid 23 = .ok (.iconst 2, 1) := by decide +kernel
theorem dX6_paid_24 : decode cX6_paid 24 = .ok (.invokestatic 93, 3) := by decide +kernel
theorem dX6_paid_27 : decode cX6_paid 27 = .ok (.ifCond .ne 5, 3) := by decide +kernel
theorem dX6_paid_30 : decode cX6_paid 30 = .ok (.iconst 0, 1) := by decide +kernel
theorem dX6_paid_31 : decode cX6_paid 31 = .ok (.ireturn, 1) := by decide +kernel
theorem dX6_paid_32 : decode cX6_paid 32 = .ok (.aload_n 0, 1) := by decide +kernel
theorem dX6_paid_33 : decode cX6_paid 33 = .ok (.getfield 15, 3) := by decide +kernel
theorem dX6_paid_36 : decode cX6_paid 36 = .ok (.getfield 38, 3) := by decide +kernel
theorem dX6_paid_39 : decode cX6_paid 39 = .ok (.iload_n 1, 1) := by decide +kernel
theorem dX6_paid_40 : decode cX6_paid 40 = .ok (.iload_n 2, 1) := by decide +kernel
theorem dX6_paid_41 : decode cX6_paid 41 = .ok (.invokevirtual 120, 3) := by decide +kernel
theorem dX6_paid_44 : decode cX6_paid 44 = .ok (.aload_n 0, 1) := by decide +kernel
theorem dX6_paid_45 : decode cX6_paid 45 = .ok (.iconst 1, 1) := by decide +kernel
theorem dX6_paid_46 : decode cX6_paid 46 = .ok (.putfield 28, 3) := by decide +kernel
theorem dX6_paid_49 : decode cX6_paid 49 = .ok (.iconst 1, 1) := by decide +kernel
theorem dX6_paid_50 : decode cX6_paid 50 = .ok (.ireturn, 1) := by decide +kernel
theorem dX6_seconds_0 : decode cX6_seconds 0 = .ok (.iload_n 1, 1) := by decide +kernel
theorem dX6_seconds_1 : decode cX6_seconds 1 = .ok (.iconst 1, 1) := by decide +kernel
theorem dX6_seconds_2 : decode cX6_seconds 2 = .ok (.bipush 40, 2) := by decide +kernel
theorem dX6_seconds_4 : decode cX6_seconds 4 = .ok (.invokestatic 93, 3) := by decide +kernel
theorem dX6_seconds_7 : decode cX6_seconds 7 = .ok (.ifCond .ne 5, 3) := by decide +kernel
theorem dX6_seconds_10 : decode cX6_seconds 10 = .ok (.iconst 0, 1) := by decide +kernel
theorem dX6_seconds_11 : decode cX6_seconds 11 = .ok (.ireturn, 1) := by decide +kernel
theorem dX6_seconds_12 : decode cX6_seconds 12 = .ok (.aload_n 0, 1) := by decide +kernel
theorem dX6_seconds_13 : decode cX6_seconds 13 = .ok (.getfield 15, 3) := by decide +kernel
theorem dX6_seconds_16 : decode cX6_seconds 16 = .ok (.getfield 21, 3) := by decide +kernel
theorem dX6_seconds_19 : decode cX6_seconds 19 = .ok (.iload_n 1, 1) := by decide +kernel
theorem dX6_seconds_20 : decode cX6_seconds 20 = .ok (.putfield 124, 3) := by decide +kernel
theorem dX6_seconds_23 : decode cX6_seconds 23 = .ok (.aload_n 0, 1) := by decide +kernel
theorem dX6_seconds_24 : decode cX6_seconds 24 = .ok (.iconst 1, 1) := by decide +kernel
theorem dX6_seconds_25 : decode cX6_seconds 25 = .ok (.putfield 28, 3) := by decide +kernel
theorem dX6_seconds_28 : decode cX6_seconds 28 = .ok (.iconst 1, 1) := by decide +kernel
theorem dX6_seconds_29 : decode cX6_seconds 29 = .ok (.ireturn, 1) := by decide +kernel
theorem dX6_good_0 : decode cX6_good 0 = .ok (.iload_n 1, 1) := by decide +kernel
theorem dX6_good_1 : decode cX6_good 1 = .ok (.iconst 0, 1) := by decide +kernel
theorem dX6_good_2 : decode cX6_good 2 = .ok (.bipush 39, 2) := by decide +kernel
theorem dX6_good_4 : decode cX6_good 4 = .ok (.invokestatic 93, 3) := by decide +kernel
theorem dX6_good_7 : decode cX6_good 7 = .ok (.ifCond .eq 23, 3) := by decide +kernel
theorem dX6_good_10 : decode cX6_good 10 = .ok (.iload_n 2, 1) := by decide +kernel
theorem dX6_good_11 : decode cX6_good 11 = .ok (.iconst 0, 1) := by decide +kernel
theorem dX6_good_12 : decode cX6_good 12 = .ok (.bipush 100, 2) := by decide +kernel
theorem dX6_good_14 : decode cX6_good 14 = .ok (.invokestatic 93, 3) := by decide +kernel
theorem dX6_good_17 : decode cX6_good 17 = .ok (.ifCond .eq 13, 3) := by decide +kernel
theorem dX6_good_20 : decode cX6_good 20 = .ok (.iload_n 3, 1) := by decide +kernel
theorem dX6_good_21 : decode cX6_good 21 = .ok (.iconst 0, 1) := by decide +kernel
theorem dX6_good_22 : decode cX6_good 22 = .ok (.bipush 100, 2) := by decide +kernel
theorem dX6_good_24 : decode cX6_good 24 = .ok (.invokestatic 93, 3) := by decide +kernel
theorem dX6_good_27 : decode cX6_good 27 = .ok (.ifCond .ne 5, 3) := by decide +kernel
theorem dX6_good_30 : decode cX6_good 30 = .ok (.iconst 0, 1) := by decide +kernel
theorem dX6_good_31 : decode cX6_good 31 = .ok (.ireturn, 1) := by decide +kernel
theorem dX6_good_32 : decode cX6_good 32 = .ok (.aload_n 0, 1) := by decide +kernel
theorem dX6_good_33 : decode cX6_good 33 = .ok (.getfield 15, 3) := by decide +kernel
theorem dX6_good_36 : decode cX6_good 36 = .ok (.getfield 21, 3) := by decide +kernel
theorem dX6_good_39 : decode cX6_good 39 = .ok (.getfield 127, 3) := by decide +kernel
theorem dX6_good_42 : decode cX6_good 42 = .ok (.iload_n 1, 1) := by decide +kernel
theorem dX6_good_43 : decode cX6_good 43 = .ok (.iload_n 2, 1) := by decide +kernel
theorem dX6_good_44 : decode cX6_good 44 = .ok (.iastore, 1) := by decide +kernel
theorem dX6_good_45 : decode cX6_good 45 = .ok (.aload_n 0, 1) := by decide +kernel
theorem dX6_good_46 : decode cX6_good 46 = .ok (.getfield 15, 3) := by decide +kernel
theorem dX6_good_49 : decode cX6_good 49 = .ok (.getfield 21, 3) := by decide +kernel
theorem dX6_good_52 : decode cX6_good 52 = .ok (.getfield 130, 3) := by decide +kernel
theorem dX6_good_55 : decode cX6_good 55 = .ok (.iload_n 1, 1) := by decide +kernel
theorem dX6_good_56 : decode cX6_good 56 = .ok (.iload_n 3, 1) := by decide +kernel
theorem dX6_good_57 : decode cX6_good 57 = .ok (.iastore, 1) := by decide +kernel
theorem dX6_good_58 : decode cX6_good 58 = .ok (.aload_n 0, 1) := by decide +kernel
theorem dX6_good_59 : decode cX6_good 59 = .ok (.iconst 1, 1) := by decide +kernel
theorem dX6_good_60 : decode cX6_good 60 = .ok (.putfield 28, 3) := by decide +kernel
theorem dX6_good_63 : decode cX6_good 63 = .ok (.iconst 1, 1) := by decide +kernel
theorem dX6_good_64 : decode cX6_good 64 = .ok (.ireturn, 1) := by decide +kernel
theorem dX6_plan_0 : decode cX6_plan 0 = .ok (.iload_n 1, 1) := by decide +kernel
theorem dX6_plan_1 : decode cX6_plan 1 = .ok (.invokestatic 133, 3) := by decide +kernel
theorem dX6_plan_4 : decode cX6_plan 4 = .ok (.ifCond .eq 22, 3) := by decide +kernel
theorem dX6_plan_7 : decode cX6_plan 7 = .ok (.iload_n 2, 1) := by decide +kernel
theorem dX6_plan_8 : decode cX6_plan 8 = .ok (.iconst 0, 1) := by decide +kernel
theorem dX6_plan_9 : decode cX6_plan 9 = .ok (.bipush 39, 2) := by decide +kernel
theorem dX6_plan_11 : decode cX6_plan 11 = .ok (.invokestatic 93, 3) := by decide +kernel
theorem dX6_plan_14 : decode cX6_plan 14 = .ok (.ifCond .eq 12, 3) := by decide +kernel
theorem dX6_plan_17 : decode cX6_plan 17 = .ok (.iload_n 3, 1) := by decide +kernel
theorem dX6_plan_18 : decode cX6_plan 18 = .ok (.iconst 0, 1) := by decide +kernel
theorem dX6_plan_19 : decode cX6_plan 19 = .ok (.iconst 2, 1) := by decide +kernel
theorem dX6_plan_20 : decode cX6_plan 20 = .ok (.invokestatic 93, 3) := by decide +kernel
theorem dX6_plan_23 : decode cX6_plan 23 = .ok (.ifCond .ne 5, 3) := by decide +kernel
theorem dX6_plan_26 : decode cX6_plan 26 = .ok (.iconst 0, 1) := by decide +kernel
theorem dX6_plan_27 : decode cX6_plan 27 = .ok (.ireturn, 1) := by decide +kernel
theorem dX6_plan_28 : decode cX6_plan 28 = .ok (.aload_n 0, 1) := by decide +kernel
theorem dX6_plan_29 : decode cX6_plan 29 = .ok (.iload_n 1, 1) := by decide +kernel
theorem dX6_plan_30 : decode cX6_plan 30 = .ok (.invokevirtual 136, 3) := by decide +kernel
theorem dX6_plan_33 : decode cX6_plan 33 = .ok (.iload_n 2, 1) := by decide +kernel
theorem dX6_plan_34 : decode cX6_plan 34 = .ok (.iload_n 3, 1) := by decide +kernel
theorem dX6_plan_35 : decode cX6_plan 35 = .ok (.iastore, 1) := by decide +kernel
theorem dX6_plan_36 : decode cX6_plan 36 = .ok (.aload_n 0, 1) := by decide +kernel
theorem dX6_plan_37 : decode cX6_plan 37 = .ok (.iconst 1, 1) := by decide +kernel
theorem dX6_plan_38 : decode cX6_plan 38 = .ok (.putfield 28, 3) := by decide +kernel
theorem dX6_plan_41 : decode cX6_plan 41 = .ok (.iconst 1, 1) := by decide +kernel
theorem dX6_plan_42 : decode cX6_plan 42 = .ok (.ireturn, 1) := by decide +kernel
theorem dX6_prices_0 : decode cX6_prices 0 = .ok (.iload_n 1, 1) := by decide +kernel
theorem dX6_prices_1 : decode cX6_prices 1 = .ok (.iconst 0, 1) := by decide +kernel
theorem dX6_prices_2 : decode cX6_prices 2 = .ok (.bipush 100, 2) := by decide +kernel
theorem dX6_prices_4 : decode cX6_prices 4 = .ok (.invokestatic 93, 3) := by decide +kernel
theorem dX6_prices_7 : decode cX6_prices 7 = .ok (.ifCond .eq 13, 3) := by decide +kernel
theorem dX6_prices_10 : decode cX6_prices 10 = .ok (.iload_n 2, 1) := by decide +kernel
theorem dX6_prices_11 : decode cX6_prices 11 = .ok (.iconst 0, 1) := by decide +kernel
theorem dX6_prices_12 : decode cX6_prices 12 = .ok (.bipush 100, 2) := by decide +kernel
theorem dX6_prices_14 : decode cX6_prices 14 = .ok (.invokestatic 93, 3) := by decide +kernel
theorem dX6_prices_17 : decode cX6_prices 17 = .ok (.ifCond .ne 5, 3) := by decide +kernel
theorem dX6_prices_20 : decode cX6_prices 20 = .ok (.iconst 0, 1) := by decide +kernel
theorem dX6_prices_21 : decode cX6_prices 21 = .ok (.ireturn, 1) := by decide +kernel
theorem dX6_prices_22 : decode cX6_prices 22 = .ok (.aload_n 0, 1) := by decide +kernel
theorem dX6_prices_23 : decode cX6_prices 23 = .ok (.iload_n 1, 1) := by decide +kernel
theorem dX6_prices_24 : decode cX6_prices 24 = .ok (.putfield 80, 3) := by decide +kernel
theorem dX6_prices_27 : decode cX6_prices 27 = .ok (.aload_n 0, 1) := by decide +kernel
theorem dX6_prices_28 : decode cX6_prices 28 = .ok (.iload_n 2, 1) := by decide +kernel
theorem dX6_prices_29 : decode cX6_prices 29 = .ok (.putfield 84, 3) := by decide +kernel
theorem dX6_prices_32 : decode cX6_prices 32 = .ok (.iconst 1, 1) := by decide +kernel
theorem dX6_prices_33 : decode cX6_prices 33 = .ok (.ireturn, 1) := by decide +kernel
theorem dX6_feed_0 : decode cX6_feed 0 = .ok (.aload_n 0, 1) := by decide +kernel
theorem dX6_feed_1 : decode cX6_feed 1 = .ok (.getfield 140, 3) := by decide +kernel
theorem dX6_feed_4 : decode cX6_feed 4 = .ok (.sipush 480, 3) := by decide +kernel
theorem dX6_feed_7 : decode cX6_feed 7 = .ok (.if_icmp .le 5, 3) := by decide +kernel
theorem dX6_feed_10 : decode cX6_feed 10 = .ok (.iconst (-1), 1) := by decide +kernel
theorem dX6_feed_11 : decode cX6_feed 11 = .ok (.ireturn, 1) := by decide +kernel
theorem dX6_feed_12 : decode cX6_feed 12 = .ok (.aload_n 0, 1) := by decide +kernel
theorem dX6_feed_13 : decode cX6_feed 13 = .ok (.iload_n 1, 1) := by decide +kernel
theorem dX6_feed_14 : decode cX6_feed 14 = .ok (.invokevirtual 143, 3) := by decide +kernel
theorem dX6_feed_17 : decode cX6_feed 17 = .ok (.aload_n 0, 1) := by decide +kernel
theorem dX6_feed_18 : decode cX6_feed 18 = .ok (.iload_n 2, 1) := by decide +kernel
theorem dX6_feed_19 : decode cX6_feed 19 = .ok (.invokevirtual 143, 3) := by decide +kernel
theorem dX6_feed_22 : decode cX6_feed 22 = .ok (.aload_n 0, 1) := by decide +kernel
theorem dX6_feed_23 : decode cX6_feed 23 = .ok (.iload_n 3, 1) := by decide +kernel
theorem dX6_feed_24 : decode cX6_feed 24 = .ok (.invokevirtual 143, 3) := by decide +kernel
theorem dX6_feed_27 : decode cX6_feed 27 = .ok (.aload_n 0, 1) := by decide +kernel
theorem dX6_feed_28 : decode cX6_feed 28 = .ok (.iload 4, 2) := by decide +kernel
theorem dX6_feed_30 : decode cX6_feed 30 = .ok (.invokevirtual 143, 3) := by decide +kernel
theorem dX6_feed_33 : decode cX6_feed 33 = .ok (.aload_n 0, 1) := by decide +kernel
theorem dX6_feed_34 : decode cX6_feed 34 = .ok (.iload 5, 2) := by decide +kernel
theorem dX6_feed_36 : decode cX6_feed 36 = .ok (.invokevirtual 143, 3) := by decide +kernel
theorem dX6_feed_39 : decode cX6_feed 39 = .ok (.aload_n 0, 1) := by decide +kernel
theorem dX6_feed_40 : decode cX6_feed 40 = .ok (.getfield 140, 3) := by decide +kernel
theorem dX6_feed_43 : decode cX6_feed 43 = .ok (.ireturn, 1) := by decide +kernel
theorem dX6_law_0 : decode cX6_law 0 = .ok (.iload_n 1, 1) := by decide +kernel
theorem dX6_law_1 : decode cX6_law 1 = .ok (.iconst 0, 1) := by decide +kernel
theorem dX6_law_2 : decode cX6_law 2 = .ok (.iconst 3, 1) := by decide +kernel
theorem dX6_law_3 : decode cX6_law 3 = .ok (.invokestatic 93, 3) := by decide +kernel
theorem dX6_law_6 : decode cX6_law 6 = .ok (.ifCond .eq 21, 3) := by decide +kernel
theorem dX6_law_9 : decode cX6_law 9 = .ok (.iload_n 2, 1) := by decide +kernel
theorem dX6_law_10 : decode cX6_law 10 = .ok (.iconst 1, 1) := by decide +kernel
theorem dX6_law_11 : decode cX6_law 11 = .ok (.bipush 120, 2) := by decide +kernel
theorem dX6_law_13 : decode cX6_law 13 = .ok (.invokestatic 93, 3) := by decide +kernel
theorem dX6_law_16 : decode cX6_law 16 = .ok (.ifCond .eq 11, 3) := by decide +kernel
theorem dX6_law_19 : decode cX6_law 19 = .ok (.iload_n 2, 1) := by decide +kernel
theorem dX6_law_20 : decode cX6_law 20 = .ok (.aload_n 0, 1) := by decide +kernel
theorem dX6_law_21 : decode cX6_law 21 = .ok (.getfield 140, 3) := by decide +kernel
theorem dX6_law_24 : decode cX6_law 24 = .ok (.if_icmp .le 5, 3) := by decide +kernel
theorem dX6_law_27 : decode cX6_law 27 = .ok (.iconst (-1), 1) := by decide +kernel
theorem dX6_law_28 : decode cX6_law 28 = .ok (.ireturn, 1) := by decide +kernel
theorem dX6_law_29 : decode cX6_law 29 = .ok (.aload_n 0, 1) := by decide +kernel
theorem dX6_law_30 : decode cX6_law 30 = .ok (.getfield 69, 3) := by decide +kernel
theorem dX6_law_33 : decode cX6_law 33 = .ok (.iload_n 2, 1) := by decide +kernel
theorem dX6_law_34 : decode cX6_law 34 = .ok (.aload_n 0, 1) := by decide +kernel
theorem dX6_law_35 : decode cX6_law 35 = .ok (.getfield 56, 3) := by decide +kernel
theorem dX6_law_38 : decode cX6_law 38 = .ok (.invokevirtual 146, 3) := by decide +kernel
theorem dX6_law_41 : decode cX6_law 41 = .ok (.istore_n 3, 1) := by decide +kernel
theorem dX6_law_42 : decode cX6_law 42 = .ok (.aload_n 0, 1) := by decide +kernel
theorem dX6_law_43 : decode cX6_law 43 = .ok (.iconst 0, 1) := by decide +kernel
theorem dX6_law_44 : decode cX6_law 44 = .ok (.putfield 140, 3) := by decide +kernel
theorem dX6_law_47 : decode cX6_law 47 = .ok (.iload_n 3, 1) := by decide +kernel
theorem dX6_law_48 : decode cX6_law 48 = .ok (.ifCond .le 32, 3) := by decide +kernel
theorem dX6_law_51 : decode cX6_law 51 = .ok (.aload_n 0, 1) := by decide +kernel
theorem dX6_law_52 : decode cX6_law 52 = .ok (.getfield 51, 3) := by decide +kernel
theorem dX6_law_55 : decode cX6_law 55 = .ok (.iload_n 1, 1) := by decide +kernel
theorem dX6_law_56 : decode cX6_law 56 = .ok (.aaload, 1) := by decide +kernel
theorem dX6_law_57 : decode cX6_law 57 = .ok (.astore 4, 2) := by decide +kernel
theorem dX6_law_59 : decode cX6_law 59 = .ok (.aload_n 0, 1) := by decide +kernel
theorem dX6_law_60 : decode cX6_law 60 = .ok (.getfield 51, 3) := by decide +kernel
theorem dX6_law_63 : decode cX6_law 63 = .ok (.iload_n 1, 1) := by decide +kernel
theorem dX6_law_64 : decode cX6_law 64 = .ok (.aload_n 0, 1) := by decide +kernel
theorem dX6_law_65 : decode cX6_law 65 = .ok (.getfield 56, 3) := by decide +kernel
theorem dX6_law_68 : decode cX6_law 68 = .ok (.aastore, 1) := by decide +kernel
theorem dX6_law_69 : decode cX6_law 69 = .ok (.aload_n 0, 1) := by decide +kernel
theorem dX6_law_70 : decode cX6_law 70 = .ok (.aload 4, 2) := by decide +kernel
theorem dX6_law_72 : decode cX6_law 72 = .ok (.putfield 56, 3) := by decide +kernel
theorem dX6_law_75 : decode cX6_law 75 = .ok (.aload_n 0, 1) := by decide +kernel
theorem dX6_law_76 : decode cX6_law 76 = .ok (.iconst 1, 1) := by decide +kernel
theorem dX6_law_77 : decode cX6_law 77 = .ok (.putfield 28, 3) := by decide +kernel
theorem dX6_law_80 : decode cX6_law 80 = .ok (.iload_n 3, 1) := by decide +kernel
theorem dX6_law_81 : decode cX6_law 81 = .ok (.ireturn, 1) := by decide +kernel
theorem dX6_shows_0 : decode cX6_shows 0 = .ok (.iload_n 1, 1) := by decide +kernel
theorem dX6_shows_1 : decode cX6_shows 1 = .ok (.invokestatic 105, 3) := by decide +kernel
theorem dX6_shows_4 : decode cX6_shows 4 = .ok (.ifCond .eq 25, 3) := by decide +kernel
theorem dX6_shows_7 : decode cX6_shows 7 = .ok (.aload_n 0, 1) := by decide +kernel
theorem dX6_shows_8 : decode cX6_shows 8 = .ok (.getfield 15, 3) := by decide +kernel
theorem dX6_shows_11 : decode cX6_shows 11 = .ok (.getfield 38, 3) := by decide +kernel
theorem dX6_shows_14 : decode cX6_shows 14 = .ok (.iload_n 1, 1) := by decide +kernel
theorem dX6_shows_15 : decode cX6_shows 15 = .ok (.invokevirtual 117, 3) := by decide +kernel
theorem dX6_shows_18 : decode cX6_shows 18 = .ok (.ifCond .eq 11, 3) := by decide +kernel
theorem dX6_shows_21 : decode cX6_shows 21 = .ok (.aload_n 0, 1) := by decide +kernel
theorem dX6_shows_22 : decode cX6_shows 22 = .ok (.iload_n 2, 1) := by decide +kernel
theorem dX6_shows_23 : decode cX6_shows 23 = .ok (.invokevirtual 150, 3) := by decide +kernel
theorem dX6_shows_26 : decode cX6_shows 26 = .ok (.ifCond .ne 5, 3) := by decide +kernel
theorem dX6_shows_29 : decode cX6_shows 29 = .ok (.iconst (-1), 1) := by decide +kernel
theorem dX6_shows_30 : decode cX6_shows 30 = .ok (.ireturn, 1) := by decide +kernel
theorem dX6_shows_31 : decode cX6_shows 31 = .ok (.aload_n 0, 1) := by decide +kernel
theorem dX6_shows_32 : decode cX6_shows 32 = .ok (.invokevirtual 153, 3) := by decide +kernel
theorem dX6_shows_35 : decode cX6_shows 35 = .ok (.iload_n 1, 1) := by decide +kernel
theorem dX6_shows_36 : decode cX6_shows 36 = .ok (.iload_n 2, 1) := by decide +kernel
theorem dX6_shows_37 : decode cX6_shows 37 = .ok (.invokevirtual 157, 3) := by decide +kernel
theorem dX6_shows_40 : decode cX6_shows 40 = .ok (.ireturn, 1) := by decide +kernel
theorem dX6_loud_0 : decode cX6_loud 0 = .ok (.aload_n 0, 1) := by decide +kernel
theorem dX6_loud_1 : decode cX6_loud 1 = .ok (.iload_n 1, 1) := by decide +kernel
theorem dX6_loud_2 : decode cX6_loud 2 = .ok (.invokevirtual 150, 3) := by decide +kernel
theorem dX6_loud_5 : decode cX6_loud 5 = .ok (.ifCond .eq 12, 3) := by decide +kernel
theorem dX6_loud_8 : decode cX6_loud 8 = .ok (.iload_n 2, 1) := by decide +kernel
theorem dX6_loud_9 : decode cX6_loud 9 = .ok (.iconst 0, 1) := by decide +kernel
theorem dX6_loud_10 : decode cX6_loud 10 = .ok (.iconst 1, 1) := by decide +kernel
theorem dX6_loud_11 : decode cX6_loud 11 = .ok (.invokestatic 93, 3) := by decide +kernel
theorem dX6_loud_14 : decode cX6_loud 14 = .ok (.ifCond .ne 5, 3) := by decide +kernel
theorem dX6_loud_17 : decode cX6_loud 17 = .ok (.iconst (-1), 1) := by decide +kernel
theorem dX6_loud_18 : decode cX6_loud 18 = .ok (.ireturn, 1) := by decide +kernel
theorem dX6_loud_19 : decode cX6_loud 19 = .ok (.iload_n 2, 1) := by decide +kernel
theorem dX6_loud_20 : decode cX6_loud 20 = .ok (.ifCond .ne 14, 3) := by decide +kernel
theorem dX6_loud_23 : decode cX6_loud 23 = .ok (.aload_n 0, 1) := by decide +kernel
theorem dX6_loud_24 : decode cX6_loud 24 = .ok (.invokevirtual 153, 3) := by decide +kernel
theorem dX6_loud_27 : decode cX6_loud 27 = .ok (.iload_n 1, 1) := by decide +kernel
theorem dX6_loud_28 : decode cX6_loud 28 = .ok (.invokevirtual 161, 3) := by decide +kernel
theorem dX6_loud_31 : decode cX6_loud 31 = .ok (.goto 11, 3) := by decide +kernel
theorem dX6_loud_34 : decode cX6_loud 34 = .ok (.aload_n 0, 1) := by decide +kernel
theorem dX6_loud_35 : decode cX6_loud 35 = .ok (.invokevirtual 153, 3) := by decide +kernel
theorem dX6_loud_38 : decode cX6_loud 38 = .ok (.iload_n 1, 1) := by decide +kernel
theorem dX6_loud_39 : decode cX6_loud 39 = .ok (.invokevirtual 165, 3) := by decide +kernel
theorem dX6_loud_42 : decode cX6_loud 42 = .ok (.ireturn, 1) := by decide +kernel
theorem dX6_house_0 : decode cX6_house 0 = .ok (.aload_n 0, 1) := by decide +kernel
theorem dX6_house_1 : decode cX6_house 1 = .ok (.invokevirtual 153, 3) := by decide +kernel
theorem dX6_house_4 : decode cX6_house 4 = .ok (.getfield 168, 3) := by decide +kernel
theorem dX6_house_7 : decode cX6_house 7 = .ok (.ireturn, 1) := by decide +kernel
theorem dX6_costs_0 : decode cX6_costs 0 = .ok (.iload_n 1, 1) := by decide +kernel
theorem dX6_costs_1 : decode cX6_costs 1 = .ok (.invokestatic 133, 3) := by decide +kernel
theorem dX6_costs_4 : decode cX6_costs 4 = .ok (.ifCond .ne 5, 3) := by decide +kernel
theorem dX6_costs_7 : decode cX6_costs 7 = .ok (.iconst (-1), 1) := by decide +kernel
theorem dX6_costs_8 : decode cX6_costs 8 = .ok (.ireturn, 1) := by decide +kernel
theorem dX6_costs_9 : decode cX6_costs 9 = .ok (.aload_n 0, 1) := by decide +kernel
theorem dX6_costs_10 : decode cX6_costs 10 = .ok (.iload_n 1, 1) := by decide +kernel
theorem dX6_costs_11 : decode cX6_costs 11 = .ok (.iconst 1, 1) := by decide +kernel
theorem dX6_costs_12 : decode cX6_costs 12 = .ok (.invokevirtual 171, 3) := by decide +kernel
theorem dX6_costs_15 : decode cX6_costs 15 = .ok (.aload_n 0, 1) := by decide +kernel
theorem dX6_costs_16 : decode cX6_costs 16 = .ok (.getfield 80, 3) := by decide +kernel
theorem dX6_costs_19 : decode cX6_costs 19 = .ok (.imul, 1) := by decide +kernel
theorem dX6_costs_20 : decode cX6_costs 20 = .ok (.aload_n 0, 1) := by decide +kernel
theorem dX6_costs_21 : decode cX6_costs 21 = .ok (.iload_n 1, 1) := by decide +kernel
theorem dX6_costs_22 : decode cX6_costs 22 = .ok (.iconst 2, 1) := by decide +kernel
theorem dX6_costs_23 : decode cX6_costs 23 = .ok (.invokevirtual 171, 3) := by decide +kernel
theorem dX6_costs_26 : decode cX6_costs 26 = .ok (.aload_n 0, 1) := by decide +kernel
theorem dX6_costs_27 : decode cX6_costs 27 = .ok (.getfield 84, 3) := by decide +kernel
theorem dX6_costs_30 : decode cX6_costs 30 = .ok (.imul, 1) := by decide +kernel
theorem dX6_costs_31 : decode cX6_costs 31 = .ok (.iadd, 1) := by decide +kernel
theorem dX6_costs_32 : decode cX6_costs 32 = .ok (.istore_n 2, 1) := by decide +kernel
theorem dX6_costs_33 : decode cX6_costs 33 = .ok (.iload_n 2, 1) := by decide +kernel
theorem dX6_costs_34 : decode cX6_costs 34 = .ok (.aload_n 0, 1) := by decide +kernel
theorem dX6_costs_35 : decode cX6_costs 35 = .ok (.getfield 15, 3) := by decide +kernel
theorem dX6_costs_38 : decode cX6_costs 38 = .ok (.getfield 38, 3) := by decide +kernel
theorem dX6_costs_41 : decode cX6_costs 41 = .ok (.iload_n 1, 1) := by decide +kernel
theorem dX6_costs_42 : decode cX6_costs 42 = .ok (.invokevirtual 174, 3) := by decide +kernel
theorem dX6_costs_45 : decode cX6_costs 45 = .ok (.invokestatic 177, 3) := by decide +kernel
theorem dX6_costs_48 : decode cX6_costs 48 = .ok (.imul, 1) := by decide +kernel
theorem dX6_costs_49 : decode cX6_costs 49 = .ok (.ireturn, 1) := by decide +kernel
theorem dX6_more_0 : decode cX6_more 0 = .ok (.iload_n 1, 1) := by decide +kernel
theorem dX6_more_1 : decode cX6_more 1 = .ok (.invokestatic 133, 3) := by decide +kernel
theorem dX6_more_4 : decode cX6_more 4 = .ok (.ifCond .eq 11, 3) := by decide +kernel
theorem dX6_more_7 : decode cX6_more 7 = .ok (.aload_n 0, 1) := by decide +kernel
theorem dX6_more_8 : decode cX6_more 8 = .ok (.iload_n 1, 1) := by decide +kernel
theorem dX6_more_9 : decode cX6_more 9 = .ok (.invokevirtual 182, 3) := by decide +kernel
theorem dX6_more_12 : decode cX6_more 12 = .ok (.goto 5, 3) := by decide +kernel
theorem dX6_more_15 : decode cX6_more 15 = .ok (.ldc 185, 2) := by decide +kernel
theorem dX6_more_17 : decode cX6_more 17 = .ok (.ireturn, 1) := by decide +kernel
theorem dX6_wins_0 : decode cX6_wins 0 = .ok (.aload_n 0, 1) := by decide +kernel
theorem dX6_wins_1 : decode cX6_wins 1 = .ok (.iconst 1, 1) := by decide +kernel
theorem dX6_wins_2 : decode cX6_wins 2 = .ok (.invokevirtual 186, 3) := by decide +kernel
theorem dX6_wins_5 : decode cX6_wins 5 = .ok (.istore_n 1, 1) := by decide +kernel
theorem dX6_wins_6 : decode cX6_wins 6 = .ok (.aload_n 0, 1) := by decide +kernel
theorem dX6_wins_7 : decode cX6_wins 7 = .ok (.iconst 2, 1) := by decide +kernel
theorem dX6_wins_8 : decode cX6_wins 8 = .ok (.invokevirtual 186, 3) := by decide +kernel
theorem dX6_wins_11 : decode cX6_wins 11 = .ok (.istore_n 2, 1) := by decide +kernel
theorem dX6_wins_12 : decode cX6_wins 12 = .ok (.iload_n 1, 1) := by decide +kernel
theorem dX6_wins_13 : decode cX6_wins 13 = .ok (.iload_n 2, 1) := by decide +kernel
theorem dX6_wins_14 : decode cX6_wins 14 = .ok (.if_icmp .ne 5, 3) := by decide +kernel
theorem dX6_wins_17 : decode cX6_wins 17 = .ok (.iconst 0, 1) := by decide +kernel
theorem dX6_wins_18 : decode cX6_wins 18 = .ok (.ireturn, 1) := by decide +kernel
theorem dX6_wins_19 : decode cX6_wins 19 = .ok (.iload_n 1, 1) := by decide +kernel
theorem dX6_wins_20 : decode cX6_wins 20 = .ok (.iload_n 2, 1) := by decide +kernel
theorem dX6_wins_21 : decode cX6_wins 21 = .ok (.if_icmp .le 7, 3) := by decide +kernel
theorem dX6_wins_24 : decode cX6_wins 24 = .ok (.iconst 1, 1) := by decide +kernel
theorem dX6_wins_25 : decode cX6_wins 25 = .ok (.goto 4, 3) := by decide +kernel
theorem dX6_wins_28 : decode cX6_wins 28 = .ok (.iconst 2, 1) := by decide +kernel
theorem dX6_wins_29 : decode cX6_wins 29 = .ok (.ireturn, 1) := by decide +kernel
theorem dX6_seated_0 : decode cX6_seated 0 = .ok (.iload_n 3, 1) := by decide +kernel
theorem dX6_seated_1 : decode cX6_seated 1 = .ok (.iconst 1, 1) := by decide +kernel
theorem dX6_seated_2 : decode cX6_seated 2 = .ok (.if_icmp .ne 8, 3) := by decide +kernel
theorem dX6_seated_5 : decode cX6_seated 5 = .ok (.ldc 185, 2) := by decide +kernel
theorem dX6_seated_7 : decode cX6_seated 7 = .ok (.goto 4, 3) := by decide +kernel
theorem dX6_seated_10 : decode cX6_seated 10 = .ok (.iconst (-1), 1) := by decide +kernel
theorem dX6_seated_11 : decode cX6_seated 11 = .ok (.istore 4, 2) := by decide +kernel
theorem dX6_seated_13 : decode cX6_seated 13 = .ok (.iload_n 1, 1) := by decide +kernel
theorem dX6_seated_14 : decode cX6_seated 14 = .ok (.invokestatic 133, 3) := by decide +kernel
theorem dX6_seated_17 : decode cX6_seated 17 = .ok (.ifCond .eq 21, 3) := by decide +kernel
theorem dX6_seated_20 : decode cX6_seated 20 = .ok (.iload_n 2, 1) := by decide +kernel
theorem dX6_seated_21 : decode cX6_seated 21 = .ok (.iconst 1, 1) := by decide +kernel
theorem dX6_seated_22 : decode cX6_seated 22 = .ok (.iconst 3, 1) := by decide +kernel
theorem dX6_seated_23 : decode cX6_seated 23 = .ok (.invokestatic 93, 3) := by decide +kernel
theorem dX6_seated_26 : decode cX6_seated 26 = .ok (.ifCond .eq 12, 3) := by decide +kernel
theorem dX6_seated_29 : decode cX6_seated 29 = .ok (.iload_n 3, 1) := by decide +kernel
theorem dX6_seated_30 : decode cX6_seated 30 = .ok (.iconst 0, 1) := by decide +kernel
theorem dX6_seated_31 : decode cX6_seated 31 = .ok (.iconst 1, 1) := by decide +kernel
theorem dX6_seated_32 : decode cX6_seated 32 = .ok (.invokestatic 93, 3) := by decide +kernel
theorem dX6_seated_35 : decode cX6_seated 35 = .ok (.ifCond .ne 6, 3) := by decide +kernel
theorem dX6_seated_38 : decode cX6_seated 38 = .ok (.iload 4, 2) := by decide +kernel
theorem dX6_seated_40 : decode cX6_seated 40 = .ok (.ireturn, 1) := by decide +kernel
theorem dX6_seated_41 : decode cX6_seated 41 = .ok (.aload_n 0, 1) := by decide +kernel
theorem dX6_seated_42 : decode cX6_seated 42 = .ok (.iload_n 1, 1) := by decide +kernel
theorem dX6_seated_43 : decode cX6_seated 43 = .ok (.iload_n 2, 1) := by decide +kernel
theorem dX6_seated_44 : decode cX6_seated 44 = .ok (.invokevirtual 189, 3) := by decide +kernel
theorem dX6_seated_47 : decode cX6_seated 47 = .ok (.istore 5, 2) := by decide +kernel
theorem dX6_seated_49 : decode cX6_seated 49 = .ok (.iload 5, 2) := by decide +kernel
theorem dX6_seated_51 : decode cX6_seated 51 = .ok (.iconst (-1), 1) := by decide +kernel
theorem dX6_seated_52 : decode cX6_seated 52 = .ok (.if_icmp .ne 6, 3) := by decide +kernel
theorem dX6_seated_55 : decode cX6_seated 55 = .ok (.iload 4, 2) := by decide +kernel
theorem dX6_seated_57 : decode cX6_seated 57 = .ok (.ireturn, 1) := by decide +kernel
theorem dX6_seated_58 : decode cX6_seated 58 = .ok (.iload_n 3, 1) := by decide +kernel
theorem dX6_seated_59 : decode cX6_seated 59 = .ok (.ifCond .ne 8, 3) := by decide +kernel
theorem dX6_seated_62 : decode cX6_seated 62 = .ok (.iload 5, 2) := by decide +kernel
theorem dX6_seated_64 : decode cX6_seated 64 = .ok (.goto 10, 3) := by decide +kernel
theorem dX6_seated_67 : decode cX6_seated 67 = .ok (.aload_n 0, 1) := by decide +kernel
theorem dX6_seated_68 : decode cX6_seated 68 = .ok (.iload_n 1, 1) := by decide +kernel
theorem dX6_seated_69 : decode cX6_seated 69 = .ok (.iload 5, 2) := by decide +kernel
theorem dX6_seated_71 : decode cX6_seated 71 = .ok (.invokevirtual 192, 3) := by decide +kernel
theorem dX6_seated_74 : decode cX6_seated 74 = .ok (.ireturn, 1) := by decide +kernel
theorem dX6_begins_0 : decode cX6_begins 0 = .ok (.aload_n 0, 1) := by decide +kernel
theorem dX6_begins_1 : decode cX6_begins 1 = .ok (.getfield 15, 3) := by decide +kernel
theorem dX6_begins_4 : decode cX6_begins 4 = .ok (.getfield 38, 3) := by decide +kernel
theorem dX6_begins_7 : decode cX6_begins 7 = .ok (.getfield 97, 3) := by decide +kernel
theorem dX6_begins_10 : decode cX6_begins 10 = .ok (.ifCond .ne 5, 3) := by decide +kernel
theorem dX6_begins_13 : decode cX6_begins 13 = .ok (.iconst (-1), 1) := by decide +kernel
theorem dX6_begins_14 : decode cX6_begins 14 = .ok (.ireturn, 1) := by decide +kernel
theorem dX6_begins_15 : decode cX6_begins 15 = .ok (.iconst 0, 1) := by decide +kernel
theorem dX6_begins_16 : decode cX6_begins 16 = .ok (.istore_n 1, 1) := by decide +kernel
theorem dX6_begins_17 : decode cX6_begins 17 = .ok (.iload_n 1, 1) := by decide +kernel
theorem dX6_begins_18 : decode cX6_begins 18 = .ok (.iconst 3, 1) := by decide +kernel
theorem dX6_begins_19 : decode cX6_begins 19 = .ok (.if_icmp .gt 22, 3) := by decide +kernel
theorem dX6_begins_22 : decode cX6_begins 22 = .ok (.aload_n 0, 1) := by decide +kernel
theorem dX6_begins_23 : decode cX6_begins 23 = .ok (.iload_n 1, 1) := by decide +kernel
theorem dX6_begins_24 : decode cX6_begins 24 = .ok (.invokevirtual 195, 3) := by decide +kernel
theorem dX6_begins_27 : decode cX6_begins 27 = .ok (.istore_n 2, 1) := by decide +kernel
theorem dX6_begins_28 : decode cX6_begins 28 = .ok (.iload_n 2, 1) := by decide +kernel
theorem dX6_begins_29 : decode cX6_begins 29 = .ok (.iconst (-1), 1) := by decide +kernel
theorem dX6_begins_30 : decode cX6_begins 30 = .ok (.if_icmp .eq 5, 3) := by decide +kernel
theorem dX6_begins_33 : decode cX6_begins 33 = .ok (.iload_n 2, 1) := by decide +kernel
theorem dX6_begins_34 : decode cX6_begins 34 = .ok (.ireturn, 1) := by decide +kernel
theorem dX6_begins_35 : decode cX6_begins 35 = .ok (.iinc 1 1, 3) := by decide +kernel
theorem dX6_begins_38 : decode cX6_begins 38 = .ok (.goto (-21), 3) := by decide +kernel
theorem dX6_begins_41 : decode cX6_begins 41 = .ok (.bipush (-2), 2) := by decide +kernel
theorem dX6_begins_43 : decode cX6_begins 43 = .ok (.ireturn, 1) := by decide +kernel
theorem dX6_silent_0 : decode cX6_silent 0 = .ok (.iload_n 1, 1) := by decide +kernel
theorem dX6_silent_1 : decode cX6_silent 1 = .ok (.iconst 0, 1) := by decide +kernel
theorem dX6_silent_2 : decode cX6_silent 2 = .ok (.iconst 2, 1) := by decide +kernel
theorem dX6_silent_3 : decode cX6_silent 3 = .ok (.invokestatic 93, 3) := by decide +kernel
theorem dX6_silent_6 : decode cX6_silent 6 = .ok (.ifCond .ne 6, 3) := by decide +kernel
theorem dX6_silent_9 : decode cX6_silent 9 = .ok (.ldc 185, 2) := by decide +kernel
theorem dX6_silent_11 : decode cX6_silent 11 = .ok (.ireturn, 1) := by decide +kernel
theorem dX6_silent_12 : decode cX6_silent 12 = .ok (.aload_n 0, 1) := by decide +kernel
theorem dX6_silent_13 : decode cX6_silent 13 = .ok (.iconst 0, 1) := by decide +kernel
theorem dX6_silent_14 : decode cX6_silent 14 = .ok (.invokevirtual 198, 3) := by decide +kernel
theorem dX6_silent_17 : decode cX6_silent 17 = .ok (.iload_n 1, 1) := by decide +kernel
theorem dX6_silent_18 : decode cX6_silent 18 = .ok (.ifCond .ne 11, 3) := by decide +kernel
theorem dX6_silent_21 : decode cX6_silent 21 = .ok (.aload_n 0, 1) := by decide +kernel
theorem dX6_silent_22 : decode cX6_silent 22 = .ok (.getfield 25, 3) := by decide +kernel
theorem dX6_silent_25 : decode cX6_silent 25 = .ok (.getfield 168, 3) := by decide +kernel
theorem dX6_silent_28 : decode cX6_silent 28 = .ok (.ireturn, 1) := by decide +kernel
theorem dX6_silent_29 : decode cX6_silent 29 = .ok (.aload_n 0, 1) := by decide +kernel
theorem dX6_silent_30 : decode cX6_silent 30 = .ok (.getfield 25, 3) := by decide +kernel
theorem dX6_silent_33 : decode cX6_silent 33 = .ok (.invokevirtual 201, 3) := by decide +kernel
theorem dX6_silent_36 : decode cX6_silent 36 = .ok (.istore_n 2, 1) := by decide +kernel
theorem dX6_silent_37 : decode cX6_silent 37 = .ok (.iload_n 1, 1) := by decide +kernel
theorem dX6_silent_38 : decode cX6_silent 38 = .ok (.iconst 1, 1) := by decide +kernel
theorem dX6_silent_39 : decode cX6_silent 39 = .ok (.if_icmp .ne 7, 3) := by decide +kernel
theorem dX6_silent_42 : decode cX6_silent 42 = .ok (.iload_n 2, 1) := by decide +kernel
theorem dX6_silent_43 : decode cX6_silent 43 = .ok (.goto 15, 3) := by decide +kernel
theorem dX6_silent_46 : decode cX6_silent 46 = .ok (.iload_n 2, 1) := by decide +kernel
theorem dX6_silent_47 : decode cX6_silent 47 = .ok (.aload_n 0, 1) := by decide +kernel
theorem dX6_silent_48 : decode cX6_silent 48 = .ok (.getfield 25, 3) := by decide +kernel
theorem dX6_silent_51 : decode cX6_silent 51 = .ok (.getfield 38, 3) := by decide +kernel
theorem dX6_silent_54 : decode cX6_silent 54 = .ok (.getfield 205, 3) := by decide +kernel
theorem dX6_silent_57 : decode cX6_silent 57 = .ok (.iand, 1) := by decide +kernel
theorem dX6_silent_58 : decode cX6_silent 58 = .ok (.invokestatic 177, 3) := by decide +kernel
theorem dX6_silent_61 : decode cX6_silent 61 = .ok (.ireturn, 1) := by decide +kernel
theorem dX6_table_0 : decode cX6_table 0 = .ok (.iload_n 1, 1) := by decide +kernel
theorem dX6_table_1 : decode cX6_table 1 = .ok (.iconst 0, 1) := by decide +kernel
theorem dX6_table_2 : decode cX6_table 2 = .ok (.iconst 1, 1) := by decide +kernel
theorem dX6_table_3 : decode cX6_table 3 = .ok (.invokestatic 93, 3) := by decide +kernel
theorem dX6_table_6 : decode cX6_table 6 = .ok (.ifCond .eq 35, 3) := by decide +kernel
theorem dX6_table_9 : decode cX6_table 9 = .ok (.iload_n 2, 1) := by decide +kernel
theorem dX6_table_10 : decode cX6_table 10 = .ok (.iconst 0, 1) := by decide +kernel
theorem dX6_table_11 : decode cX6_table 11 = .ok (.iconst 4, 1) := by decide +kernel
theorem dX6_table_12 : decode cX6_table 12 = .ok (.invokestatic 93, 3) := by decide +kernel
theorem dX6_table_15 : decode cX6_table 15 = .ok (.ifCond .eq 26, 3) := by decide +kernel
theorem dX6_table_18 : decode cX6_table 18 = .ok (.iload_n 3, 1) := by decide +kernel
theorem dX6_table_19 : decode cX6_table 19 = .ok (.iconst 0, 1) := by decide +kernel
theorem dX6_table_20 : decode cX6_table 20 = .ok (.iconst 4, 1) := by decide +kernel
theorem dX6_table_21 : decode cX6_table 21 = .ok (.invokestatic 93, 3) := by decide +kernel
theorem dX6_table_24 : decode cX6_table 24 = .ok (.ifCond .eq 17, 3) := by decide +kernel
theorem dX6_table_27 : decode cX6_table 27 = .ok (.iload 4, 2) := by decide +kernel
theorem dX6_table_29 : decode cX6_table 29 = .ok (.sipush (-1000), 3) := by decide +kernel
theorem dX6_table_32 : decode cX6_table 32 = .ok (.sipush 1000, 3) := by decide +kernel
theorem dX6_table_35 : decode cX6_table 35 = .ok (.invokestatic 93, 3) := by decide +kernel
theorem dX6_table_38 : decode cX6_table 38 = .ok (.ifCond .ne 5, 3) := by decide +kernel
theorem dX6_table_41 : decode cX6_table 41 = .ok (.iconst 0, 1) := by decide +kernel
theorem dX6_table_42 : decode cX6_table 42 = .ok (.ireturn, 1) := by decide +kernel
theorem dX6_table_43 : decode cX6_table 43 = .ok (.iload_n 1, 1) := by decide +kernel
theorem dX6_table_44 : decode cX6_table 44 = .ok (.ifCond .ne 10, 3) := by decide +kernel
theorem dX6_table_47 : decode cX6_table 47 = .ok (.aload_n 0, 1) := by decide +kernel
theorem dX6_table_48 : decode cX6_table 48 = .ok (.getfield 87, 3) := by decide +kernel
theorem dX6_table_51 : decode cX6_table 51 = .ok (.goto 7, 3) := by decide +kernel
theorem dX6_table_54 : decode cX6_table 54 = .ok (.aload_n 0, 1) := by decide +kernel
theorem dX6_table_55 : decode cX6_table 55 = .ok (.getfield 90, 3) := by decide +kernel
theorem dX6_table_58 : decode cX6_table 58 = .ok (.astore 5, 2) := by decide +kernel
theorem dX6_table_60 : decode cX6_table 60 = .ok (.aload 5, 2) := by decide +kernel
theorem dX6_table_62 : decode cX6_table 62 = .ok (.iconst 5, 1) := by decide +kernel
theorem dX6_table_63 : decode cX6_table 63 = .ok (.iload_n 2, 1) := by decide +kernel
theorem dX6_table_64 : decode cX6_table 64 = .ok (.imul, 1) := by decide +kernel
theorem dX6_table_65 : decode cX6_table 65 = .ok (.iload_n 3, 1) := by decide +kernel
theorem dX6_table_66 : decode cX6_table 66 = .ok (.iadd, 1) := by decide +kernel
theorem dX6_table_67 : decode cX6_table 67 = .ok (.iload 4, 2) := by decide +kernel
theorem dX6_table_69 : decode cX6_table 69 = .ok (.iastore, 1) := by decide +kernel
theorem dX6_table_70 : decode cX6_table 70 = .ok (.iconst 1, 1) := by decide +kernel
theorem dX6_table_71 : decode cX6_table 71 = .ok (.ireturn, 1) := by decide +kernel
theorem dX6_rests_0 : decode cX6_rests 0 = .ok (.iload_n 1, 1) := by decide +kernel
theorem dX6_rests_1 : decode cX6_rests 1 = .ok (.iconst 2, 1) := by decide +kernel
theorem dX6_rests_2 : decode cX6_rests 2 = .ok (.iconst 5, 1) := by decide +kernel
theorem dX6_rests_3 : decode cX6_rests 3 = .ok (.invokestatic 93, 3) := by decide +kernel
theorem dX6_rests_6 : decode cX6_rests 6 = .ok (.ifCond .eq 8, 3) := by decide +kernel
theorem dX6_rests_9 : decode cX6_rests 9 = .ok (.iload_n 2, 1) := by decide +kernel
theorem dX6_rests_10 : decode cX6_rests 10 = .ok (.iconst (-1), 1) := by decide +kernel
theorem dX6_rests_11 : decode cX6_rests 11 = .ok (.if_icmp .ge 5, 3) := by decide +kernel
theorem dX6_rests_14 : decode cX6_rests 14 = .ok (.iconst (-1), 1) := by decide +kernel
theorem dX6_rests_15 : decode cX6_rests 15 = .ok (.ireturn, 1) := by decide +kernel
theorem dX6_rests_16 : decode cX6_rests 16 = .ok (.iconst 0, 1) := by decide +kernel
theorem dX6_rests_17 : decode cX6_rests 17 = .ok (.istore_n 3, 1) := by decide +kernel
theorem dX6_rests_18 : decode cX6_rests 18 = .ok (.iconst 0, 1) := by decide +kernel
theorem dX6_rests_19 : decode cX6_rests 19 = .ok (.istore 4, 2) := by decide +kernel
theorem dX6_rests_21 : decode cX6_rests 21 = .ok (.iload 4, 2) := by decide +kernel
theorem dX6_rests_23 : decode cX6_rests 23 = .ok (.iload_n 1, 1) := by decide +kernel
theorem dX6_rests_24 : decode cX6_rests 24 = .ok (.if_icmp .ge 55, 3) := by decide +kernel
theorem dX6_rests_27 : decode cX6_rests 27 = .ok (.iconst 0, 1) := by decide +kernel
theorem dX6_rests_28 : decode cX6_rests 28 = .ok (.istore 5, 2) := by decide +kernel
theorem dX6_rests_30 : decode cX6_rests 30 = .ok (.iload 5, 2) := by decide +kernel
theorem dX6_rests_32 : decode cX6_rests 32 = .ok (.iload_n 1, 1) := by decide +kernel
theorem dX6_rests_33 : decode cX6_rests 33 = .ok (.if_icmp .ge 40, 3) := by decide +kernel
theorem dX6_rests_36 : decode cX6_rests 36 = .ok (.aload_n 0, 1) := by decide +kernel
theorem dX6_rests_37 : decode cX6_rests 37 = .ok (.iload 4, 2) := by decide +kernel
theorem dX6_rests_39 : decode cX6_rests 39 = .ok (.iload 5, 2) := by decide +kernel
theorem dX6_rests_41 : decode cX6_rests 41 = .ok (.iload_n 1, 1) := by decide +kernel
theorem dX6_rests_42 : decode cX6_rests 42 = .ok (.invokevirtual 208, 3) := by decide +kernel
theorem dX6_rests_45 : decode cX6_rests 45 = .ok (.ifCond .ne 6, 3) := by decide +kernel
theorem dX6_rests_48 : decode cX6_rests 48 = .ok (.goto 19, 3) := by decide +kernel
theorem dX6_rests_51 : decode cX6_rests 51 = .ok (.iload_n 3, 1) := by decide +kernel
theorem dX6_rests_52 : decode cX6_rests 52 = .ok (.iload_n 2, 1) := by decide +kernel
theorem dX6_rests_53 : decode cX6_rests 53 = .ok (.if_icmp .ne 11, 3) := by decide +kernel
theorem dX6_rests_56 : decode cX6_rests 56 = .ok (.iconst 5, 1) := by decide +kernel
theorem dX6_rests_57 : decode cX6_rests 57 = .ok (.iload 4, 2) := by decide +kernel
theorem dX6_rests_59 : decode cX6_rests 59 = .ok (.imul, 1) := by decide +kernel
theorem dX6_rests_60 : decode cX6_rests 60 = .ok (.iload 5, 2) := by decide +kernel
theorem dX6_rests_62 : decode cX6_rests 62 = .ok (.iadd, 1) := by decide +kernel
theorem dX6_rests_63 : decode cX6_rests 63 = .ok (.ireturn, 1) := by decide +kernel
theorem dX6_rests_64 : decode cX6_rests 64 = .ok (.iinc 3 1, 3) := by decide +kernel
theorem dX6_rests_67 : decode cX6_rests 67 = .ok (.iinc 5 1, 3) := by decide +kernel
theorem dX6_rests_70 : decode cX6_rests 70 = .ok (.goto (-40), 3) := by decide +kernel
theorem dX6_rests_73 : decode cX6_rests 73 = .ok (.iinc 4 1, 3) := by decide +kernel
theorem dX6_rests_76 : decode cX6_rests 76 = .ok (.goto (-55), 3) := by decide +kernel
theorem dX6_rests_79 : decode cX6_rests 79 = .ok (.iload_n 2, 1) := by decide +kernel
theorem dX6_rests_80 : decode cX6_rests 80 = .ok (.iconst (-1), 1) := by decide +kernel
theorem dX6_rests_81 : decode cX6_rests 81 = .ok (.if_icmp .ne 7, 3) := by decide +kernel
theorem dX6_rests_84 : decode cX6_rests 84 = .ok (.iload_n 3, 1) := by decide +kernel
theorem dX6_rests_85 : decode cX6_rests 85 = .ok (.goto 4, 3) := by decide +kernel
theorem dX6_rests_88 : decode cX6_rests 88 = .ok (.iconst (-1), 1) := by decide +kernel
theorem dX6_rests_89 : decode cX6_rests 89 = .ok (.ireturn, 1) := by decide +kernel
theorem dX6_keep_0 : decode cX6_keep 0 = .ok (.aload_n 0, 1) := by decide +kernel
theorem dX6_keep_1 : decode cX6_keep 1 = .ok (.getfield 211, 3) := by decide +kernel
theorem dX6_keep_4 : decode cX6_keep 4 = .ok (.ifCond .lt 15, 3) := by decide +kernel
theorem dX6_keep_7 : decode cX6_keep 7 = .ok (.aload_n 0, 1) := by decide +kernel
theorem dX6_keep_8 : decode cX6_keep 8 = .ok (.getfield 211, 3) := by decide +kernel
theorem dX6_keep_11 : decode cX6_keep 11 = .ok (.aload_n 0, 1) := by decide +kernel
theorem dX6_keep_12 : decode cX6_keep 12 = .ok (.getfield 32, 3) := by decide +kernel
theorem dX6_keep_15 : decode cX6_keep 15 = .ok (.arraylength, 1) := by decide +kernel
theorem dX6_keep_16 : decode cX6_keep 16 = .ok (.if_icmp .lt 5, 3) := by decide +kernel
theorem dX6_keep_19 : decode cX6_keep 19 = .ok (.iconst (-1), 1) := by decide +kernel
theorem dX6_keep_20 : decode cX6_keep 20 = .ok (.ireturn, 1) := by decide +kernel
theorem dX6_keep_21 : decode cX6_keep 21 = .ok (.aload_n 0, 1) := by decide +kernel
theorem dX6_keep_22 : decode cX6_keep 22 = .ok (.getfield 32, 3) := by decide +kernel
theorem dX6_keep_25 : decode cX6_keep 25 = .ok (.aload_n 0, 1) := by decide +kernel
theorem dX6_keep_26 : decode cX6_keep 26 = .ok (.getfield 211, 3) := by decide +kernel
theorem dX6_keep_29 : decode cX6_keep 29 = .ok (.aaload, 1) := by decide +kernel
theorem dX6_keep_30 : decode cX6_keep 30 = .ok (.aload_n 0, 1) := by decide +kernel
theorem dX6_keep_31 : decode cX6_keep 31 = .ok (.invokevirtual 153, 3) := by decide +kernel
theorem dX6_keep_34 : decode cX6_keep 34 = .ok (.invokevirtual 214, 3) := by decide +kernel
theorem dX6_keep_37 : decode cX6_keep 37 = .ok (.aload_n 0, 1) := by decide +kernel
theorem dX6_keep_38 : decode cX6_keep 38 = .ok (.dup, 1) := by decide +kernel
theorem dX6_keep_39 : decode cX6_keep 39 = .ok (.getfield 211, 3) := by decide +kernel
theorem dX6_keep_42 : decode cX6_keep 42 = .ok (.iconst 1, 1) := by decide +kernel
theorem dX6_keep_43 : decode cX6_keep 43 = .ok (.iadd, 1) := by decide +kernel
theorem dX6_keep_44 : decode cX6_keep 44 = .ok (.putfield 211, 3) := by decide +kernel
theorem dX6_keep_47 : decode cX6_keep 47 = .ok (.aload_n 0, 1) := by decide +kernel
theorem dX6_keep_48 : decode cX6_keep 48 = .ok (.getfield 211, 3) := by decide +kernel
theorem dX6_keep_51 : decode cX6_keep 51 = .ok (.ireturn, 1) := by decide +kernel
theorem dX6_hears_0 : decode cX6_hears 0 = .ok (.iload_n 1, 1) := by decide +kernel
theorem dX6_hears_1 : decode cX6_hears 1 = .ok (.iconst 0, 1) := by decide +kernel
theorem dX6_hears_2 : decode cX6_hears 2 = .ok (.iconst 1, 1) := by decide +kernel
theorem dX6_hears_3 : decode cX6_hears 3 = .ok (.invokestatic 93, 3) := by decide +kernel
theorem dX6_hears_6 : decode cX6_hears 6 = .ok (.ifCond .ne 5, 3) := by decide +kernel
theorem dX6_hears_9 : decode cX6_hears 9 = .ok (.iconst (-1), 1) := by decide +kernel
theorem dX6_hears_10 : decode cX6_hears 10 = .ok (.ireturn, 1) := by decide +kernel
theorem dX6_hears_11 : decode cX6_hears 11 = .ok (.iload_n 1, 1) := by decide +kernel
theorem dX6_hears_12 : decode cX6_hears 12 = .ok (.ifCond .ne 7, 3) := by decide +kernel
theorem dX6_hears_15 : decode cX6_hears 15 = .ok (.iconst 1, 1) := by decide +kernel
theorem dX6_hears_16 : decode cX6_hears 16 = .ok (.goto 4, 3) := by decide +kernel
theorem dX6_hears_19 : decode cX6_hears 19 = .ok (.iconst (-1), 1) := by decide +kernel
theorem dX6_hears_20 : decode cX6_hears 20 = .ok (.istore_n 2, 1) := by decide +kernel
theorem dX6_hears_21 : decode cX6_hears 21 = .ok (.iconst 0, 1) := by decide +kernel
theorem dX6_hears_22 : decode cX6_hears 22 = .ok (.istore_n 3, 1) := by decide +kernel
theorem dX6_hears_23 : decode cX6_hears 23 = .ok (.iconst 0, 1) := by decide +kernel
theorem dX6_hears_24 : decode cX6_hears 24 = .ok (.istore 4, 2) := by decide +kernel
theorem dX6_hears_26 : decode cX6_hears 26 = .ok (.iload 4, 2) := by decide +kernel
theorem dX6_hears_28 : decode cX6_hears 28 = .ok (.aload_n 0, 1) := by decide +kernel
theorem dX6_hears_29 : decode cX6_hears 29 = .ok (.getfield 211, 3) := by decide +kernel
theorem dX6_hears_32 : decode cX6_hears 32 = .ok (.if_icmp .ge 59, 3) := by decide +kernel
theorem dX6_hears_35 : decode cX6_hears 35 = .ok (.iload 4, 2) := by decide +kernel
theorem dX6_hears_37 : decode cX6_hears 37 = .ok (.aload_n 0, 1) := by decide +kernel
theorem dX6_hears_38 : decode cX6_hears 38 = .ok (.getfield 32, 3) := by decide +kernel
theorem dX6_hears_41 : decode cX6_hears 41 = .ok (.arraylength, 1) := by decide +kernel
theorem dX6_hears_42 : decode cX6_hears 42 = .ok (.if_icmp .ge 49, 3) := by decide +kernel
theorem dX6_hears_45 : decode cX6_hears 45 = .ok (.iconst 0, 1) := by decide +kernel
theorem dX6_hears_46 : decode cX6_hears 46 = .ok (.istore 5, 2) := by decide +kernel
theorem dX6_hears_48 : decode cX6_hears 48 = .ok (.iload 5, 2) := by decide +kernel
theorem dX6_hears_50 : decode cX6_hears 50 = .ok (.iload 4, 2) := by decide +kernel
theorem dX6_hears_52 : decode cX6_hears 52 = .ok (.if_icmp .ge 33, 3) := by decide +kernel
theorem dX6_hears_55 : decode cX6_hears 55 = .ok (.aload_n 0, 1) := by decide +kernel
theorem dX6_hears_56 : decode cX6_hears 56 = .ok (.getfield 32, 3) := by decide +kernel
theorem dX6_hears_59 : decode cX6_hears 59 = .ok (.iload 4, 2) := by decide +kernel
theorem dX6_hears_61 : decode cX6_hears 61 = .ok (.aaload, 1) := by decide +kernel
theorem dX6_hears_62 : decode cX6_hears 62 = .ok (.aload_n 0, 1) := by decide +kernel
theorem dX6_hears_63 : decode cX6_hears 63 = .ok (.getfield 32, 3) := by decide +kernel
theorem dX6_hears_66 : decode cX6_hears 66 = .ok (.iload 5, 2) := by decide +kernel
theorem dX6_hears_68 : decode cX6_hears 68 = .ok (.aaload, 1) := by decide +kernel
theorem dX6_hears_69 : decode cX6_hears 69 = .ok (.invokestatic 218, 3) := by decide +kernel
theorem dX6_hears_72 : decode cX6_hears 72 = .ok (.iload_n 2, 1) := by decide +kernel
theorem dX6_hears_73 : decode cX6_hears 73 = .ok (.if_icmp .ne 6, 3) := by decide +kernel
theorem dX6_hears_76 : decode cX6_hears 76 = .ok (.iinc 3 1, 3) := by decide +kernel
theorem dX6_hears_79 : decode cX6_hears 79 = .ok (.iinc 5 1, 3) := by decide +kernel
theorem dX6_hears_82 : decode cX6_hears 82 = .ok (.goto (-34), 3) := by decide +kernel
theorem dX6_hears_85 : decode cX6_hears 85 = .ok (.iinc 4 1, 3) := by decide +kernel
theorem dX6_hears_88 : decode cX6_hears 88 = .ok (.goto (-62), 3) := by decide +kernel
theorem dX6_hears_91 : decode cX6_hears 91 = .ok (.iload_n 3, 1) := by decide +kernel
theorem dX6_hears_92 : decode cX6_hears 92 = .ok (.ireturn, 1) := by decide +kernel
theorem dX6_otherwise_0 : decode cX6_otherwise 0 = .ok (.iload_n 1, 1) := by decide +kernel
theorem dX6_otherwise_1 : decode cX6_otherwise 1 = .ok (.invokestatic 105, 3) := by decide +kernel
theorem dX6_otherwise_4 : decode cX6_otherwise 4 = .ok (.ifCond .eq 25, 3) := by decide +kernel
theorem dX6_otherwise_7 : decode cX6_otherwise 7 = .ok (.aload_n 0, 1) := by decide +kernel
theorem dX6_otherwise_8 : decode cX6_otherwise 8 = .ok (.getfield 15, 3) := by decide +kernel
theorem dX6_otherwise_11 : decode cX6_otherwise 11 = .ok (.getfield 38, 3) := by decide +kernel
theorem dX6_otherwise_14 : decode cX6_otherwise 14 = .ok (.iload_n 1, 1) := by decide +kernel
theorem dX6_otherwise_15 : decode cX6_otherwise 15 = .ok (.invokevirtual 117, 3) := by decide +kernel
theorem dX6_otherwise_18 : decode cX6_otherwise 18 = .ok (.ifCond .eq 11, 3) := by decide +kernel
theorem dX6_otherwise_21 : decode cX6_otherwise 21 = .ok (.aload_n 0, 1) := by decide +kernel
theorem dX6_otherwise_22 : decode cX6_otherwise 22 = .ok (.iload_n 1, 1) := by decide +kernel
theorem dX6_otherwise_23 : decode cX6_otherwise 23 = .ok (.invokevirtual 222, 3) := by decide +kernel
theorem dX6_otherwise_26 : decode cX6_otherwise 26 = .ok (.goto 4, 3) := by decide +kernel
theorem dX6_otherwise_29 : decode cX6_otherwise 29 = .ok (.iconst (-1), 1) := by decide +kernel
theorem dX6_otherwise_30 : decode cX6_otherwise 30 = .ok (.ireturn, 1) := by decide +kernel
theorem dX6_suspects_0 : decode cX6_suspects 0 = .ok (.iload_n 1, 1) := by decide +kernel
theorem dX6_suspects_1 : decode cX6_suspects 1 = .ok (.iconst 1, 1) := by decide +kernel
theorem dX6_suspects_2 : decode cX6_suspects 2 = .ok (.sipush 800, 3) := by decide +kernel
theorem dX6_suspects_5 : decode cX6_suspects 5 = .ok (.invokestatic 93, 3) := by decide +kernel
theorem dX6_suspects_8 : decode cX6_suspects 8 = .ok (.ifCond .ne 5, 3) := by decide +kernel
theorem dX6_suspects_11 : decode cX6_suspects 11 = .ok (.iconst (-1), 1) := by decide +kernel
theorem dX6_suspects_12 : decode cX6_suspects 12 = .ok (.ireturn, 1) := by decide +kernel
theorem dX6_suspects_13 : decode cX6_suspects 13 = .ok (.iconst 0, 1) := by decide +kernel
theorem dX6_suspects_14 : decode cX6_suspects 14 = .ok (.istore_n 2, 1) := by decide +kernel
theorem dX6_suspects_15 : decode cX6_suspects 15 = .ok (.iconst 0, 1) := by decide +kernel
theorem dX6_suspects_16 : decode cX6_suspects 16 = .ok (.istore_n 3, 1) := by decide +kernel
theorem dX6_suspects_17 : decode cX6_suspects 17 = .ok (.iload_n 3, 1) := by decide +kernel
theorem dX6_suspects_18 : decode cX6_suspects 18 = .ok (.bipush 24, 2) := by decide +kernel
theorem dX6_suspects_20 : decode cX6_suspects 20 = .ok (.if_icmp .ge 38, 3) := by decide +kernel
theorem dX6_suspects_23 : decode cX6_suspects 23 = .ok (.aload_n 0, 1) := by decide +kernel
theorem dX6_suspects_24 : decode cX6_suspects 24 = .ok (.getfield 15, 3) := by decide +kernel
theorem dX6_suspects_27 : decode cX6_suspects 27 = .ok (.getfield 38, 3) := by decide +kernel
theorem dX6_suspects_30 : decode cX6_suspects 30 = .ok (.iload_n 3, 1) := by decide +kernel
theorem dX6_suspects_31 : decode cX6_suspects 31 = .ok (.invokevirtual 117, 3) := by decide +kernel
theorem dX6_suspects_34 : decode cX6_suspects 34 = .ok (.ifCond .eq 18, 3) := by decide +kernel
theorem dX6_suspects_37 : decode cX6_suspects 37 = .ok (.aload_n 0, 1) := by decide +kernel
theorem dX6_suspects_38 : decode cX6_suspects 38 = .ok (.iload_n 3, 1) := by decide +kernel
theorem dX6_suspects_39 : decode cX6_suspects 39 = .ok (.invokevirtual 222, 3) := by decide +kernel
theorem dX6_suspects_42 : decode cX6_suspects 42 = .ok (.iload_n 1, 1) := by decide +kernel
theorem dX6_suspects_43 : decode cX6_suspects 43 = .ok (.if_icmp .lt 9, 3) := by decide +kernel
theorem dX6_suspects_46 : decode cX6_suspects 46 = .ok (.iload_n 2, 1) := by decide +kernel
theorem dX6_suspects_47 : decode cX6_suspects 47 = .ok (.iconst 1, 1) := by decide +kernel
theorem dX6_suspects_48 : decode cX6_suspects 48 = .ok (.iload_n 3, 1) := by decide +kernel
theorem dX6_suspects_49 : decode cX6_suspects 49 = .ok (.ishl, 1) := by decide +kernel
theorem dX6_suspects_50 : decode cX6_suspects 50 = .ok (.ior, 1) := by decide +kernel
theorem dX6_suspects_51 : decode cX6_suspects 51 = .ok (.istore_n 2, 1) := by decide +kernel
theorem dX6_suspects_52 : decode cX6_suspects 52 = .ok (.iinc 3 1, 3) := by decide +kernel
theorem dX6_suspects_55 : decode cX6_suspects 55 = .ok (.goto (-38), 3) := by decide +kernel
theorem dX6_suspects_58 : decode cX6_suspects 58 = .ok (.iload_n 2, 1) := by decide +kernel
theorem dX6_suspects_59 : decode cX6_suspects 59 = .ok (.ireturn, 1) := by decide +kernel
theorem dX6_funnier_0 : decode cX6_funnier 0 = .ok (.iload_n 1, 1) := by decide +kernel
theorem dX6_funnier_1 : decode cX6_funnier 1 = .ok (.iconst 1, 1) := by decide +kernel
theorem dX6_funnier_2 : decode cX6_funnier 2 = .ok (.bipush 20, 2) := by decide +kernel
theorem dX6_funnier_4 : decode cX6_funnier 4 = .ok (.invokestatic 93, 3) := by decide +kernel
theorem dX6_funnier_7 : decode cX6_funnier 7 = .ok (.ifCond .eq 43, 3) := by decide +kernel
theorem dX6_funnier_10 : decode cX6_funnier 10 = .ok (.iload_n 2, 1) := by decide +kernel
theorem dX6_funnier_11 : decode cX6_funnier 11 = .ok (.iconst 0, 1) := by decide +kernel
theorem dX6_funnier_12 : decode cX6_funnier 12 = .ok (.iload_n 1, 1) := by decide +kernel
theorem dX6_funnier_13 : decode cX6_funnier 13 = .ok (.invokestatic 93, 3) := by decide +kernel
theorem dX6_funnier_16 : decode cX6_funnier 16 = .ok (.ifCond .eq 34, 3) := by decide +kernel
theorem dX6_funnier_19 : decode cX6_funnier 19 = .ok (.iload_n 3, 1) := by decide +kernel
theorem dX6_funnier_20 : decode cX6_funnier 20 = .ok (.iconst 0, 1) := by decide +kernel
theorem dX6_funnier_21 : decode cX6_funnier 21 = .ok (.iload_n 2, 1) := by decide +kernel
theorem dX6_funnier_22 : decode cX6_funnier 22 = .ok (.invokestatic 93, 3) := by decide +kernel
theorem dX6_funnier_25 : decode cX6_funnier 25 = .ok (.ifCond .eq 25, 3) := by decide +kernel
theorem dX6_funnier_28 : decode cX6_funnier 28 = .ok (.iload 4, 2) := by decide +kernel
theorem dX6_funnier_30 : decode cX6_funnier 30 = .ok (.iconst 0, 1) := by decide +kernel
theorem dX6_funnier_31 : decode cX6_funnier 31 = .ok (.iload_n 1, 1) := by decide +kernel
theorem dX6_funnier_32 : decode cX6_funnier 32 = .ok (.iload_n 2, 1) := by decide +kernel
theorem dX6_funnier_33 : decode cX6_funnier 33 = .ok (.isub, 1) := by decide +kernel
theorem dX6_funnier_34 : decode cX6_funnier 34 = .ok (.invokestatic 93, 3) := by decide +kernel
theorem dX6_funnier_37 : decode cX6_funnier 37 = .ok (.ifCond .eq 13, 3) := by decide +kernel
theorem dX6_funnier_40 : decode cX6_funnier 40 = .ok (.iload 5, 2) := by decide +kernel
theorem dX6_funnier_42 : decode cX6_funnier 42 = .ok (.iconst 0, 1) := by decide +kernel
theorem dX6_funnier_43 : decode cX6_funnier 43 = .ok (.iconst 1, 1) := by decide +kernel
theorem dX6_funnier_44 : decode cX6_funnier 44 = .ok (.invokestatic 93, 3) := by decide +kernel
theorem dX6_funnier_47 : decode cX6_funnier 47 = .ok (.ifCond .ne 7, 3) := by decide +kernel
theorem dX6_funnier_50 : decode cX6_funnier 50 = .ok (.ldc2_w 225, 3) := by decide +kernel
theorem dX6_funnier_53 : decode cX6_funnier 53 = .ok (.lreturn, 1) := by decide +kernel
theorem dX6_funnier_54 : decode cX6_funnier 54 = .ok (.iload_n 3, 1) := by decide +kernel
theorem dX6_funnier_55 : decode cX6_funnier 55 = .ok (.iload 4, 2) := by decide +kernel
theorem dX6_funnier_57 : decode cX6_funnier 57 = .ok (.iadd, 1) := by decide +kernel
theorem dX6_funnier_58 : decode cX6_funnier 58 = .ok (.istore 6, 2) := by decide +kernel
theorem dX6_funnier_60 : decode cX6_funnier 60 = .ok (.lconst 0, 1) := by decide +kernel
theorem dX6_funnier_61 : decode cX6_funnier 61 = .ok (.lstore 7, 2) := by decide +kernel
theorem dX6_funnier_63 : decode cX6_funnier 63 = .ok (.iload_n 3, 1) := by decide +kernel
theorem dX6_funnier_64 : decode cX6_funnier 64 = .ok (.istore 9, 2) := by decide +kernel
theorem dX6_funnier_66 : decode cX6_funnier 66 = .ok (.iload 9, 2) := by decide +kernel
theorem dX6_funnier_68 : decode cX6_funnier 68 = .ok (.iload_n 2, 1) := by decide +kernel
theorem dX6_funnier_69 : decode cX6_funnier 69 = .ok (.if_icmp .gt 33, 3) := by decide +kernel
theorem dX6_funnier_72 : decode cX6_funnier 72 = .ok (.lload 7, 2) := by decide +kernel
theorem dX6_funnier_74 : decode cX6_funnier 74 = .ok (.iload 6, 2) := by decide +kernel
theorem dX6_funnier_76 : decode cX6_funnier 76 = .ok (.iload 9, 2) := by decide +kernel
theorem dX6_funnier_78 : decode cX6_funnier 78 = .ok (.invokestatic 227, 3) := by decide +kernel
theorem dX6_funnier_81 : decode cX6_funnier 81 = .ok (.iload_n 1, 1) := by decide +kernel
theorem dX6_funnier_82 : decode cX6_funnier 82 = .ok (.iload 6, 2) := by decide +kernel
theorem dX6_funnier_84 : decode cX6_funnier 84 = .ok (.isub, 1) := by decide +kernel
theorem dX6_funnier_85 : decode cX6_funnier 85 = .ok (.iload_n 2, 1) := by decide +kernel
theorem dX6_funnier_86 : decode cX6_funnier 86 = .ok (.iload 9, 2) := by decide +kernel
theorem dX6_funnier_88 : decode cX6_funnier 88 = .ok (.isub, 1) := by decide +kernel
theorem dX6_funnier_89 : decode cX6_funnier 89 = .ok (.invokestatic 227, 3) := by decide +kernel
theorem dX6_funnier_92 : decode cX6_funnier 92 = .ok (.lmul, 1) := by decide +kernel
theorem dX6_funnier_93 : decode cX6_funnier 93 = .ok (.ladd, 1) := by decide +kernel
theorem dX6_funnier_94 : decode cX6_funnier 94 = .ok (.lstore 7, 2) := by decide +kernel
theorem dX6_funnier_96 : decode cX6_funnier 96 = .ok (.iinc 9 1, 3) := by decide +kernel
theorem dX6_funnier_99 : decode cX6_funnier 99 = .ok (.goto (-33), 3) := by decide +kernel
theorem dX6_funnier_102 : decode cX6_funnier 102 = .ok (.iload_n 1, 1) := by decide +kernel
theorem dX6_funnier_103 : decode cX6_funnier 103 = .ok (.iload_n 2, 1) := by decide +kernel
theorem dX6_funnier_104 : decode cX6_funnier 104 = .ok (.invokestatic 227, 3) := by decide +kernel
theorem dX6_funnier_107 : decode cX6_funnier 107 = .ok (.lstore 9, 2) := by decide +kernel
theorem dX6_funnier_109 : decode cX6_funnier 109 = .ok (.lload 7, 2) := by decide +kernel
theorem dX6_funnier_111 : decode cX6_funnier 111 = .ok (.lload 9, 2) := by decide +kernel
theorem dX6_funnier_113 : decode cX6_funnier 113 = .ok (.invokestatic 231, 3) := by decide +kernel
theorem dX6_funnier_116 : decode cX6_funnier 116 = .ok (.lstore 11, 2) := by decide +kernel
theorem dX6_funnier_118 : decode cX6_funnier 118 = .ok (.iload 5, 2) := by decide +kernel
theorem dX6_funnier_120 : decode cX6_funnier 120 = .ok (.ifCond .ne 8, 3) := by decide +kernel
theorem dX6_funnier_123 : decode cX6_funnier 123 = .ok (.lload 7, 2) := by decide +kernel
theorem dX6_funnier_125 : decode cX6_funnier 125 = .ok (.goto 5, 3) := by decide +kernel
theorem dX6_funnier_128 : decode cX6_funnier 128 = .ok (.lload 9, 2) := by decide +kernel
theorem dX6_funnier_130 : decode cX6_funnier 130 = .ok (.lstore 13, 2) := by decide +kernel
theorem dX6_funnier_132 : decode cX6_funnier 132 = .ok (.lload 11, 2) := by decide +kernel
theorem dX6_funnier_134 : decode cX6_funnier 134 = .ok (.lconst 0, 1) := by decide +kernel
theorem dX6_funnier_135 : decode cX6_funnier 135 = .ok (.lcmp, 1) := by decide +kernel
theorem dX6_funnier_136 : decode cX6_funnier 136 = .ok (.ifCond .ne 8, 3) := by decide +kernel
theorem dX6_funnier_139 : decode cX6_funnier 139 = .ok (.lload 13, 2) := by decide +kernel
theorem dX6_funnier_141 : decode cX6_funnier 141 = .ok (.goto 8, 3) := by decide +kernel
theorem dX6_funnier_144 : decode cX6_funnier 144 = .ok (.lload 13, 2) := by decide +kernel
theorem dX6_funnier_146 : decode cX6_funnier 146 = .ok (.lload 11, 2) := by decide +kernel
theorem dX6_funnier_148 : decode cX6_funnier 148 = .ok (.ldiv, 1) := by decide +kernel
theorem dX6_funnier_149 : decode cX6_funnier 149 = .ok (.lreturn, 1) := by decide +kernel
theorem dX6_years_0 : decode cX6_years 0 = .ok (.iload_n 1, 1) := by decide +kernel
theorem dX6_years_1 : decode cX6_years 1 = .ok (.iconst 0, 1) := by decide +kernel
theorem dX6_years_2 : decode cX6_years 2 = .ok (.sipush 10000, 3) := by decide +kernel
theorem dX6_years_5 : decode cX6_years 5 = .ok (.invokestatic 93, 3) := by decide +kernel
theorem dX6_years_8 : decode cX6_years 8 = .ok (.ifCond .eq 36, 3) := by decide +kernel
theorem dX6_years_11 : decode cX6_years 11 = .ok (.iload_n 2, 1) := by decide +kernel
theorem dX6_years_12 : decode cX6_years 12 = .ok (.iconst 0, 1) := by decide +kernel
theorem dX6_years_13 : decode cX6_years 13 = .ok (.sipush 10000, 3) := by decide +kernel
theorem dX6_years_16 : decode cX6_years 16 = .ok (.invokestatic 93, 3) := by decide +kernel
theorem dX6_years_19 : decode cX6_years 19 = .ok (.ifCond .eq 25, 3) := by decide +kernel
theorem dX6_years_22 : decode cX6_years 22 = .ok (.iload_n 3, 1) := by decide +kernel
theorem dX6_years_23 : decode cX6_years 23 = .ok (.iconst 1, 1) := by decide +kernel
theorem dX6_years_24 : decode cX6_years 24 = .ok (.bipush 50, 2) := by decide +kernel
theorem dX6_years_26 : decode cX6_years 26 = .ok (.invokestatic 93, 3) := by decide +kernel
theorem dX6_years_29 : decode cX6_years 29 = .ok (.ifCond .eq 15, 3) := by decide +kernel
theorem dX6_years_32 : decode cX6_years 32 = .ok (.iload 4, 2) := by decide +kernel
theorem dX6_years_34 : decode cX6_years 34 = .ok (.iconst 0, 1) := by decide +kernel
theorem dX6_years_35 : decode cX6_years 35 = .ok (.sipush 1000, 3) := by decide +kernel
theorem dX6_years_38 : decode cX6_years 38 = .ok (.invokestatic 93, 3) := by decide +kernel
theorem dX6_years_41 : decode cX6_years 41 = .ok (.ifCond .ne 5, 3) := by decide +kernel
theorem dX6_years_44 : decode cX6_years 44 = .ok (.iconst (-1), 1) := by decide +kernel
theorem dX6_years_45 : decode cX6_years 45 = .ok (.ireturn, 1) := by decide +kernel
theorem dX6_years_46 : decode cX6_years 46 = .ok (.aload_n 0, 1) := by decide +kernel
theorem dX6_years_47 : decode cX6_years 47 = .ok (.iconst 1, 1) := by decide +kernel
theorem dX6_years_48 : decode cX6_years 48 = .ok (.invokevirtual 182, 3) := by decide +kernel
theorem dX6_years_51 : decode cX6_years 51 = .ok (.istore 5, 2) := by decide +kernel
theorem dX6_years_53 : decode cX6_years 53 = .ok (.aload_n 0, 1) := by decide +kernel
theorem dX6_years_54 : decode cX6_years 54 = .ok (.iconst 2, 1) := by decide +kernel
theorem dX6_years_55 : decode cX6_years 55 = .ok (.invokevirtual 182, 3) := by decide +kernel
theorem dX6_years_58 : decode cX6_years 58 = .ok (.istore 6, 2) := by decide +kernel
theorem dX6_years_60 : decode cX6_years 60 = .ok (.iload_n 1, 1) := by decide +kernel
theorem dX6_years_61 : decode cX6_years 61 = .ok (.istore 7, 2) := by decide +kernel
theorem dX6_years_63 : decode cX6_years 63 = .ok (.iload_n 2, 1) := by decide +kernel
theorem dX6_years_64 : decode cX6_years 64 = .ok (.istore 8, 2) := by decide +kernel
theorem dX6_years_66 : decode cX6_years 66 = .ok (.iconst 0, 1) := by decide +kernel
theorem dX6_years_67 : decode cX6_years 67 = .ok (.istore 9, 2) := by decide +kernel
theorem dX6_years_69 : decode cX6_years 69 = .ok (.iload 9, 2) := by decide +kernel
theorem dX6_years_71 : decode cX6_years 71 = .ok (.iload_n 3, 1) := by decide +kernel
theorem dX6_years_72 : decode cX6_years 72 = .ok (.if_icmp .ge 61, 3) := by decide +kernel
theorem dX6_years_75 : decode cX6_years 75 = .ok (.iload 5, 2) := by decide +kernel
theorem dX6_years_77 : decode cX6_years 77 = .ok (.iload 6, 2) := by decide +kernel
theorem dX6_years_79 : decode cX6_years 79 = .ok (.if_icmp .eq 54, 3) := by decide +kernel
theorem dX6_years_82 : decode cX6_years 82 = .ok (.iload 5, 2) := by decide +kernel
theorem dX6_years_84 : decode cX6_years 84 = .ok (.iload 6, 2) := by decide +kernel
theorem dX6_years_86 : decode cX6_years 86 = .ok (.if_icmp .le 15, 3) := by decide +kernel
theorem dX6_years_89 : decode cX6_years 89 = .ok (.iload 8, 2) := by decide +kernel
theorem dX6_years_91 : decode cX6_years 91 = .ok (.iload 4, 2) := by decide +kernel
theorem dX6_years_93 : decode cX6_years 93 = .ok (.imul, 1) := by decide +kernel
theorem dX6_years_94 : decode cX6_years 94 = .ok (.sipush 1000, 3) := by decide +kernel
theorem dX6_years_97 : decode cX6_years 97 = .ok (.idiv, 1) := by decide +kernel
theorem dX6_years_98 : decode cX6_years 98 = .ok (.goto 13, 3) := by decide +kernel
theorem dX6_years_101 : decode cX6_years 101 = .ok (.iload 7, 2) := by decide +kernel
theorem dX6_years_103 : decode cX6_years 103 = .ok (.iload 4, 2) := by decide +kernel
theorem dX6_years_105 : decode cX6_years 105 = .ok (.imul, 1) := by decide +kernel
theorem dX6_years_106 : decode cX6_years 106 = .ok (.sipush 1000, 3) := by decide +kernel
theorem dX6_years_109 : decode cX6_years 109 = .ok (.idiv, 1) := by decide +kernel
theorem dX6_years_110 : decode cX6_years 110 = .ok (.ineg, 1) := by decide +kernel
theorem dX6_years_111 : decode cX6_years 111 = .ok (.istore 10, 2) := by decide +kernel
theorem dX6_years_113 : decode cX6_years 113 = .ok (.iload 7, 2) := by decide +kernel
theorem dX6_years_115 : decode cX6_years 115 = .ok (.iload 10, 2) := by decide +kernel
theorem dX6_years_117 : decode cX6_years 117 = .ok (.iadd, 1) := by decide +kernel
theorem dX6_years_118 : decode cX6_years 118 = .ok (.istore 7, 2) := by decide +kernel
theorem dX6_years_120 : decode cX6_years 120 = .ok (.iload 8, 2) := by decide +kernel
theorem dX6_years_122 : decode cX6_years 122 = .ok (.iload 10, 2) := by decide +kernel
theorem dX6_years_124 : decode cX6_years 124 = .ok (.isub, 1) := by decide +kernel
theorem dX6_years_125 : decode cX6_years 125 = .ok (.istore 8, 2) := by decide +kernel
theorem dX6_years_127 : decode cX6_years 127 = .ok (.iinc 9 1, 3) := by decide +kernel
theorem dX6_years_130 : decode cX6_years 130 = .ok (.goto (-61), 3) := by decide +kernel
theorem dX6_years_133 : decode cX6_years 133 = .ok (.iload 7, 2) := by decide +kernel
theorem dX6_years_135 : decode cX6_years 135 = .ok (.ireturn, 1) := by decide +kernel
theorem dX6_check_0 : decode cX6_check 0 = .ok (.iload_n 1, 1) := by decide +kernel
theorem dX6_check_1 : decode cX6_check 1 = .ok (.iconst 0, 1) := by decide +kernel
theorem dX6_check_2 : decode cX6_check 2 = .ok (.sipush 500, 3) := by decide +kernel
theorem dX6_check_5 : decode cX6_check 5 = .ok (.invokestatic 93, 3) := by decide +kernel
theorem dX6_check_8 : decode cX6_check 8 = .ok (.ifCond .eq 14, 3) := by decide +kernel
theorem dX6_check_11 : decode cX6_check 11 = .ok (.bipush 12, 2) := by decide +kernel
theorem dX6_check_13 : decode cX6_check 13 = .ok (.iload_n 1, 1) := by decide +kernel
theorem dX6_check_14 : decode cX6_check 14 = .ok (.imul, 1) := by decide +kernel
theorem dX6_check_15 : decode cX6_check 15 = .ok (.aload_n 0, 1) := by decide +kernel
theorem dX6_check_16 : decode cX6_check 16 = .ok (.getfield 140, 3) := by decide +kernel
theorem dX6_check_19 : decode cX6_check 19 = .ok (.if_icmp .le 6, 3) := by decide +kernel
theorem dX6_check_22 : decode cX6_check 22 = .ok (.bipush (-2), 2) := by decide +kernel
theorem dX6_check_24 : decode cX6_check 24 = .ok (.ireturn, 1) := by decide +kernel
theorem dX6_check_25 : decode cX6_check 25 = .ok (.aload_n 0, 1) := by decide +kernel
theorem dX6_check_26 : decode cX6_check 26 = .ok (.iconst 0, 1) := by decide +kernel
theorem dX6_check_27 : decode cX6_check 27 = .ok (.putfield 140, 3) := by decide +kernel
theorem dX6_check_30 : decode cX6_check 30 = .ok (.aload_n 0, 1) := by decide +kernel
theorem dX6_check_31 : decode cX6_check 31 = .ok (.invokevirtual 153, 3) := by decide +kernel
theorem dX6_check_34 : decode cX6_check 34 = .ok (.astore_n 2, 1) := by decide +kernel
theorem dX6_check_35 : decode cX6_check 35 = .ok (.iconst 0, 1) := by decide +kernel
theorem dX6_check_36 : decode cX6_check 36 = .ok (.istore_n 3, 1) := by decide +kernel
theorem dX6_check_37 : decode cX6_check 37 = .ok (.iload_n 3, 1) := by decide +kernel
theorem dX6_check_38 : decode cX6_check 38 = .ok (.iconst 3, 1) := by decide +kernel
theorem dX6_check_39 : decode cX6_check 39 = .ok (.iload_n 1, 1) := by decide +kernel
theorem dX6_check_40 : decode cX6_check 40 = .ok (.imul, 1) := by decide +kernel
theorem dX6_check_41 : decode cX6_check 41 = .ok (.if_icmp .ge 42, 3) := by decide +kernel
theorem dX6_check_44 : decode cX6_check 44 = .ok (.iload_n 3, 1) := by decide +kernel
theorem dX6_check_45 : decode cX6_check 45 = .ok (.iconst 3, 1) := by decide +kernel
theorem dX6_check_46 : decode cX6_check 46 = .ok (.idiv, 1) := by decide +kernel
theorem dX6_check_47 : decode cX6_check 47 = .ok (.istore 4, 2) := by decide +kernel
theorem dX6_check_49 : decode cX6_check 49 = .ok (.aload_n 2, 1) := by decide +kernel
theorem dX6_check_50 : decode cX6_check 50 = .ok (.iload 4, 2) := by decide +kernel
theorem dX6_check_52 : decode cX6_check 52 = .ok (.invokevirtual 235, 3) := by decide +kernel
theorem dX6_check_55 : decode cX6_check 55 = .ok (.ifCond .eq 20, 3) := by decide +kernel
theorem dX6_check_58 : decode cX6_check 58 = .ok (.aload_n 0, 1) := by decide +kernel
theorem dX6_check_59 : decode cX6_check 59 = .ok (.iload_n 3, 1) := by decide +kernel
theorem dX6_check_60 : decode cX6_check 60 = .ok (.invokevirtual 238, 3) := by decide +kernel
theorem dX6_check_63 : decode cX6_check 63 = .ok (.aload_n 2, 1) := by decide +kernel
theorem dX6_check_64 : decode cX6_check 64 = .ok (.iload 4, 2) := by decide +kernel
theorem dX6_check_66 : decode cX6_check 66 = .ok (.iload_n 3, 1) := by decide +kernel
theorem dX6_check_67 : decode cX6_check 67 = .ok (.iconst 3, 1) := by decide +kernel
theorem dX6_check_68 : decode cX6_check 68 = .ok (.irem, 1) := by decide +kernel
theorem dX6_check_69 : decode cX6_check 69 = .ok (.invokevirtual 241, 3) := by decide +kernel
theorem dX6_check_72 : decode cX6_check 72 = .ok (.if_icmp .eq 5, 3) := by decide +kernel
theorem dX6_check_75 : decode cX6_check 75 = .ok (.iload_n 3, 1) := by decide +kernel
theorem dX6_check_76 : decode cX6_check 76 = .ok (.ireturn, 1) := by decide +kernel
theorem dX6_check_77 : decode cX6_check 77 = .ok (.iinc 3 1, 3) := by decide +kernel
theorem dX6_check_80 : decode cX6_check 80 = .ok (.goto (-43), 3) := by decide +kernel
theorem dX6_check_83 : decode cX6_check 83 = .ok (.iload_n 1, 1) := by decide +kernel
theorem dX6_check_84 : decode cX6_check 84 = .ok (.aload_n 2, 1) := by decide +kernel
theorem dX6_check_85 : decode cX6_check 85 = .ok (.getfield 21, 3) := by decide +kernel
theorem dX6_check_88 : decode cX6_check 88 = .ok (.getfield 124, 3) := by decide +kernel
theorem dX6_check_91 : decode cX6_check 91 = .ok (.if_icmp .ne 7, 3) := by decide +kernel
theorem dX6_check_94 : decode cX6_check 94 = .ok (.iconst (-1), 1) := by decide +kernel
theorem dX6_check_95 : decode cX6_check 95 = .ok (.goto 6, 3) := by decide +kernel
theorem dX6_check_98 : decode cX6_check 98 = .ok (.iconst 3, 1) := by decide +kernel
theorem dX6_check_99 : decode cX6_check 99 = .ok (.iload_n 1, 1) := by decide +kernel
theorem dX6_check_100 : decode cX6_check 100 = .ok (.imul, 1) := by decide +kernel
theorem dX6_check_101 : decode cX6_check 101 = .ok (.ireturn, 1) := by decide +kernel
theorem dX6_count_0 : decode cX6_count 0 = .ok (.iload_n 1, 1) := by decide +kernel
theorem dX6_count_1 : decode cX6_count 1 = .ok (.bipush 10, 2) := by decide +kernel
theorem dX6_count_3 : decode cX6_count 3 = .ok (.bipush 13, 2) := by decide +kernel
theorem dX6_count_5 : decode cX6_count 5 = .ok (.invokestatic 93, 3) := by decide +kernel
theorem dX6_count_8 : decode cX6_count 8 = .ok (.ifCond .eq 16, 3) := by decide +kernel
theorem dX6_count_11 : decode cX6_count 11 = .ok (.aload_n 0, 1) := by decide +kernel
theorem dX6_count_12 : decode cX6_count 12 = .ok (.getfield 51, 3) := by decide +kernel
theorem dX6_count_15 : decode cX6_count 15 = .ok (.iload_n 1, 1) := by decide +kernel
theorem dX6_count_16 : decode cX6_count 16 = .ok (.bipush 10, 2) := by decide +kernel
theorem dX6_count_18 : decode cX6_count 18 = .ok (.isub, 1) := by decide +kernel
theorem dX6_count_19 : decode cX6_count 19 = .ok (.aaload, 1) := by decide +kernel
theorem dX6_count_20 : decode cX6_count 20 = .ok (.getfield 244, 3) := by decide +kernel
theorem dX6_count_23 : decode cX6_count 23 = .ok (.ireturn, 1) := by decide +kernel
theorem dX6_count_24 : decode cX6_count 24 = .ok (.iload_n 1, 1) := by decide +kernel
theorem dX6_count_25 : decode cX6_count 25 = .ok (.bipush 20, 2) := by decide +kernel
theorem dX6_count_27 : decode cX6_count 27 = .ok (.bipush 43, 2) := by decide +kernel
theorem dX6_count_29 : decode cX6_count 29 = .ok (.invokestatic 93, 3) := by decide +kernel
theorem dX6_count_32 : decode cX6_count 32 = .ok (.ifCond .eq 18, 3) := by decide +kernel
theorem dX6_count_35 : decode cX6_count 35 = .ok (.aload_n 0, 1) := by decide +kernel
theorem dX6_count_36 : decode cX6_count 36 = .ok (.getfield 15, 3) := by decide +kernel
theorem dX6_count_39 : decode cX6_count 39 = .ok (.getfield 38, 3) := by decide +kernel
theorem dX6_count_42 : decode cX6_count 42 = .ok (.iload_n 1, 1) := by decide +kernel
theorem dX6_count_43 : decode cX6_count 43 = .ok (.bipush 20, 2) := by decide +kernel
theorem dX6_count_45 : decode cX6_count 45 = .ok (.isub, 1) := by decide +kernel
theorem dX6_count_46 : decode cX6_count 46 = .ok (.invokevirtual 247, 3) := by decide +kernel
theorem dX6_count_49 : decode cX6_count 49 = .ok (.ireturn, 1) := by decide +kernel
theorem dX6_count_50 : decode cX6_count 50 = .ok (.iload_n 1, 1) := by decide +kernel
theorem dX6_count_51 : decode cX6_count 51 = .ok (.bipush 50, 2) := by decide +kernel
theorem dX6_count_53 : decode cX6_count 53 = .ok (.bipush 73, 2) := by decide +kernel
theorem dX6_count_55 : decode cX6_count 55 = .ok (.invokestatic 93, 3) := by decide +kernel
theorem dX6_count_58 : decode cX6_count 58 = .ok (.ifCond .eq 18, 3) := by decide +kernel
theorem dX6_count_61 : decode cX6_count 61 = .ok (.aload_n 0, 1) := by decide +kernel
theorem dX6_count_62 : decode cX6_count 62 = .ok (.getfield 15, 3) := by decide +kernel
theorem dX6_count_65 : decode cX6_count 65 = .ok (.getfield 38, 3) := by decide +kernel
theorem dX6_count_68 : decode cX6_count 68 = .ok (.iload_n 1, 1) := by decide +kernel
theorem dX6_count_69 : decode cX6_count 69 = .ok (.bipush 50, 2) := by decide +kernel
theorem dX6_count_71 : decode cX6_count 71 = .ok (.isub, 1) := by decide +kernel
theorem dX6_count_72 : decode cX6_count 72 = .ok (.invokevirtual 250, 3) := by decide +kernel
theorem dX6_count_75 : decode cX6_count 75 = .ok (.ireturn, 1) := by decide +kernel
theorem dX6_count_76 : decode cX6_count 76 = .ok (.iload_n 1, 1) := by decide +kernel
theorem dX6_count_77 : decode cX6_count 77 = .ok (.tableswitch 99 0 6 #[43, 54, 68, 79, 84, 89, 94], 43) := by decide +kernel
theorem dX6_count_120 : decode cX6_count 120 = .ok (.aload_n 0, 1) := by decide +kernel
theorem dX6_count_121 : decode cX6_count 121 = .ok (.getfield 15, 3) := by decide +kernel
theorem dX6_count_124 : decode cX6_count 124 = .ok (.getfield 38, 3) := by decide +kernel
theorem dX6_count_127 : decode cX6_count 127 = .ok (.getfield 102, 3) := by decide +kernel
theorem dX6_count_130 : decode cX6_count 130 = .ok (.ireturn, 1) := by decide +kernel
theorem dX6_count_131 : decode cX6_count 131 = .ok (.aload_n 0, 1) := by decide +kernel
theorem dX6_count_132 : decode cX6_count 132 = .ok (.getfield 15, 3) := by decide +kernel
theorem dX6_count_135 : decode cX6_count 135 = .ok (.getfield 38, 3) := by decide +kernel
theorem dX6_count_138 : decode cX6_count 138 = .ok (.getfield 97, 3) := by decide +kernel
theorem dX6_count_141 : decode cX6_count 141 = .ok (.invokestatic 177, 3) := by decide +kernel
theorem dX6_count_144 : decode cX6_count 144 = .ok (.ireturn, 1) := by decide +kernel
theorem dX6_count_145 : decode cX6_count 145 = .ok (.aload_n 0, 1) := by decide +kernel
theorem dX6_count_146 : decode cX6_count 146 = .ok (.getfield 15, 3) := by decide +kernel
theorem dX6_count_149 : decode cX6_count 149 = .ok (.getfield 21, 3) := by decide +kernel
theorem dX6_count_152 : decode cX6_count 152 = .ok (.getfield 124, 3) := by decide +kernel
theorem dX6_count_155 : decode cX6_count 155 = .ok (.ireturn, 1) := by decide +kernel
theorem dX6_count_156 : decode cX6_count 156 = .ok (.aload_n 0, 1) := by decide +kernel
theorem dX6_count_157 : decode cX6_count 157 = .ok (.getfield 140, 3) := by decide +kernel
theorem dX6_count_160 : decode cX6_count 160 = .ok (.ireturn, 1) := by decide +kernel
theorem dX6_count_161 : decode cX6_count 161 = .ok (.aload_n 0, 1) := by decide +kernel
theorem dX6_count_162 : decode cX6_count 162 = .ok (.getfield 211, 3) := by decide +kernel
theorem dX6_count_165 : decode cX6_count 165 = .ok (.ireturn, 1) := by decide +kernel
theorem dX6_count_166 : decode cX6_count 166 = .ok (.aload_n 0, 1) := by decide +kernel
theorem dX6_count_167 : decode cX6_count 167 = .ok (.getfield 80, 3) := by decide +kernel
theorem dX6_count_170 : decode cX6_count 170 = .ok (.ireturn, 1) := by decide +kernel
theorem dX6_count_171 : decode cX6_count 171 = .ok (.aload_n 0, 1) := by decide +kernel
theorem dX6_count_172 : decode cX6_count 172 = .ok (.getfield 84, 3) := by decide +kernel
theorem dX6_count_175 : decode cX6_count 175 = .ok (.ireturn, 1) := by decide +kernel
theorem dX6_count_176 : decode cX6_count 176 = .ok (.iconst (-1), 1) := by decide +kernel
theorem dX6_count_177 : decode cX6_count 177 = .ok (.ireturn, 1) := by decide +kernel
theorem dX6_within_0 : decode cX6_within 0 = .ok (.iload_n 0, 1) := by decide +kernel
theorem dX6_within_1 : decode cX6_within 1 = .ok (.iload_n 1, 1) := by decide +kernel
theorem dX6_within_2 : decode cX6_within 2 = .ok (.if_icmp .lt 12, 3) := by decide +kernel
theorem dX6_within_5 : decode cX6_within 5 = .ok (.iload_n 0, 1) := by decide +kernel
theorem dX6_within_6 : decode cX6_within 6 = .ok (.iload_n 2, 1) := by decide +kernel
theorem dX6_within_7 : decode cX6_within 7 = .ok (.if_icmp .gt 7, 3) := by decide +kernel
theorem dX6_within_10 : decode cX6_within 10 = .ok (.iconst 1, 1) := by decide +kernel
theorem dX6_within_11 : decode cX6_within 11 = .ok (.goto 4, 3) := by decide +kernel
theorem dX6_within_14 : decode cX6_within 14 = .ok (.iconst 0, 1) := by decide +kernel
theorem dX6_within_15 : decode cX6_within 15 = .ok (.ireturn, 1) := by decide +kernel
theorem dX6_isSeat_0 : decode cX6_isSeat 0 = .ok (.iload_n 0, 1) := by decide +kernel
theorem dX6_isSeat_1 : decode cX6_isSeat 1 = .ok (.iconst 0, 1) := by decide +kernel
theorem dX6_isSeat_2 : decode cX6_isSeat 2 = .ok (.bipush 23, 2) := by decide +kernel
theorem dX6_isSeat_4 : decode cX6_isSeat 4 = .ok (.invokestatic 93, 3) := by decide +kernel
theorem dX6_isSeat_7 : decode cX6_isSeat 7 = .ok (.ireturn, 1) := by decide +kernel
theorem dX6_isStick_0 : decode cX6_isStick 0 = .ok (.iload_n 0, 1) := by decide +kernel
theorem dX6_isStick_1 : decode cX6_isStick 1 = .ok (.iconst 1, 1) := by decide +kernel
theorem dX6_isStick_2 : decode cX6_isStick 2 = .ok (.iconst 2, 1) := by decide +kernel
theorem dX6_isStick_3 : decode cX6_isStick 3 = .ok (.invokestatic 93, 3) := by decide +kernel
theorem dX6_isStick_6 : decode cX6_isStick 6 = .ok (.ireturn, 1) := by decide +kernel
theorem dX6_isNow_0 : decode cX6_isNow 0 = .ok (.aload_n 0, 1) := by decide +kernel
theorem dX6_isNow_1 : decode cX6_isNow 1 = .ok (.getfield 15, 3) := by decide +kernel
theorem dX6_isNow_4 : decode cX6_isNow 4 = .ok (.iload_n 1, 1) := by decide +kernel
theorem dX6_isNow_5 : decode cX6_isNow 5 = .ok (.invokevirtual 235, 3) := by decide +kernel
theorem dX6_isNow_8 : decode cX6_isNow 8 = .ok (.ireturn, 1) := by decide +kernel
theorem dX6_planOf_0 : decode cX6_planOf 0 = .ok (.iload_n 1, 1) := by decide +kernel
theorem dX6_planOf_1 : decode cX6_planOf 1 = .ok (.iconst 1, 1) := by decide +kernel
theorem dX6_planOf_2 : decode cX6_planOf 2 = .ok (.if_icmp .ne 10, 3) := by decide +kernel
theorem dX6_planOf_5 : decode cX6_planOf 5 = .ok (.aload_n 0, 1) := by decide +kernel
theorem dX6_planOf_6 : decode cX6_planOf 6 = .ok (.getfield 73, 3) := by decide +kernel
theorem dX6_planOf_9 : decode cX6_planOf 9 = .ok (.goto 7, 3) := by decide +kernel
theorem dX6_planOf_12 : decode cX6_planOf 12 = .ok (.aload_n 0, 1) := by decide +kernel
theorem dX6_planOf_13 : decode cX6_planOf 13 = .ok (.getfield 77, 3) := by decide +kernel
theorem dX6_planOf_16 : decode cX6_planOf 16 = .ok (.areturn, 1) := by decide +kernel
theorem dX6_append_0 : decode cX6_append 0 = .ok (.bipush 24, 2) := by decide +kernel
theorem dX6_append_2 : decode cX6_append 2 = .ok (.istore_n 2, 1) := by decide +kernel
theorem dX6_append_3 : decode cX6_append 3 = .ok (.iload_n 2, 1) := by decide +kernel
theorem dX6_append_4 : decode cX6_append 4 = .ok (.ifCond .lt 51, 3) := by decide +kernel
theorem dX6_append_7 : decode cX6_append 7 = .ok (.aload_n 0, 1) := by decide +kernel
theorem dX6_append_8 : decode cX6_append 8 = .ok (.getfield 140, 3) := by decide +kernel
theorem dX6_append_11 : decode cX6_append 11 = .ok (.ifCond .lt 44, 3) := by decide +kernel
theorem dX6_append_14 : decode cX6_append 14 = .ok (.aload_n 0, 1) := by decide +kernel
theorem dX6_append_15 : decode cX6_append 15 = .ok (.getfield 140, 3) := by decide +kernel
theorem dX6_append_18 : decode cX6_append 18 = .ok (.aload_n 0, 1) := by decide +kernel
theorem dX6_append_19 : decode cX6_append 19 = .ok (.getfield 60, 3) := by decide +kernel
theorem dX6_append_22 : decode cX6_append 22 = .ok (.arraylength, 1) := by decide +kernel
theorem dX6_append_23 : decode cX6_append 23 = .ok (.if_icmp .ge 32, 3) := by decide +kernel
theorem dX6_append_26 : decode cX6_append 26 = .ok (.aload_n 0, 1) := by decide +kernel
theorem dX6_append_27 : decode cX6_append 27 = .ok (.getfield 60, 3) := by decide +kernel
theorem dX6_append_30 : decode cX6_append 30 = .ok (.aload_n 0, 1) := by decide +kernel
theorem dX6_append_31 : decode cX6_append 31 = .ok (.getfield 140, 3) := by decide +kernel
theorem dX6_append_34 : decode cX6_append 34 = .ok (.iload_n 1, 1) := by decide +kernel
theorem dX6_append_35 : decode cX6_append 35 = .ok (.iload_n 2, 1) := by decide +kernel
theorem dX6_append_36 : decode cX6_append 36 = .ok (.ishr, 1) := by decide +kernel
theorem dX6_append_37 : decode cX6_append 37 = .ok (.i2b, 1) := by decide +kernel
theorem dX6_append_38 : decode cX6_append 38 = .ok (.bastore, 1) := by decide +kernel
theorem dX6_append_39 : decode cX6_append 39 = .ok (.aload_n 0, 1) := by decide +kernel
theorem dX6_append_40 : decode cX6_append 40 = .ok (.dup, 1) := by decide +kernel
theorem dX6_append_41 : decode cX6_append 41 = .ok (.getfield 140, 3) := by decide +kernel
theorem dX6_append_44 : decode cX6_append 44 = .ok (.iconst 1, 1) := by decide +kernel
theorem dX6_append_45 : decode cX6_append 45 = .ok (.iadd, 1) := by decide +kernel
theorem dX6_append_46 : decode cX6_append 46 = .ok (.putfield 140, 3) := by decide +kernel
theorem dX6_append_49 : decode cX6_append 49 = .ok (.iinc 2 (-8), 3) := by decide +kernel
theorem dX6_append_52 : decode cX6_append 52 = .ok (.goto (-49), 3) := by decide +kernel
theorem dX6_append_55 : decode cX6_append 55 = .ok (.return_, 1) := by decide +kernel
theorem dX6_numberAt_0 : decode cX6_numberAt 0 = .ok (.iconst 0, 1) := by decide +kernel
theorem dX6_numberAt_1 : decode cX6_numberAt 1 = .ok (.istore_n 2, 1) := by decide +kernel
theorem dX6_numberAt_2 : decode cX6_numberAt 2 = .ok (.iconst 4, 1) := by decide +kernel
theorem dX6_numberAt_3 : decode cX6_numberAt 3 = .ok (.iload_n 1, 1) := by decide +kernel
theorem dX6_numberAt_4 : decode cX6_numberAt 4 = .ok (.imul, 1) := by decide +kernel
theorem dX6_numberAt_5 : decode cX6_numberAt 5 = .ok (.istore_n 3, 1) := by decide +kernel
theorem dX6_numberAt_6 : decode cX6_numberAt 6 = .ok (.iload_n 3, 1) := by decide +kernel
theorem dX6_numberAt_7 : decode cX6_numberAt 7 = .ok (.iconst 4, 1) := by decide +kernel
theorem dX6_numberAt_8 : decode cX6_numberAt 8 = .ok (.iload_n 1, 1) := by decide +kernel
theorem dX6_numberAt_9 : decode cX6_numberAt 9 = .ok (.imul, 1) := by decide +kernel
theorem dX6_numberAt_10 : decode cX6_numberAt 10 = .ok (.iconst 4, 1) := by decide +kernel
theorem dX6_numberAt_11 : decode cX6_numberAt 11 = .ok (.iadd, 1) := by decide +kernel
theorem dX6_numberAt_12 : decode cX6_numberAt 12 = .ok (.if_icmp .ge 38, 3) := by decide +kernel
theorem dX6_numberAt_15 : decode cX6_numberAt 15 = .ok (.iload_n 3, 1) := by decide +kernel
theorem dX6_numberAt_16 : decode cX6_numberAt 16 = .ok (.ifCond .lt 28, 3) := by decide +kernel
theorem dX6_numberAt_19 : decode cX6_numberAt 19 = .ok (.iload_n 3, 1) := by decide +kernel
theorem dX6_numberAt_20 : decode cX6_numberAt 20 = .ok (.aload_n 0, 1) := by decide +kernel
theorem dX6_numberAt_21 : decode cX6_numberAt 21 = .ok (.getfield 60, 3) := by decide +kernel
theorem dX6_numberAt_24 : decode cX6_numberAt 24 = .ok (.arraylength, 1) := by decide +kernel
theorem dX6_numberAt_25 : decode cX6_numberAt 25 = .ok (.if_icmp .ge 19, 3) := by decide +kernel
theorem dX6_numberAt_28 : decode cX6_numberAt 28 = .ok (.iload_n 2, 1) := by decide +kernel
theorem dX6_numberAt_29 : decode cX6_numberAt 29 = .ok (.bipush 8, 2) := by decide +kernel
theorem dX6_numberAt_31 : decode cX6_numberAt 31 = .ok (.ishl, 1) := by decide +kernel
theorem dX6_numberAt_32 : decode cX6_numberAt 32 = .ok (.aload_n 0, 1) := by decide +kernel
theorem dX6_numberAt_33 : decode cX6_numberAt 33 = .ok (.getfield 60, 3) := by decide +kernel
theorem dX6_numberAt_36 : decode cX6_numberAt 36 = .ok (.iload_n 3, 1) := by decide +kernel
theorem dX6_numberAt_37 : decode cX6_numberAt 37 = .ok (.baload, 1) := by decide +kernel
theorem dX6_numberAt_38 : decode cX6_numberAt 38 = .ok (.sipush 255, 3) := by decide +kernel
theorem dX6_numberAt_41 : decode cX6_numberAt 41 = .ok (.iand, 1) := by decide +kernel
theorem dX6_numberAt_42 : decode cX6_numberAt 42 = .ok (.ior, 1) := by decide +kernel
theorem dX6_numberAt_43 : decode cX6_numberAt 43 = .ok (.istore_n 2, 1) := by decide +kernel
theorem dX6_numberAt_44 : decode cX6_numberAt 44 = .ok (.iinc 3 1, 3) := by decide +kernel
theorem dX6_numberAt_47 : decode cX6_numberAt 47 = .ok (.goto (-41), 3) := by decide +kernel
theorem dX6_numberAt_50 : decode cX6_numberAt 50 = .ok (.iload_n 2, 1) := by decide +kernel
theorem dX6_numberAt_51 : decode cX6_numberAt 51 = .ok (.ireturn, 1) := by decide +kernel
theorem dX6_played_0 : decode cX6_played 0 = .ok (.aload_n 0, 1) := by decide +kernel
theorem dX6_played_1 : decode cX6_played 1 = .ok (.getfield 28, 3) := by decide +kernel
theorem dX6_played_4 : decode cX6_played 4 = .ok (.ifCond .eq 17, 3) := by decide +kernel
theorem dX6_played_7 : decode cX6_played 7 = .ok (.aload_n 0, 1) := by decide +kernel
theorem dX6_played_8 : decode cX6_played 8 = .ok (.aload_n 0, 1) := by decide +kernel
theorem dX6_played_9 : decode cX6_played 9 = .ok (.getfield 15, 3) := by decide +kernel
theorem dX6_played_12 : decode cX6_played 12 = .ok (.iconst 0, 1) := by decide +kernel
theorem dX6_played_13 : decode cX6_played 13 = .ok (.invokevirtual 253, 3) := by decide +kernel
theorem dX6_played_16 : decode cX6_played 16 = .ok (.aload_n 0, 1) := by decide +kernel
theorem dX6_played_17 : decode cX6_played 17 = .ok (.iconst 0, 1) := by decide +kernel
theorem dX6_played_18 : decode cX6_played 18 = .ok (.putfield 28, 3) := by decide +kernel
theorem dX6_played_21 : decode cX6_played 21 = .ok (.aload_n 0, 1) := by decide +kernel
theorem dX6_played_22 : decode cX6_played 22 = .ok (.getfield 15, 3) := by decide +kernel
theorem dX6_played_25 : decode cX6_played 25 = .ok (.areturn, 1) := by decide +kernel
theorem dX6_play_0 : decode cX6_play 0 = .ok (.iconst 0, 1) := by decide +kernel
theorem dX6_play_1 : decode cX6_play 1 = .ok (.istore_n 3, 1) := by decide +kernel
theorem dX6_play_2 : decode cX6_play 2 = .ok (.iconst 0, 1) := by decide +kernel
theorem dX6_play_3 : decode cX6_play 3 = .ok (.istore 4, 2) := by decide +kernel
theorem dX6_play_5 : decode cX6_play 5 = .ok (.aload_n 1, 1) := by decide +kernel
theorem dX6_play_6 : decode cX6_play 6 = .ok (.iconst 0, 1) := by decide +kernel
theorem dX6_play_7 : decode cX6_play 7 = .ok (.putfield 168, 3) := by decide +kernel
theorem dX6_play_10 : decode cX6_play 10 = .ok (.iconst 0, 1) := by decide +kernel
theorem dX6_play_11 : decode cX6_play 11 = .ok (.istore 5, 2) := by decide +kernel
theorem dX6_play_13 : decode cX6_play 13 = .ok (.iload 5, 2) := by decide +kernel
theorem dX6_play_15 : decode cX6_play 15 = .ok (.aload_n 1, 1) := by decide +kernel
theorem dX6_play_16 : decode cX6_play 16 = .ok (.getfield 21, 3) := by decide +kernel
theorem dX6_play_19 : decode cX6_play 19 = .ok (.getfield 124, 3) := by decide +kernel
theorem dX6_play_22 : decode cX6_play 22 = .ok (.if_icmp .ge 171, 3) := by decide +kernel
theorem dX6_play_25 : decode cX6_play 25 = .ok (.iload 5, 2) := by decide +kernel
theorem dX6_play_27 : decode cX6_play 27 = .ok (.bipush 40, 2) := by decide +kernel
theorem dX6_play_29 : decode cX6_play 29 = .ok (.if_icmp .ge 164, 3) := by decide +kernel
theorem dX6_play_32 : decode cX6_play 32 = .ok (.aload_n 0, 1) := by decide +kernel
theorem dX6_play_33 : decode cX6_play 33 = .ok (.getfield 45, 3) := by decide +kernel
theorem dX6_play_36 : decode cX6_play 36 = .ok (.aload_n 1, 1) := by decide +kernel
theorem dX6_play_37 : decode cX6_play 37 = .ok (.iload 5, 2) := by decide +kernel
theorem dX6_play_39 : decode cX6_play 39 = .ok (.iload_n 3, 1) := by decide +kernel
theorem dX6_play_40 : decode cX6_play 40 = .ok (.iload 4, 2) := by decide +kernel
theorem dX6_play_42 : decode cX6_play 42 = .ok (.invokevirtual 257, 3) := by decide +kernel
theorem dX6_play_45 : decode cX6_play 45 = .ok (.aload_n 0, 1) := by decide +kernel
theorem dX6_play_46 : decode cX6_play 46 = .ok (.aload_n 1, 1) := by decide +kernel
theorem dX6_play_47 : decode cX6_play 47 = .ok (.getfield 38, 3) := by decide +kernel
theorem dX6_play_50 : decode cX6_play 50 = .ok (.iload 5, 2) := by decide +kernel
theorem dX6_play_52 : decode cX6_play 52 = .ok (.iconst 1, 1) := by decide +kernel
theorem dX6_play_53 : decode cX6_play 53 = .ok (.invokevirtual 261, 3) := by decide +kernel
theorem dX6_play_56 : decode cX6_play 56 = .ok (.istore_n 3, 1) := by decide +kernel
theorem dX6_play_57 : decode cX6_play 57 = .ok (.aload_n 0, 1) := by decide +kernel
theorem dX6_play_58 : decode cX6_play 58 = .ok (.aload_n 1, 1) := by decide +kernel
theorem dX6_play_59 : decode cX6_play 59 = .ok (.getfield 38, 3) := by decide +kernel
theorem dX6_play_62 : decode cX6_play 62 = .ok (.iload 5, 2) := by decide +kernel
theorem dX6_play_64 : decode cX6_play 64 = .ok (.iconst 2, 1) := by decide +kernel
theorem dX6_play_65 : decode cX6_play 65 = .ok (.invokevirtual 261, 3) := by decide +kernel
theorem dX6_play_68 : decode cX6_play 68 = .ok (.istore 4, 2) := by decide +kernel
theorem dX6_play_70 : decode cX6_play 70 = .ok (.aload_n 1, 1) := by decide +kernel
theorem dX6_play_71 : decode cX6_play 71 = .ok (.getfield 38, 3) := by decide +kernel
theorem dX6_play_74 : decode cX6_play 74 = .ok (.invokevirtual 265, 3) := by decide +kernel
theorem dX6_play_77 : decode cX6_play 77 = .ok (.istore 6, 2) := by decide +kernel
theorem dX6_play_79 : decode cX6_play 79 = .ok (.iconst 0, 1) := by decide +kernel
theorem dX6_play_80 : decode cX6_play 80 = .ok (.istore 7, 2) := by decide +kernel
theorem dX6_play_82 : decode cX6_play 82 = .ok (.iload 7, 2) := by decide +kernel
theorem dX6_play_84 : decode cX6_play 84 = .ok (.bipush 24, 2) := by decide +kernel
theorem dX6_play_86 : decode cX6_play 86 = .ok (.if_icmp .ge 75, 3) := by decide +kernel
theorem dX6_play_89 : decode cX6_play 89 = .ok (.iload 6, 2) := by decide +kernel
theorem dX6_play_91 : decode cX6_play 91 = .ok (.iload 7, 2) := by decide +kernel
theorem dX6_play_93 : decode cX6_play 93 = .ok (.ishr, 1) := by decide +kernel
theorem dX6_play_94 : decode cX6_play 94 = .ok (.iconst 1, 1) := by decide +kernel
theorem dX6_play_95 : decode cX6_play 95 = .ok (.iand, 1) := by decide +kernel
theorem dX6_play_96 : decode cX6_play 96 = .ok (.ifCond .ne 6, 3) := by decide +kernel
theorem dX6_play_99 : decode cX6_play 99 = .ok (.goto 56, 3) := by decide +kernel
theorem dX6_play_102 : decode cX6_play 102 = .ok (.aload_n 0, 1) := by decide +kernel
theorem dX6_play_103 : decode cX6_play 103 = .ok (.aload_n 1, 1) := by decide +kernel
theorem dX6_play_104 : decode cX6_play 104 = .ok (.getfield 38, 3) := by decide +kernel
theorem dX6_play_107 : decode cX6_play 107 = .ok (.iload 7, 2) := by decide +kernel
theorem dX6_play_109 : decode cX6_play 109 = .ok (.invokevirtual 247, 3) := by decide +kernel
theorem dX6_play_112 : decode cX6_play 112 = .ok (.iload 7, 2) := by decide +kernel
theorem dX6_play_114 : decode cX6_play 114 = .ok (.invokevirtual 268, 3) := by decide +kernel
theorem dX6_play_117 : decode cX6_play 117 = .ok (.istore 8, 2) := by decide +kernel
theorem dX6_play_119 : decode cX6_play 119 = .ok (.iload_n 3, 1) := by decide +kernel
theorem dX6_play_120 : decode cX6_play 120 = .ok (.iload 8, 2) := by decide +kernel
theorem dX6_play_122 : decode cX6_play 122 = .ok (.iconst 1, 1) := by decide +kernel
theorem dX6_play_123 : decode cX6_play 123 = .ok (.if_icmp .ne 10, 3) := by decide +kernel
theorem dX6_play_126 : decode cX6_play 126 = .ok (.iconst 1, 1) := by decide +kernel
theorem dX6_play_127 : decode cX6_play 127 = .ok (.iload 7, 2) := by decide +kernel
theorem dX6_play_129 : decode cX6_play 129 = .ok (.ishl, 1) := by decide +kernel
theorem dX6_play_130 : decode cX6_play 130 = .ok (.goto 4, 3) := by decide +kernel
theorem dX6_play_133 : decode cX6_play 133 = .ok (.iconst 0, 1) := by decide +kernel
theorem dX6_play_134 : decode cX6_play 134 = .ok (.ior, 1) := by decide +kernel
theorem dX6_play_135 : decode cX6_play 135 = .ok (.istore_n 3, 1) := by decide +kernel
theorem dX6_play_136 : decode cX6_play 136 = .ok (.iload 4, 2) := by decide +kernel
theorem dX6_play_138 : decode cX6_play 138 = .ok (.iload 8, 2) := by decide +kernel
theorem dX6_play_140 : decode cX6_play 140 = .ok (.iconst 2, 1) := by decide +kernel
theorem dX6_play_141 : decode cX6_play 141 = .ok (.if_icmp .ne 10, 3) := by decide +kernel
theorem dX6_play_144 : decode cX6_play 144 = .ok (.iconst 1, 1) := by decide +kernel
theorem dX6_play_145 : decode cX6_play 145 = .ok (.iload 7, 2) := by decide +kernel
theorem dX6_play_147 : decode cX6_play 147 = .ok (.ishl, 1) := by decide +kernel
theorem dX6_play_148 : decode cX6_play 148 = .ok (.goto 4, 3) := by decide +kernel
theorem dX6_play_151 : decode cX6_play 151 = .ok (.iconst 0, 1) := by decide +kernel
theorem dX6_play_152 : decode cX6_play 152 = .ok (.ior, 1) := by decide +kernel
theorem dX6_play_153 : decode cX6_play 153 = .ok (.istore 4, 2) := by decide +kernel
theorem dX6_play_155 : decode cX6_play 155 = .ok (.iinc 7 1, 3) := by decide +kernel
theorem dX6_play_158 : decode cX6_play 158 = .ok (.goto (-76), 3) := by decide +kernel
theorem dX6_play_161 : decode cX6_play 161 = .ok (.iload 5, 2) := by decide +kernel
theorem dX6_play_163 : decode cX6_play 163 = .ok (.ifCond .ne 15, 3) := by decide +kernel
theorem dX6_play_166 : decode cX6_play 166 = .ok (.iload_n 3, 1) := by decide +kernel
theorem dX6_play_167 : decode cX6_play 167 = .ok (.iload_n 2, 1) := by decide +kernel
theorem dX6_play_168 : decode cX6_play 168 = .ok (.ior, 1) := by decide +kernel
theorem dX6_play_169 : decode cX6_play 169 = .ok (.istore_n 3, 1) := by decide +kernel
theorem dX6_play_170 : decode cX6_play 170 = .ok (.iload 4, 2) := by decide +kernel
theorem dX6_play_172 : decode cX6_play 172 = .ok (.iload_n 2, 1) := by decide +kernel
theorem dX6_play_173 : decode cX6_play 173 = .ok (.iconst (-1), 1) := by decide +kernel
theorem dX6_play_174 : decode cX6_play 174 = .ok (.ixor, 1) := by decide +kernel
theorem dX6_play_175 : decode cX6_play 175 = .ok (.iand, 1) := by decide +kernel
theorem dX6_play_176 : decode cX6_play 176 = .ok (.istore 4, 2) := by decide +kernel
theorem dX6_play_178 : decode cX6_play 178 = .ok (.aload_n 1, 1) := by decide +kernel
theorem dX6_play_179 : decode cX6_play 179 = .ok (.iload 5, 2) := by decide +kernel
theorem dX6_play_181 : decode cX6_play 181 = .ok (.iload_n 3, 1) := by decide +kernel
theorem dX6_play_182 : decode cX6_play 182 = .ok (.iload 4, 2) := by decide +kernel
theorem dX6_play_184 : decode cX6_play 184 = .ok (.invokevirtual 271, 3) := by decide +kernel
theorem dX6_play_187 : decode cX6_play 187 = .ok (.iinc 5 1, 3) := by decide +kernel
theorem dX6_play_190 : decode cX6_play 190 = .ok (.goto (-177), 3) := by decide +kernel
theorem dX6_play_193 : decode cX6_play 193 = .ok (.return_, 1) := by decide +kernel
theorem dX6_bought_0 : decode cX6_bought 0 = .ok (.iconst 0, 1) := by decide +kernel
theorem dX6_bought_1 : decode cX6_bought 1 = .ok (.istore 4, 2) := by decide +kernel
theorem dX6_bought_3 : decode cX6_bought 3 = .ok (.iload_n 2, 1) := by decide +kernel
theorem dX6_bought_4 : decode cX6_bought 4 = .ok (.ifCond .lt 55, 3) := by decide +kernel
theorem dX6_bought_7 : decode cX6_bought 7 = .ok (.iload_n 2, 1) := by decide +kernel
theorem dX6_bought_8 : decode cX6_bought 8 = .ok (.bipush 40, 2) := by decide +kernel
theorem dX6_bought_10 : decode cX6_bought 10 = .ok (.if_icmp .ge 49, 3) := by decide +kernel
theorem dX6_bought_13 : decode cX6_bought 13 = .ok (.iload 4, 2) := by decide +kernel
theorem dX6_bought_15 : decode cX6_bought 15 = .ok (.aload_n 0, 1) := by decide +kernel
theorem dX6_bought_16 : decode cX6_bought 16 = .ok (.getfield 73, 3) := by decide +kernel
theorem dX6_bought_19 : decode cX6_bought 19 = .ok (.iload_n 2, 1) := by decide +kernel
theorem dX6_bought_20 : decode cX6_bought 20 = .ok (.iaload, 1) := by decide +kernel
theorem dX6_bought_21 : decode cX6_bought 21 = .ok (.iload_n 3, 1) := by decide +kernel
theorem dX6_bought_22 : decode cX6_bought 22 = .ok (.if_icmp .ne 10, 3) := by decide +kernel
theorem dX6_bought_25 : decode cX6_bought 25 = .ok (.aload_n 1, 1) := by decide +kernel
theorem dX6_bought_26 : decode cX6_bought 26 = .ok (.getfield 274, 3) := by decide +kernel
theorem dX6_bought_29 : decode cX6_bought 29 = .ok (.goto 4, 3) := by decide +kernel
theorem dX6_bought_32 : decode cX6_bought 32 = .ok (.iconst 0, 1) := by decide +kernel
theorem dX6_bought_33 : decode cX6_bought 33 = .ok (.ior, 1) := by decide +kernel
theorem dX6_bought_34 : decode cX6_bought 34 = .ok (.istore 4, 2) := by decide +kernel
theorem dX6_bought_36 : decode cX6_bought 36 = .ok (.iload 4, 2) := by decide +kernel
theorem dX6_bought_38 : decode cX6_bought 38 = .ok (.aload_n 0, 1) := by decide +kernel
theorem dX6_bought_39 : decode cX6_bought 39 = .ok (.getfield 77, 3) := by decide +kernel
theorem dX6_bought_42 : decode cX6_bought 42 = .ok (.iload_n 2, 1) := by decide +kernel
theorem dX6_bought_43 : decode cX6_bought 43 = .ok (.iaload, 1) := by decide +kernel
theorem dX6_bought_44 : decode cX6_bought 44 = .ok (.iload_n 3, 1) := by decide +kernel
theorem dX6_bought_45 : decode cX6_bought 45 = .ok (.if_icmp .ne 10, 3) := by decide +kernel
theorem dX6_bought_48 : decode cX6_bought 48 = .ok (.aload_n 1, 1) := by decide +kernel
theorem dX6_bought_49 : decode cX6_bought 49 = .ok (.getfield 277, 3) := by decide +kernel
theorem dX6_bought_52 : decode cX6_bought 52 = .ok (.goto 4, 3) := by decide +kernel
theorem dX6_bought_55 : decode cX6_bought 55 = .ok (.iconst 0, 1) := by decide +kernel
theorem dX6_bought_56 : decode cX6_bought 56 = .ok (.ior, 1) := by decide +kernel
theorem dX6_bought_57 : decode cX6_bought 57 = .ok (.istore 4, 2) := by decide +kernel
theorem dX6_bought_59 : decode cX6_bought 59 = .ok (.iload 4, 2) := by decide +kernel
theorem dX6_bought_61 : decode cX6_bought 61 = .ok (.ireturn, 1) := by decide +kernel
theorem dX6_asked_0 : decode cX6_asked 0 = .ok (.iload_n 1, 1) := by decide +kernel
theorem dX6_asked_1 : decode cX6_asked 1 = .ok (.iconst 0, 1) := by decide +kernel
theorem dX6_asked_2 : decode cX6_asked 2 = .ok (.iconst 3, 1) := by decide +kernel
theorem dX6_asked_3 : decode cX6_asked 3 = .ok (.invokestatic 93, 3) := by decide +kernel
theorem dX6_asked_6 : decode cX6_asked 6 = .ok (.ifCond .eq 20, 3) := by decide +kernel
theorem dX6_asked_9 : decode cX6_asked 9 = .ok (.aload_n 0, 1) := by decide +kernel
theorem dX6_asked_10 : decode cX6_asked 10 = .ok (.getfield 45, 3) := by decide +kernel
theorem dX6_asked_13 : decode cX6_asked 13 = .ok (.aload_n 0, 1) := by decide +kernel
theorem dX6_asked_14 : decode cX6_asked 14 = .ok (.getfield 51, 3) := by decide +kernel
theorem dX6_asked_17 : decode cX6_asked 17 = .ok (.iload_n 1, 1) := by decide +kernel
theorem dX6_asked_18 : decode cX6_asked 18 = .ok (.aaload, 1) := by decide +kernel
theorem dX6_asked_19 : decode cX6_asked 19 = .ok (.iload_n 2, 1) := by decide +kernel
theorem dX6_asked_20 : decode cX6_asked 20 = .ok (.invokevirtual 280, 3) := by decide +kernel
theorem dX6_asked_23 : decode cX6_asked 23 = .ok (.goto 4, 3) := by decide +kernel
theorem dX6_asked_26 : decode cX6_asked 26 = .ok (.iconst 0, 1) := by decide +kernel
theorem dX6_asked_27 : decode cX6_asked 27 = .ok (.ireturn, 1) := by decide +kernel
theorem dX6_playUnpaid_0 : decode cX6_playUnpaid 0 = .ok (.aload_n 0, 1) := by decide +kernel
theorem dX6_playUnpaid_1 : decode cX6_playUnpaid 1 = .ok (.getfield 25, 3) := by decide +kernel
theorem dX6_playUnpaid_4 : decode cX6_playUnpaid 4 = .ok (.getfield 38, 3) := by decide +kernel
theorem dX6_playUnpaid_7 : decode cX6_playUnpaid 7 = .ok (.aload_n 0, 1) := by decide +kernel
theorem dX6_playUnpaid_8 : decode cX6_playUnpaid 8 = .ok (.getfield 15, 3) := by decide +kernel
theorem dX6_playUnpaid_11 : decode cX6_playUnpaid 11 = .ok (.getfield 38, 3) := by decide +kernel
theorem dX6_playUnpaid_14 : decode cX6_playUnpaid 14 = .ok (.invokevirtual 284, 3) := by decide +kernel
theorem dX6_playUnpaid_17 : decode cX6_playUnpaid 17 = .ok (.aload_n 0, 1) := by decide +kernel
theorem dX6_playUnpaid_18 : decode cX6_playUnpaid 18 = .ok (.getfield 25, 3) := by decide +kernel
theorem dX6_playUnpaid_21 : decode cX6_playUnpaid 21 = .ok (.getfield 38, 3) := by decide +kernel
theorem dX6_playUnpaid_24 : decode cX6_playUnpaid 24 = .ok (.iconst 0, 1) := by decide +kernel
theorem dX6_playUnpaid_25 : decode cX6_playUnpaid 25 = .ok (.putfield 274, 3) := by decide +kernel
theorem dX6_playUnpaid_28 : decode cX6_playUnpaid 28 = .ok (.aload_n 0, 1) := by decide +kernel
theorem dX6_playUnpaid_29 : decode cX6_playUnpaid 29 = .ok (.getfield 25, 3) := by decide +kernel
theorem dX6_playUnpaid_32 : decode cX6_playUnpaid 32 = .ok (.getfield 38, 3) := by decide +kernel
theorem dX6_playUnpaid_35 : decode cX6_playUnpaid 35 = .ok (.iconst 0, 1) := by decide +kernel
theorem dX6_playUnpaid_36 : decode cX6_playUnpaid 36 = .ok (.putfield 277, 3) := by decide +kernel
theorem dX6_playUnpaid_39 : decode cX6_playUnpaid 39 = .ok (.aload_n 0, 1) := by decide +kernel
theorem dX6_playUnpaid_40 : decode cX6_playUnpaid 40 = .ok (.aload_n 0, 1) := by decide +kernel
theorem dX6_playUnpaid_41 : decode cX6_playUnpaid 41 = .ok (.getfield 25, 3) := by decide +kernel
theorem dX6_playUnpaid_44 : decode cX6_playUnpaid 44 = .ok (.iload_n 1, 1) := by decide +kernel
theorem dX6_playUnpaid_45 : decode cX6_playUnpaid 45 = .ok (.invokevirtual 253, 3) := by decide +kernel
theorem dX6_playUnpaid_48 : decode cX6_playUnpaid 48 = .ok (.return_, 1) := by decide +kernel
theorem dX6_houseWith_0 : decode cX6_houseWith 0 = .ok (.aload_n 0, 1) := by decide +kernel
theorem dX6_houseWith_1 : decode cX6_houseWith 1 = .ok (.getfield 25, 3) := by decide +kernel
theorem dX6_houseWith_4 : decode cX6_houseWith 4 = .ok (.getfield 38, 3) := by decide +kernel
theorem dX6_houseWith_7 : decode cX6_houseWith 7 = .ok (.aload_n 0, 1) := by decide +kernel
theorem dX6_houseWith_8 : decode cX6_houseWith 8 = .ok (.getfield 15, 3) := by decide +kernel
theorem dX6_houseWith_11 : decode cX6_houseWith 11 = .ok (.getfield 38, 3) := by decide +kernel
theorem dX6_houseWith_14 : decode cX6_houseWith 14 = .ok (.invokevirtual 284, 3) := by decide +kernel
theorem dX6_houseWith_17 : decode cX6_houseWith 17 = .ok (.aload_n 0, 1) := by decide +kernel
theorem dX6_houseWith_18 : decode cX6_houseWith 18 = .ok (.getfield 25, 3) := by decide +kernel
theorem dX6_houseWith_21 : decode cX6_houseWith 21 = .ok (.getfield 38, 3) := by decide +kernel
theorem dX6_houseWith_24 : decode cX6_houseWith 24 = .ok (.iload_n 1, 1) := by decide +kernel
theorem dX6_houseWith_25 : decode cX6_houseWith 25 = .ok (.iload_n 2, 1) := by decide +kernel
theorem dX6_houseWith_26 : decode cX6_houseWith 26 = .ok (.invokevirtual 286, 3) := by decide +kernel
theorem dX6_houseWith_29 : decode cX6_houseWith 29 = .ok (.aload_n 0, 1) := by decide +kernel
theorem dX6_houseWith_30 : decode cX6_houseWith 30 = .ok (.aload_n 0, 1) := by decide +kernel
theorem dX6_houseWith_31 : decode cX6_houseWith 31 = .ok (.getfield 25, 3) := by decide +kernel
theorem dX6_houseWith_34 : decode cX6_houseWith 34 = .ok (.iconst 0, 1) := by decide +kernel
theorem dX6_houseWith_35 : decode cX6_houseWith 35 = .ok (.invokevirtual 253, 3) := by decide +kernel
theorem dX6_houseWith_38 : decode cX6_houseWith 38 = .ok (.aload_n 0, 1) := by decide +kernel
theorem dX6_houseWith_39 : decode cX6_houseWith 39 = .ok (.getfield 25, 3) := by decide +kernel
theorem dX6_houseWith_42 : decode cX6_houseWith 42 = .ok (.getfield 168, 3) := by decide +kernel
theorem dX6_houseWith_45 : decode cX6_houseWith 45 = .ok (.ireturn, 1) := by decide +kernel
theorem dX6_added_0 : decode cX6_added 0 = .ok (.aload_n 0, 1) := by decide +kernel
theorem dX6_added_1 : decode cX6_added 1 = .ok (.invokevirtual 153, 3) := by decide +kernel
theorem dX6_added_4 : decode cX6_added 4 = .ok (.getfield 168, 3) := by decide +kernel
theorem dX6_added_7 : decode cX6_added 7 = .ok (.aload_n 0, 1) := by decide +kernel
theorem dX6_added_8 : decode cX6_added 8 = .ok (.iload_n 1, 1) := by decide +kernel
theorem dX6_added_9 : decode cX6_added 9 = .ok (.iconst 0, 1) := by decide +kernel
theorem dX6_added_10 : decode cX6_added 10 = .ok (.invokevirtual 192, 3) := by decide +kernel
theorem dX6_added_13 : decode cX6_added 13 = .ok (.isub, 1) := by decide +kernel
theorem dX6_added_14 : decode cX6_added 14 = .ok (.ireturn, 1) := by decide +kernel
theorem dX6_followers_0 : decode cX6_followers 0 = .ok (.aload_n 0, 1) := by decide +kernel
theorem dX6_followers_1 : decode cX6_followers 1 = .ok (.invokevirtual 153, 3) := by decide +kernel
theorem dX6_followers_4 : decode cX6_followers 4 = .ok (.astore_n 2, 1) := by decide +kernel
theorem dX6_followers_5 : decode cX6_followers 5 = .ok (.aload_n 2, 1) := by decide +kernel
theorem dX6_followers_6 : decode cX6_followers 6 = .ok (.getfield 21, 3) := by decide +kernel
theorem dX6_followers_9 : decode cX6_followers 9 = .ok (.getfield 124, 3) := by decide +kernel
theorem dX6_followers_12 : decode cX6_followers 12 = .ok (.iconst 1, 1) := by decide +kernel
theorem dX6_followers_13 : decode cX6_followers 13 = .ok (.isub, 1) := by decide +kernel
theorem dX6_followers_14 : decode cX6_followers 14 = .ok (.istore_n 3, 1) := by decide +kernel
theorem dX6_followers_15 : decode cX6_followers 15 = .ok (.aload_n 2, 1) := by decide +kernel
theorem dX6_followers_16 : decode cX6_followers 16 = .ok (.iload_n 3, 1) := by decide +kernel
theorem dX6_followers_17 : decode cX6_followers 17 = .ok (.invokevirtual 235, 3) := by decide +kernel
theorem dX6_followers_20 : decode cX6_followers 20 = .ok (.ifCond .ne 5, 3) := by decide +kernel
theorem dX6_followers_23 : decode cX6_followers 23 = .ok (.iconst 0, 1) := by decide +kernel
theorem dX6_followers_24 : decode cX6_followers 24 = .ok (.ireturn, 1) := by decide +kernel
theorem dX6_followers_25 : decode cX6_followers 25 = .ok (.aload_n 0, 1) := by decide +kernel
theorem dX6_followers_26 : decode cX6_followers 26 = .ok (.iload_n 1, 1) := by decide +kernel
theorem dX6_followers_27 : decode cX6_followers 27 = .ok (.invokevirtual 136, 3) := by decide +kernel
theorem dX6_followers_30 : decode cX6_followers 30 = .ok (.iload_n 3, 1) := by decide +kernel
theorem dX6_followers_31 : decode cX6_followers 31 = .ok (.iaload, 1) := by decide +kernel
theorem dX6_followers_32 : decode cX6_followers 32 = .ok (.istore 4, 2) := by decide +kernel
theorem dX6_followers_34 : decode cX6_followers 34 = .ok (.iload 4, 2) := by decide +kernel
theorem dX6_followers_36 : decode cX6_followers 36 = .ok (.ifCond .ne 7, 3) := by decide +kernel
theorem dX6_followers_39 : decode cX6_followers 39 = .ok (.iconst 0, 1) := by decide +kernel
theorem dX6_followers_40 : decode cX6_followers 40 = .ok (.goto 21, 3) := by decide +kernel
theorem dX6_followers_43 : decode cX6_followers 43 = .ok (.aload_n 2, 1) := by decide +kernel
theorem dX6_followers_44 : decode cX6_followers 44 = .ok (.iload_n 3, 1) := by decide +kernel
theorem dX6_followers_45 : decode cX6_followers 45 = .ok (.iload 4, 2) := by decide +kernel
theorem dX6_followers_47 : decode cX6_followers 47 = .ok (.invokevirtual 289, 3) := by decide +kernel
theorem dX6_followers_50 : decode cX6_followers 50 = .ok (.aload_n 2, 1) := by decide +kernel
theorem dX6_followers_51 : decode cX6_followers 51 = .ok (.getfield 38, 3) := by decide +kernel
theorem dX6_followers_54 : decode cX6_followers 54 = .ok (.invokevirtual 265, 3) := by decide +kernel
theorem dX6_followers_57 : decode cX6_followers 57 = .ok (.iand, 1) := by decide +kernel
theorem dX6_followers_58 : decode cX6_followers 58 = .ok (.invokestatic 177, 3) := by decide +kernel
theorem dX6_followers_61 : decode cX6_followers 61 = .ok (.ireturn, 1) := by decide +kernel
theorem dX6_planned_0 : decode cX6_planned 0 = .ok (.aload_n 0, 1) := by decide +kernel
theorem dX6_planned_1 : decode cX6_planned 1 = .ok (.iload_n 1, 1) := by decide +kernel
theorem dX6_planned_2 : decode cX6_planned 2 = .ok (.invokevirtual 136, 3) := by decide +kernel
theorem dX6_planned_5 : decode cX6_planned 5 = .ok (.astore_n 3, 1) := by decide +kernel
theorem dX6_planned_6 : decode cX6_planned 6 = .ok (.iconst 0, 1) := by decide +kernel
theorem dX6_planned_7 : decode cX6_planned 7 = .ok (.istore 4, 2) := by decide +kernel
theorem dX6_planned_9 : decode cX6_planned 9 = .ok (.iconst 0, 1) := by decide +kernel
theorem dX6_planned_10 : decode cX6_planned 10 = .ok (.istore 5, 2) := by decide +kernel
theorem dX6_planned_12 : decode cX6_planned 12 = .ok (.iload 5, 2) := by decide +kernel
theorem dX6_planned_14 : decode cX6_planned 14 = .ok (.aload_n 0, 1) := by decide +kernel
theorem dX6_planned_15 : decode cX6_planned 15 = .ok (.getfield 15, 3) := by decide +kernel
theorem dX6_planned_18 : decode cX6_planned 18 = .ok (.getfield 21, 3) := by decide +kernel
theorem dX6_planned_21 : decode cX6_planned 21 = .ok (.getfield 124, 3) := by decide +kernel
theorem dX6_planned_24 : decode cX6_planned 24 = .ok (.if_icmp .ge 27, 3) := by decide +kernel
theorem dX6_planned_27 : decode cX6_planned 27 = .ok (.iload 5, 2) := by decide +kernel
theorem dX6_planned_29 : decode cX6_planned 29 = .ok (.aload_n 3, 1) := by decide +kernel
theorem dX6_planned_30 : decode cX6_planned 30 = .ok (.arraylength, 1) := by decide +kernel
theorem dX6_planned_31 : decode cX6_planned 31 = .ok (.if_icmp .ge 20, 3) := by decide +kernel
theorem dX6_planned_34 : decode cX6_planned 34 = .ok (.aload_n 3, 1) := by decide +kernel
theorem dX6_planned_35 : decode cX6_planned 35 = .ok (.iload 5, 2) := by decide +kernel
theorem dX6_planned_37 : decode cX6_planned 37 = .ok (.iaload, 1) := by decide +kernel
theorem dX6_planned_38 : decode cX6_planned 38 = .ok (.iload_n 2, 1) := by decide +kernel
theorem dX6_planned_39 : decode cX6_planned 39 = .ok (.if_icmp .ne 6, 3) := by decide +kernel
theorem dX6_planned_42 : decode cX6_planned 42 = .ok (.iinc 4 1, 3) := by decide +kernel
theorem dX6_planned_45 : decode cX6_planned 45 = .ok (.iinc 5 1, 3) := by decide +kernel
theorem dX6_planned_48 : decode cX6_planned 48 = .ok (.goto (-36), 3) := by decide +kernel
theorem dX6_planned_51 : decode cX6_planned 51 = .ok (.iload 4, 2) := by decide +kernel
theorem dX6_planned_53 : decode cX6_planned 53 = .ok (.ireturn, 1) := by decide +kernel
theorem dX6_bestSet_0 : decode cX6_bestSet 0 = .ok (.aload_n 0, 1) := by decide +kernel
theorem dX6_bestSet_1 : decode cX6_bestSet 1 = .ok (.getfield 15, 3) := by decide +kernel
theorem dX6_bestSet_4 : decode cX6_bestSet 4 = .ok (.getfield 38, 3) := by decide +kernel
theorem dX6_bestSet_7 : decode cX6_bestSet 7 = .ok (.getfield 97, 3) := by decide +kernel
theorem dX6_bestSet_10 : decode cX6_bestSet 10 = .ok (.aload_n 0, 1) := by decide +kernel
theorem dX6_bestSet_11 : decode cX6_bestSet 11 = .ok (.getfield 15, 3) := by decide +kernel
theorem dX6_bestSet_14 : decode cX6_bestSet 14 = .ok (.getfield 38, 3) := by decide +kernel
theorem dX6_bestSet_17 : decode cX6_bestSet 17 = .ok (.iconst 3, 1) := by decide +kernel
theorem dX6_bestSet_18 : decode cX6_bestSet 18 = .ok (.iload_n 1, 1) := by decide +kernel
theorem dX6_bestSet_19 : decode cX6_bestSet 19 = .ok (.isub, 1) := by decide +kernel
theorem dX6_bestSet_20 : decode cX6_bestSet 20 = .ok (.invokevirtual 174, 3) := by decide +kernel
theorem dX6_bestSet_23 : decode cX6_bestSet 23 = .ok (.iconst (-1), 1) := by decide +kernel
theorem dX6_bestSet_24 : decode cX6_bestSet 24 = .ok (.ixor, 1) := by decide +kernel
theorem dX6_bestSet_25 : decode cX6_bestSet 25 = .ok (.iand, 1) := by decide +kernel
theorem dX6_bestSet_26 : decode cX6_bestSet 26 = .ok (.istore_n 3, 1) := by decide +kernel
theorem dX6_bestSet_27 : decode cX6_bestSet 27 = .ok (.iconst 1, 1) := by decide +kernel
theorem dX6_bestSet_28 : decode cX6_bestSet 28 = .ok (.iload_n 3, 1) := by decide +kernel
theorem dX6_bestSet_29 : decode cX6_bestSet 29 = .ok (.invokestatic 177, 3) := by decide +kernel
theorem dX6_bestSet_32 : decode cX6_bestSet 32 = .ok (.ishl, 1) := by decide +kernel
theorem dX6_bestSet_33 : decode cX6_bestSet 33 = .ok (.istore 4, 2) := by decide +kernel
theorem dX6_bestSet_35 : decode cX6_bestSet 35 = .ok (.aload_n 0, 1) := by decide +kernel
theorem dX6_bestSet_36 : decode cX6_bestSet 36 = .ok (.iload_n 1, 1) := by decide +kernel
theorem dX6_bestSet_37 : decode cX6_bestSet 37 = .ok (.iconst 2, 1) := by decide +kernel
theorem dX6_bestSet_38 : decode cX6_bestSet 38 = .ok (.invokevirtual 171, 3) := by decide +kernel
theorem dX6_bestSet_41 : decode cX6_bestSet 41 = .ok (.aload_n 0, 1) := by decide +kernel
theorem dX6_bestSet_42 : decode cX6_bestSet 42 = .ok (.iload_n 1, 1) := by decide +kernel
theorem dX6_bestSet_43 : decode cX6_bestSet 43 = .ok (.iconst 1, 1) := by decide +kernel
theorem dX6_bestSet_44 : decode cX6_bestSet 44 = .ok (.invokevirtual 171, 3) := by decide +kernel
theorem dX6_bestSet_47 : decode cX6_bestSet 47 = .ok (.if_icmp .le 7, 3) := by decide +kernel
theorem dX6_bestSet_50 : decode cX6_bestSet 50 = .ok (.iconst (-1), 1) := by decide +kernel
theorem dX6_bestSet_51 : decode cX6_bestSet 51 = .ok (.goto 4, 3) := by decide +kernel
theorem dX6_bestSet_54 : decode cX6_bestSet 54 = .ok (.iconst 1, 1) := by decide +kernel
theorem dX6_bestSet_55 : decode cX6_bestSet 55 = .ok (.istore 5, 2) := by decide +kernel
theorem dX6_bestSet_57 : decode cX6_bestSet 57 = .ok (.iconst (-1), 1) := by decide +kernel
theorem dX6_bestSet_58 : decode cX6_bestSet 58 = .ok (.istore 6, 2) := by decide +kernel
theorem dX6_bestSet_60 : decode cX6_bestSet 60 = .ok (.iconst 0, 1) := by decide +kernel
theorem dX6_bestSet_61 : decode cX6_bestSet 61 = .ok (.istore 7, 2) := by decide +kernel
theorem dX6_bestSet_63 : decode cX6_bestSet 63 = .ok (.iconst 1, 1) := by decide +kernel
theorem dX6_bestSet_64 : decode cX6_bestSet 64 = .ok (.iload_n 2, 1) := by decide +kernel
theorem dX6_bestSet_65 : decode cX6_bestSet 65 = .ok (.ishl, 1) := by decide +kernel
theorem dX6_bestSet_66 : decode cX6_bestSet 66 = .ok (.iconst 1, 1) := by decide +kernel
theorem dX6_bestSet_67 : decode cX6_bestSet 67 = .ok (.isub, 1) := by decide +kernel
theorem dX6_bestSet_68 : decode cX6_bestSet 68 = .ok (.istore 8, 2) := by decide +kernel
theorem dX6_bestSet_70 : decode cX6_bestSet 70 = .ok (.iconst 0, 1) := by decide +kernel
theorem dX6_bestSet_71 : decode cX6_bestSet 71 = .ok (.istore 9, 2) := by decide +kernel
theorem dX6_bestSet_73 : decode cX6_bestSet 73 = .ok (.iload 9, 2) := by decide +kernel
theorem dX6_bestSet_75 : decode cX6_bestSet 75 = .ok (.sipush 3000, 3) := by decide +kernel
theorem dX6_bestSet_78 : decode cX6_bestSet 78 = .ok (.if_icmp .ge 64, 3) := by decide +kernel
theorem dX6_bestSet_81 : decode cX6_bestSet 81 = .ok (.iload 8, 2) := by decide +kernel
theorem dX6_bestSet_83 : decode cX6_bestSet 83 = .ok (.iload 4, 2) := by decide +kernel
theorem dX6_bestSet_85 : decode cX6_bestSet 85 = .ok (.if_icmp .ge 57, 3) := by decide +kernel
theorem dX6_bestSet_88 : decode cX6_bestSet 88 = .ok (.iload 8, 2) := by decide +kernel
theorem dX6_bestSet_90 : decode cX6_bestSet 90 = .ok (.iload_n 3, 1) := by decide +kernel
theorem dX6_bestSet_91 : decode cX6_bestSet 91 = .ok (.invokestatic 292, 3) := by decide +kernel
theorem dX6_bestSet_94 : decode cX6_bestSet 94 = .ok (.istore 10, 2) := by decide +kernel
theorem dX6_bestSet_96 : decode cX6_bestSet 96 = .ok (.iload 5, 2) := by decide +kernel
theorem dX6_bestSet_98 : decode cX6_bestSet 98 = .ok (.aload_n 0, 1) := by decide +kernel
theorem dX6_bestSet_99 : decode cX6_bestSet 99 = .ok (.iload_n 1, 1) := by decide +kernel
theorem dX6_bestSet_100 : decode cX6_bestSet 100 = .ok (.iload 10, 2) := by decide +kernel
theorem dX6_bestSet_102 : decode cX6_bestSet 102 = .ok (.invokevirtual 192, 3) := by decide +kernel
theorem dX6_bestSet_105 : decode cX6_bestSet 105 = .ok (.imul, 1) := by decide +kernel
theorem dX6_bestSet_106 : decode cX6_bestSet 106 = .ok (.istore 11, 2) := by decide +kernel
theorem dX6_bestSet_108 : decode cX6_bestSet 108 = .ok (.iload 6, 2) := by decide +kernel
theorem dX6_bestSet_110 : decode cX6_bestSet 110 = .ok (.iconst (-1), 1) := by decide +kernel
theorem dX6_bestSet_111 : decode cX6_bestSet 111 = .ok (.if_icmp .eq 10, 3) := by decide +kernel
theorem dX6_bestSet_114 : decode cX6_bestSet 114 = .ok (.iload 11, 2) := by decide +kernel
theorem dX6_bestSet_116 : decode cX6_bestSet 116 = .ok (.iload 7, 2) := by decide +kernel
theorem dX6_bestSet_118 : decode cX6_bestSet 118 = .ok (.if_icmp .le 11, 3) := by decide +kernel
theorem dX6_bestSet_121 : decode cX6_bestSet 121 = .ok (.iload 10, 2) := by decide +kernel
theorem dX6_bestSet_123 : decode cX6_bestSet 123 = .ok (.istore 6, 2) := by decide +kernel
theorem dX6_bestSet_125 : decode cX6_bestSet 125 = .ok (.iload 11, 2) := by decide +kernel
theorem dX6_bestSet_127 : decode cX6_bestSet 127 = .ok (.istore 7, 2) := by decide +kernel
theorem dX6_bestSet_129 : decode cX6_bestSet 129 = .ok (.iload 8, 2) := by decide +kernel
theorem dX6_bestSet_131 : decode cX6_bestSet 131 = .ok (.invokestatic 295, 3) := by decide +kernel
theorem dX6_bestSet_134 : decode cX6_bestSet 134 = .ok (.istore 8, 2) := by decide +kernel
theorem dX6_bestSet_136 : decode cX6_bestSet 136 = .ok (.iinc 9 1, 3) := by decide +kernel
theorem dX6_bestSet_139 : decode cX6_bestSet 139 = .ok (.goto (-66), 3) := by decide +kernel
theorem dX6_bestSet_142 : decode cX6_bestSet 142 = .ok (.iload 6, 2) := by decide +kernel
theorem dX6_bestSet_144 : decode cX6_bestSet 144 = .ok (.ireturn, 1) := by decide +kernel
theorem dX6_leastBeginners_0 : decode cX6_leastBeginners 0 = .ok (.aload_n 0, 1) := by decide +kernel
theorem dX6_leastBeginners_1 : decode cX6_leastBeginners 1 = .ok (.getfield 15, 3) := by decide +kernel
theorem dX6_leastBeginners_4 : decode cX6_leastBeginners 4 = .ok (.getfield 38, 3) := by decide +kernel
theorem dX6_leastBeginners_7 : decode cX6_leastBeginners 7 = .ok (.getfield 97, 3) := by decide +kernel
theorem dX6_leastBeginners_10 : decode cX6_leastBeginners 10 = .ok (.istore_n 2, 1) := by decide +kernel
theorem dX6_leastBeginners_11 : decode cX6_leastBeginners 11 = .ok (.iconst 1, 1) := by decide +kernel
theorem dX6_leastBeginners_12 : decode cX6_leastBeginners 12 = .ok (.iload_n 2, 1) := by decide +kernel
theorem dX6_leastBeginners_13 : decode cX6_leastBeginners 13 = .ok (.invokestatic 177, 3) := by decide +kernel
theorem dX6_leastBeginners_16 : decode cX6_leastBeginners 16 = .ok (.ishl, 1) := by decide +kernel
theorem dX6_leastBeginners_17 : decode cX6_leastBeginners 17 = .ok (.istore_n 3, 1) := by decide +kernel
theorem dX6_leastBeginners_18 : decode cX6_leastBeginners 18 = .ok (.iconst 1, 1) := by decide +kernel
theorem dX6_leastBeginners_19 : decode cX6_leastBeginners 19 = .ok (.iload_n 1, 1) := by decide +kernel
theorem dX6_leastBeginners_20 : decode cX6_leastBeginners 20 = .ok (.ishl, 1) := by decide +kernel
theorem dX6_leastBeginners_21 : decode cX6_leastBeginners 21 = .ok (.iconst 1, 1) := by decide +kernel
theorem dX6_leastBeginners_22 : decode cX6_leastBeginners 22 = .ok (.isub, 1) := by decide +kernel
theorem dX6_leastBeginners_23 : decode cX6_leastBeginners 23 = .ok (.istore 4, 2) := by decide +kernel
theorem dX6_leastBeginners_25 : decode cX6_leastBeginners 25 = .ok (.iconst 0, 1) := by decide +kernel
theorem dX6_leastBeginners_26 : decode cX6_leastBeginners 26 = .ok (.istore 5, 2) := by decide +kernel
theorem dX6_leastBeginners_28 : decode cX6_leastBeginners 28 = .ok (.iload 5, 2) := by decide +kernel
theorem dX6_leastBeginners_30 : decode cX6_leastBeginners 30 = .ok (.sipush 3000, 3) := by decide +kernel
theorem dX6_leastBeginners_33 : decode cX6_leastBeginners 33 = .ok (.if_icmp .ge 63, 3) := by decide +kernel
theorem dX6_leastBeginners_36 : decode cX6_leastBeginners 36 = .ok (.iload 4, 2) := by decide +kernel
theorem dX6_leastBeginners_38 : decode cX6_leastBeginners 38 = .ok (.iload_n 3, 1) := by decide +kernel
theorem dX6_leastBeginners_39 : decode cX6_leastBeginners 39 = .ok (.if_icmp .ge 57, 3) := by decide +kernel
theorem dX6_leastBeginners_42 : decode cX6_leastBeginners 42 = .ok (.iload 4, 2) := by decide +kernel
theorem dX6_leastBeginners_44 : decode cX6_leastBeginners 44 = .ok (.iload_n 2, 1) := by decide +kernel
theorem dX6_leastBeginners_45 : decode cX6_leastBeginners 45 = .ok (.invokestatic 292, 3) := by decide +kernel
theorem dX6_leastBeginners_48 : decode cX6_leastBeginners 48 = .ok (.istore 6, 2) := by decide +kernel
theorem dX6_leastBeginners_50 : decode cX6_leastBeginners 50 = .ok (.aload_n 0, 1) := by decide +kernel
theorem dX6_leastBeginners_51 : decode cX6_leastBeginners 51 = .ok (.iload 6, 2) := by decide +kernel
theorem dX6_leastBeginners_53 : decode cX6_leastBeginners 53 = .ok (.invokevirtual 198, 3) := by decide +kernel
theorem dX6_leastBeginners_56 : decode cX6_leastBeginners 56 = .ok (.aload_n 0, 1) := by decide +kernel
theorem dX6_leastBeginners_57 : decode cX6_leastBeginners 57 = .ok (.getfield 25, 3) := by decide +kernel
theorem dX6_leastBeginners_60 : decode cX6_leastBeginners 60 = .ok (.aload_n 0, 1) := by decide +kernel
theorem dX6_leastBeginners_61 : decode cX6_leastBeginners 61 = .ok (.getfield 25, 3) := by decide +kernel
theorem dX6_leastBeginners_64 : decode cX6_leastBeginners 64 = .ok (.getfield 21, 3) := by decide +kernel
theorem dX6_leastBeginners_67 : decode cX6_leastBeginners 67 = .ok (.getfield 124, 3) := by decide +kernel
theorem dX6_leastBeginners_70 : decode cX6_leastBeginners 70 = .ok (.iconst 1, 1) := by decide +kernel
theorem dX6_leastBeginners_71 : decode cX6_leastBeginners 71 = .ok (.isub, 1) := by decide +kernel
theorem dX6_leastBeginners_72 : decode cX6_leastBeginners 72 = .ok (.iconst 1, 1) := by decide +kernel
theorem dX6_leastBeginners_73 : decode cX6_leastBeginners 73 = .ok (.invokevirtual 289, 3) := by decide +kernel
theorem dX6_leastBeginners_76 : decode cX6_leastBeginners 76 = .ok (.iload_n 2, 1) := by decide +kernel
theorem dX6_leastBeginners_77 : decode cX6_leastBeginners 77 = .ok (.if_icmp .ne 6, 3) := by decide +kernel
theorem dX6_leastBeginners_80 : decode cX6_leastBeginners 80 = .ok (.iload 6, 2) := by decide +kernel
theorem dX6_leastBeginners_82 : decode cX6_leastBeginners 82 = .ok (.ireturn, 1) := by decide +kernel
theorem dX6_leastBeginners_83 : decode cX6_leastBeginners 83 = .ok (.iload 4, 2) := by decide +kernel
theorem dX6_leastBeginners_85 : decode cX6_leastBeginners 85 = .ok (.invokestatic 295, 3) := by decide +kernel
theorem dX6_leastBeginners_88 : decode cX6_leastBeginners 88 = .ok (.istore 4, 2) := by decide +kernel
theorem dX6_leastBeginners_90 : decode cX6_leastBeginners 90 = .ok (.iinc 5 1, 3) := by decide +kernel
theorem dX6_leastBeginners_93 : decode cX6_leastBeginners 93 = .ok (.goto (-65), 3) := by decide +kernel
theorem dX6_leastBeginners_96 : decode cX6_leastBeginners 96 = .ok (.iconst (-1), 1) := by decide +kernel
theorem dX6_leastBeginners_97 : decode cX6_leastBeginners 97 = .ok (.ireturn, 1) := by decide +kernel
theorem dX6_nextPicks_0 : decode cX6_nextPicks 0 = .ok (.iload_n 0, 1) := by decide +kernel
theorem dX6_nextPicks_1 : decode cX6_nextPicks 1 = .ok (.ifCond .ne 7, 3) := by decide +kernel
theorem dX6_nextPicks_4 : decode cX6_nextPicks 4 = .ok (.ldc_w 298, 3) := by decide +kernel
theorem dX6_nextPicks_7 : decode cX6_nextPicks 7 = .ok (.ireturn, 1) := by decide +kernel
theorem dX6_nextPicks_8 : decode cX6_nextPicks 8 = .ok (.iload_n 0, 1) := by decide +kernel
theorem dX6_nextPicks_9 : decode cX6_nextPicks 9 = .ok (.iload_n 0, 1) := by decide +kernel
theorem dX6_nextPicks_10 : decode cX6_nextPicks 10 = .ok (.ineg, 1) := by decide +kernel
theorem dX6_nextPicks_11 : decode cX6_nextPicks 11 = .ok (.iand, 1) := by decide +kernel
theorem dX6_nextPicks_12 : decode cX6_nextPicks 12 = .ok (.istore_n 1, 1) := by decide +kernel
theorem dX6_nextPicks_13 : decode cX6_nextPicks 13 = .ok (.iload_n 0, 1) := by decide +kernel
theorem dX6_nextPicks_14 : decode cX6_nextPicks 14 = .ok (.iload_n 1, 1) := by decide +kernel
theorem dX6_nextPicks_15 : decode cX6_nextPicks 15 = .ok (.iadd, 1) := by decide +kernel
theorem dX6_nextPicks_16 : decode cX6_nextPicks 16 = .ok (.istore_n 2, 1) := by decide +kernel
theorem dX6_nextPicks_17 : decode cX6_nextPicks 17 = .ok (.iload_n 1, 1) := by decide +kernel
theorem dX6_nextPicks_18 : decode cX6_nextPicks 18 = .ok (.iconst 1, 1) := by decide +kernel
theorem dX6_nextPicks_19 : decode cX6_nextPicks 19 = .ok (.isub, 1) := by decide +kernel
theorem dX6_nextPicks_20 : decode cX6_nextPicks 20 = .ok (.invokestatic 177, 3) := by decide +kernel
theorem dX6_nextPicks_23 : decode cX6_nextPicks 23 = .ok (.istore_n 3, 1) := by decide +kernel
theorem dX6_nextPicks_24 : decode cX6_nextPicks 24 = .ok (.iload_n 2, 1) := by decide +kernel
theorem dX6_nextPicks_25 : decode cX6_nextPicks 25 = .ok (.iload_n 0, 1) := by decide +kernel
theorem dX6_nextPicks_26 : decode cX6_nextPicks 26 = .ok (.iload_n 2, 1) := by decide +kernel
theorem dX6_nextPicks_27 : decode cX6_nextPicks 27 = .ok (.ixor, 1) := by decide +kernel
theorem dX6_nextPicks_28 : decode cX6_nextPicks 28 = .ok (.iload_n 3, 1) := by decide +kernel
theorem dX6_nextPicks_29 : decode cX6_nextPicks 29 = .ok (.iconst 2, 1) := by decide +kernel
theorem dX6_nextPicks_30 : decode cX6_nextPicks 30 = .ok (.iadd, 1) := by decide +kernel
theorem dX6_nextPicks_31 : decode cX6_nextPicks 31 = .ok (.ishr, 1) := by decide +kernel
theorem dX6_nextPicks_32 : decode cX6_nextPicks 32 = .ok (.ior, 1) := by decide +kernel
theorem dX6_nextPicks_33 : decode cX6_nextPicks 33 = .ok (.ireturn, 1) := by decide +kernel
theorem dX6_spread_0 : decode cX6_spread 0 = .ok (.iconst 0, 1) := by decide +kernel
theorem dX6_spread_1 : decode cX6_spread 1 = .ok (.istore_n 2, 1) := by decide +kernel
theorem dX6_spread_2 : decode cX6_spread 2 = .ok (.iconst 0, 1) := by decide +kernel
theorem dX6_spread_3 : decode cX6_spread 3 = .ok (.istore_n 3, 1) := by decide +kernel
theorem dX6_spread_4 : decode cX6_spread 4 = .ok (.iconst 0, 1) := by decide +kernel
theorem dX6_spread_5 : decode cX6_spread 5 = .ok (.istore 4, 2) := by decide +kernel
theorem dX6_spread_7 : decode cX6_spread 7 = .ok (.iload 4, 2) := by decide +kernel
theorem dX6_spread_9 : decode cX6_spread 9 = .ok (.bipush 24, 2) := by decide +kernel
theorem dX6_spread_11 : decode cX6_spread 11 = .ok (.if_icmp .ge 39, 3) := by decide +kernel
theorem dX6_spread_14 : decode cX6_spread 14 = .ok (.iload_n 1, 1) := by decide +kernel
theorem dX6_spread_15 : decode cX6_spread 15 = .ok (.iload 4, 2) := by decide +kernel
theorem dX6_spread_17 : decode cX6_spread 17 = .ok (.ishr, 1) := by decide +kernel
theorem dX6_spread_18 : decode cX6_spread 18 = .ok (.iconst 1, 1) := by decide +kernel
theorem dX6_spread_19 : decode cX6_spread 19 = .ok (.iand, 1) := by decide +kernel
theorem dX6_spread_20 : decode cX6_spread 20 = .ok (.ifCond .ne 6, 3) := by decide +kernel
theorem dX6_spread_23 : decode cX6_spread 23 = .ok (.goto 21, 3) := by decide +kernel
theorem dX6_spread_26 : decode cX6_spread 26 = .ok (.iload_n 0, 1) := by decide +kernel
theorem dX6_spread_27 : decode cX6_spread 27 = .ok (.iload_n 3, 1) := by decide +kernel
theorem dX6_spread_28 : decode cX6_spread 28 = .ok (.ishr, 1) := by decide +kernel
theorem dX6_spread_29 : decode cX6_spread 29 = .ok (.iconst 1, 1) := by decide +kernel
theorem dX6_spread_30 : decode cX6_spread 30 = .ok (.iand, 1) := by decide +kernel
theorem dX6_spread_31 : decode cX6_spread 31 = .ok (.ifCond .eq 10, 3) := by decide +kernel
theorem dX6_spread_34 : decode cX6_spread 34 = .ok (.iload_n 2, 1) := by decide +kernel
theorem dX6_spread_35 : decode cX6_spread 35 = .ok (.iconst 1, 1) := by decide +kernel
theorem dX6_spread_36 : decode cX6_spread 36 = .ok (.iload 4, 2) := by decide +kernel
theorem dX6_spread_38 : decode cX6_spread 38 = .ok (.ishl, 1) := by decide +kernel
theorem dX6_spread_39 : decode cX6_spread 39 = .ok (.ior, 1) := by decide +kernel
theorem dX6_spread_40 : decode cX6_spread 40 = .ok (.istore_n 2, 1) := by decide +kernel
theorem dX6_spread_41 : decode cX6_spread 41 = .ok (.iinc 3 1, 3) := by decide +kernel
theorem dX6_spread_44 : decode cX6_spread 44 = .ok (.iinc 4 1, 3) := by decide +kernel
theorem dX6_spread_47 : decode cX6_spread 47 = .ok (.goto (-40), 3) := by decide +kernel
theorem dX6_spread_50 : decode cX6_spread 50 = .ok (.iload_n 2, 1) := by decide +kernel
theorem dX6_spread_51 : decode cX6_spread 51 = .ok (.ireturn, 1) := by decide +kernel
theorem dX6_atRest_0 : decode cX6_atRest 0 = .ok (.aload_n 0, 1) := by decide +kernel
theorem dX6_atRest_1 : decode cX6_atRest 1 = .ok (.getfield 87, 3) := by decide +kernel
theorem dX6_atRest_4 : decode cX6_atRest 4 = .ok (.iload_n 1, 1) := by decide +kernel
theorem dX6_atRest_5 : decode cX6_atRest 5 = .ok (.iload_n 2, 1) := by decide +kernel
theorem dX6_atRest_6 : decode cX6_atRest 6 = .ok (.invokestatic 299, 3) := by decide +kernel
theorem dX6_atRest_9 : decode cX6_atRest 9 = .ok (.istore 4, 2) := by decide +kernel
theorem dX6_atRest_11 : decode cX6_atRest 11 = .ok (.aload_n 0, 1) := by decide +kernel
theorem dX6_atRest_12 : decode cX6_atRest 12 = .ok (.getfield 90, 3) := by decide +kernel
theorem dX6_atRest_15 : decode cX6_atRest 15 = .ok (.iload_n 1, 1) := by decide +kernel
theorem dX6_atRest_16 : decode cX6_atRest 16 = .ok (.iload_n 2, 1) := by decide +kernel
theorem dX6_atRest_17 : decode cX6_atRest 17 = .ok (.invokestatic 299, 3) := by decide +kernel
theorem dX6_atRest_20 : decode cX6_atRest 20 = .ok (.istore 5, 2) := by decide +kernel
theorem dX6_atRest_22 : decode cX6_atRest 22 = .ok (.iconst 0, 1) := by decide +kernel
theorem dX6_atRest_23 : decode cX6_atRest 23 = .ok (.istore 6, 2) := by decide +kernel
theorem dX6_atRest_25 : decode cX6_atRest 25 = .ok (.iload 6, 2) := by decide +kernel
theorem dX6_atRest_27 : decode cX6_atRest 27 = .ok (.iload_n 3, 1) := by decide +kernel
theorem dX6_atRest_28 : decode cX6_atRest 28 = .ok (.if_icmp .ge 41, 3) := by decide +kernel
theorem dX6_atRest_31 : decode cX6_atRest 31 = .ok (.aload_n 0, 1) := by decide +kernel
theorem dX6_atRest_32 : decode cX6_atRest 32 = .ok (.getfield 87, 3) := by decide +kernel
theorem dX6_atRest_35 : decode cX6_atRest 35 = .ok (.iload 6, 2) := by decide +kernel
theorem dX6_atRest_37 : decode cX6_atRest 37 = .ok (.iload_n 2, 1) := by decide +kernel
theorem dX6_atRest_38 : decode cX6_atRest 38 = .ok (.invokestatic 299, 3) := by decide +kernel
theorem dX6_atRest_41 : decode cX6_atRest 41 = .ok (.iload 4, 2) := by decide +kernel
theorem dX6_atRest_43 : decode cX6_atRest 43 = .ok (.if_icmp .gt 18, 3) := by decide +kernel
theorem dX6_atRest_46 : decode cX6_atRest 46 = .ok (.aload_n 0, 1) := by decide +kernel
theorem dX6_atRest_47 : decode cX6_atRest 47 = .ok (.getfield 90, 3) := by decide +kernel
theorem dX6_atRest_50 : decode cX6_atRest 50 = .ok (.iload_n 1, 1) := by decide +kernel
theorem dX6_atRest_51 : decode cX6_atRest 51 = .ok (.iload 6, 2) := by decide +kernel
theorem dX6_atRest_53 : decode cX6_atRest 53 = .ok (.invokestatic 299, 3) := by decide +kernel
theorem dX6_atRest_56 : decode cX6_atRest 56 = .ok (.iload 5, 2) := by decide +kernel
theorem dX6_atRest_58 : decode cX6_atRest 58 = .ok (.if_icmp .le 5, 3) := by decide +kernel
theorem dX6_atRest_61 : decode cX6_atRest 61 = .ok (.iconst 0, 1) := by decide +kernel
theorem dX6_atRest_62 : decode cX6_atRest 62 = .ok (.ireturn, 1) := by decide +kernel
theorem dX6_atRest_63 : decode cX6_atRest 63 = .ok (.iinc 6 1, 3) := by decide +kernel
theorem dX6_atRest_66 : decode cX6_atRest 66 = .ok (.goto (-41), 3) := by decide +kernel
theorem dX6_atRest_69 : decode cX6_atRest 69 = .ok (.iconst 1, 1) := by decide +kernel
theorem dX6_atRest_70 : decode cX6_atRest 70 = .ok (.ireturn, 1) := by decide +kernel
theorem dX6_sumAt_0 : decode cX6_sumAt 0 = .ok (.iconst 5, 1) := by decide +kernel
theorem dX6_sumAt_1 : decode cX6_sumAt 1 = .ok (.iload_n 1, 1) := by decide +kernel
theorem dX6_sumAt_2 : decode cX6_sumAt 2 = .ok (.imul, 1) := by decide +kernel
theorem dX6_sumAt_3 : decode cX6_sumAt 3 = .ok (.iload_n 2, 1) := by decide +kernel
theorem dX6_sumAt_4 : decode cX6_sumAt 4 = .ok (.iadd, 1) := by decide +kernel
theorem dX6_sumAt_5 : decode cX6_sumAt 5 = .ok (.istore_n 3, 1) := by decide +kernel
theorem dX6_sumAt_6 : decode cX6_sumAt 6 = .ok (.iload_n 3, 1) := by decide +kernel
theorem dX6_sumAt_7 : decode cX6_sumAt 7 = .ok (.ifCond .lt 15, 3) := by decide +kernel
theorem dX6_sumAt_10 : decode cX6_sumAt 10 = .ok (.iload_n 3, 1) := by decide +kernel
theorem dX6_sumAt_11 : decode cX6_sumAt 11 = .ok (.aload_n 0, 1) := by decide +kernel
theorem dX6_sumAt_12 : decode cX6_sumAt 12 = .ok (.arraylength, 1) := by decide +kernel
theorem dX6_sumAt_13 : decode cX6_sumAt 13 = .ok (.if_icmp .ge 9, 3) := by decide +kernel
theorem dX6_sumAt_16 : decode cX6_sumAt 16 = .ok (.aload_n 0, 1) := by decide +kernel
theorem dX6_sumAt_17 : decode cX6_sumAt 17 = .ok (.iload_n 3, 1) := by decide +kernel
theorem dX6_sumAt_18 : decode cX6_sumAt 18 = .ok (.iaload, 1) := by decide +kernel
theorem dX6_sumAt_19 : decode cX6_sumAt 19 = .ok (.goto 4, 3) := by decide +kernel
theorem dX6_sumAt_22 : decode cX6_sumAt 22 = .ok (.iconst 0, 1) := by decide +kernel
theorem dX6_sumAt_23 : decode cX6_sumAt 23 = .ok (.ireturn, 1) := by decide +kernel
theorem dX6_goTogether_0 : decode cX6_goTogether 0 = .ok (.aload_n 0, 1) := by decide +kernel
theorem dX6_goTogether_1 : decode cX6_goTogether 1 = .ok (.getfield 168, 3) := by decide +kernel
theorem dX6_goTogether_4 : decode cX6_goTogether 4 = .ok (.aload_n 1, 1) := by decide +kernel
theorem dX6_goTogether_5 : decode cX6_goTogether 5 = .ok (.getfield 168, 3) := by decide +kernel
theorem dX6_goTogether_8 : decode cX6_goTogether 8 = .ok (.invokestatic 303, 3) := by decide +kernel
theorem dX6_goTogether_11 : decode cX6_goTogether 11 = .ok (.aload_n 0, 1) := by decide +kernel
theorem dX6_goTogether_12 : decode cX6_goTogether 12 = .ok (.getfield 21, 3) := by decide +kernel
theorem dX6_goTogether_15 : decode cX6_goTogether 15 = .ok (.invokevirtual 306, 3) := by decide +kernel
theorem dX6_goTogether_18 : decode cX6_goTogether 18 = .ok (.aload_n 1, 1) := by decide +kernel
theorem dX6_goTogether_19 : decode cX6_goTogether 19 = .ok (.getfield 21, 3) := by decide +kernel
theorem dX6_goTogether_22 : decode cX6_goTogether 22 = .ok (.invokevirtual 306, 3) := by decide +kernel
theorem dX6_goTogether_25 : decode cX6_goTogether 25 = .ok (.invokestatic 303, 3) := by decide +kernel
theorem dX6_goTogether_28 : decode cX6_goTogether 28 = .ok (.imul, 1) := by decide +kernel
theorem dX6_goTogether_29 : decode cX6_goTogether 29 = .ok (.ireturn, 1) := by decide +kernel
theorem dX6_strays_0 : decode cX6_strays 0 = .ok (.iconst 0, 1) := by decide +kernel
theorem dX6_strays_1 : decode cX6_strays 1 = .ok (.istore_n 2, 1) := by decide +kernel
theorem dX6_strays_2 : decode cX6_strays 2 = .ok (.iconst 0, 1) := by decide +kernel
theorem dX6_strays_3 : decode cX6_strays 3 = .ok (.istore_n 3, 1) := by decide +kernel
theorem dX6_strays_4 : decode cX6_strays 4 = .ok (.iload_n 3, 1) := by decide +kernel
theorem dX6_strays_5 : decode cX6_strays 5 = .ok (.aload_n 0, 1) := by decide +kernel
theorem dX6_strays_6 : decode cX6_strays 6 = .ok (.getfield 211, 3) := by decide +kernel
theorem dX6_strays_9 : decode cX6_strays 9 = .ok (.if_icmp .ge 32, 3) := by decide +kernel
theorem dX6_strays_12 : decode cX6_strays 12 = .ok (.iload_n 3, 1) := by decide +kernel
theorem dX6_strays_13 : decode cX6_strays 13 = .ok (.aload_n 0, 1) := by decide +kernel
theorem dX6_strays_14 : decode cX6_strays 14 = .ok (.getfield 32, 3) := by decide +kernel
theorem dX6_strays_17 : decode cX6_strays 17 = .ok (.arraylength, 1) := by decide +kernel
theorem dX6_strays_18 : decode cX6_strays 18 = .ok (.if_icmp .ge 23, 3) := by decide +kernel
theorem dX6_strays_21 : decode cX6_strays 21 = .ok (.iload_n 2, 1) := by decide +kernel
theorem dX6_strays_22 : decode cX6_strays 22 = .ok (.aload_n 0, 1) := by decide +kernel
theorem dX6_strays_23 : decode cX6_strays 23 = .ok (.aload_n 0, 1) := by decide +kernel
theorem dX6_strays_24 : decode cX6_strays 24 = .ok (.getfield 32, 3) := by decide +kernel
theorem dX6_strays_27 : decode cX6_strays 27 = .ok (.iload_n 3, 1) := by decide +kernel
theorem dX6_strays_28 : decode cX6_strays 28 = .ok (.aaload, 1) := by decide +kernel
theorem dX6_strays_29 : decode cX6_strays 29 = .ok (.iload_n 1, 1) := by decide +kernel
theorem dX6_strays_30 : decode cX6_strays 30 = .ok (.invokevirtual 309, 3) := by decide +kernel
theorem dX6_strays_33 : decode cX6_strays 33 = .ok (.iadd, 1) := by decide +kernel
theorem dX6_strays_34 : decode cX6_strays 34 = .ok (.istore_n 2, 1) := by decide +kernel
theorem dX6_strays_35 : decode cX6_strays 35 = .ok (.iinc 3 1, 3) := by decide +kernel
theorem dX6_strays_38 : decode cX6_strays 38 = .ok (.goto (-34), 3) := by decide +kernel
theorem dX6_strays_41 : decode cX6_strays 41 = .ok (.iload_n 2, 1) := by decide +kernel
theorem dX6_strays_42 : decode cX6_strays 42 = .ok (.ireturn, 1) := by decide +kernel
theorem dX6_straysIn_0 : decode cX6_straysIn 0 = .ok (.aload_n 1, 1) := by decide +kernel
theorem dX6_straysIn_1 : decode cX6_straysIn 1 = .ok (.getfield 38, 3) := by decide +kernel
theorem dX6_straysIn_4 : decode cX6_straysIn 4 = .ok (.iload_n 2, 1) := by decide +kernel
theorem dX6_straysIn_5 : decode cX6_straysIn 5 = .ok (.invokevirtual 117, 3) := by decide +kernel
theorem dX6_straysIn_8 : decode cX6_straysIn 8 = .ok (.ifCond .ne 5, 3) := by decide +kernel
theorem dX6_straysIn_11 : decode cX6_straysIn 11 = .ok (.iconst 0, 1) := by decide +kernel
theorem dX6_straysIn_12 : decode cX6_straysIn 12 = .ok (.ireturn, 1) := by decide +kernel
theorem dX6_straysIn_13 : decode cX6_straysIn 13 = .ok (.aload_n 1, 1) := by decide +kernel
theorem dX6_straysIn_14 : decode cX6_straysIn 14 = .ok (.getfield 38, 3) := by decide +kernel
theorem dX6_straysIn_17 : decode cX6_straysIn 17 = .ok (.iload_n 2, 1) := by decide +kernel
theorem dX6_straysIn_18 : decode cX6_straysIn 18 = .ok (.invokevirtual 247, 3) := by decide +kernel
theorem dX6_straysIn_21 : decode cX6_straysIn 21 = .ok (.istore_n 3, 1) := by decide +kernel
theorem dX6_straysIn_22 : decode cX6_straysIn 22 = .ok (.iconst 0, 1) := by decide +kernel
theorem dX6_straysIn_23 : decode cX6_straysIn 23 = .ok (.istore 4, 2) := by decide +kernel
theorem dX6_straysIn_25 : decode cX6_straysIn 25 = .ok (.iconst 0, 1) := by decide +kernel
theorem dX6_straysIn_26 : decode cX6_straysIn 26 = .ok (.istore 5, 2) := by decide +kernel
theorem dX6_straysIn_28 : decode cX6_straysIn 28 = .ok (.iload 5, 2) := by decide +kernel
theorem dX6_straysIn_30 : decode cX6_straysIn 30 = .ok (.aload_n 1, 1) := by decide +kernel
theorem dX6_straysIn_31 : decode cX6_straysIn 31 = .ok (.getfield 21, 3) := by decide +kernel
theorem dX6_straysIn_34 : decode cX6_straysIn 34 = .ok (.getfield 124, 3) := by decide +kernel
theorem dX6_straysIn_37 : decode cX6_straysIn 37 = .ok (.if_icmp .ge 56, 3) := by decide +kernel
theorem dX6_straysIn_40 : decode cX6_straysIn 40 = .ok (.aload_n 0, 1) := by decide +kernel
theorem dX6_straysIn_41 : decode cX6_straysIn 41 = .ok (.getfield 45, 3) := by decide +kernel
theorem dX6_straysIn_44 : decode cX6_straysIn 44 = .ok (.aload_n 1, 1) := by decide +kernel
theorem dX6_straysIn_45 : decode cX6_straysIn 45 = .ok (.iload 5, 2) := by decide +kernel
theorem dX6_straysIn_47 : decode cX6_straysIn 47 = .ok (.aload_n 1, 1) := by decide +kernel
theorem dX6_straysIn_48 : decode cX6_straysIn 48 = .ok (.iload 5, 2) := by decide +kernel
theorem dX6_straysIn_50 : decode cX6_straysIn 50 = .ok (.iconst 1, 1) := by decide +kernel
theorem dX6_straysIn_51 : decode cX6_straysIn 51 = .ok (.isub, 1) := by decide +kernel
theorem dX6_straysIn_52 : decode cX6_straysIn 52 = .ok (.iconst 1, 1) := by decide +kernel
theorem dX6_straysIn_53 : decode cX6_straysIn 53 = .ok (.invokevirtual 289, 3) := by decide +kernel
theorem dX6_straysIn_56 : decode cX6_straysIn 56 = .ok (.aload_n 1, 1) := by decide +kernel
theorem dX6_straysIn_57 : decode cX6_straysIn 57 = .ok (.iload 5, 2) := by decide +kernel
theorem dX6_straysIn_59 : decode cX6_straysIn 59 = .ok (.iconst 1, 1) := by decide +kernel
theorem dX6_straysIn_60 : decode cX6_straysIn 60 = .ok (.isub, 1) := by decide +kernel
theorem dX6_straysIn_61 : decode cX6_straysIn 61 = .ok (.iconst 2, 1) := by decide +kernel
theorem dX6_straysIn_62 : decode cX6_straysIn 62 = .ok (.invokevirtual 289, 3) := by decide +kernel
theorem dX6_straysIn_65 : decode cX6_straysIn 65 = .ok (.invokevirtual 257, 3) := by decide +kernel
theorem dX6_straysIn_68 : decode cX6_straysIn 68 = .ok (.aload_n 0, 1) := by decide +kernel
theorem dX6_straysIn_69 : decode cX6_straysIn 69 = .ok (.iload_n 3, 1) := by decide +kernel
theorem dX6_straysIn_70 : decode cX6_straysIn 70 = .ok (.iload_n 2, 1) := by decide +kernel
theorem dX6_straysIn_71 : decode cX6_straysIn 71 = .ok (.invokevirtual 268, 3) := by decide +kernel
theorem dX6_straysIn_74 : decode cX6_straysIn 74 = .ok (.aload_n 1, 1) := by decide +kernel
theorem dX6_straysIn_75 : decode cX6_straysIn 75 = .ok (.iload_n 2, 1) := by decide +kernel
theorem dX6_straysIn_76 : decode cX6_straysIn 76 = .ok (.iload 5, 2) := by decide +kernel
theorem dX6_straysIn_78 : decode cX6_straysIn 78 = .ok (.invokevirtual 157, 3) := by decide +kernel
theorem dX6_straysIn_81 : decode cX6_straysIn 81 = .ok (.if_icmp .eq 6, 3) := by decide +kernel
theorem dX6_straysIn_84 : decode cX6_straysIn 84 = .ok (.iinc 4 1, 3) := by decide +kernel
theorem dX6_straysIn_87 : decode cX6_straysIn 87 = .ok (.iinc 5 1, 3) := by decide +kernel
theorem dX6_straysIn_90 : decode cX6_straysIn 90 = .ok (.goto (-62), 3) := by decide +kernel
theorem dX6_straysIn_93 : decode cX6_straysIn 93 = .ok (.iload 4, 2) := by decide +kernel
theorem dX6_straysIn_95 : decode cX6_straysIn 95 = .ok (.ireturn, 1) := by decide +kernel
theorem dX6_ways_0 : decode cX6_ways 0 = .ok (.iload_n 1, 1) := by decide +kernel
theorem dX6_ways_1 : decode cX6_ways 1 = .ok (.ifCond .lt 8, 3) := by decide +kernel
theorem dX6_ways_4 : decode cX6_ways 4 = .ok (.iload_n 1, 1) := by decide +kernel
theorem dX6_ways_5 : decode cX6_ways 5 = .ok (.iload_n 0, 1) := by decide +kernel
theorem dX6_ways_6 : decode cX6_ways 6 = .ok (.if_icmp .le 5, 3) := by decide +kernel
theorem dX6_ways_9 : decode cX6_ways 9 = .ok (.lconst 0, 1) := by decide +kernel
theorem dX6_ways_10 : decode cX6_ways 10 = .ok (.lreturn, 1) := by decide +kernel
theorem dX6_ways_11 : decode cX6_ways 11 = .ok (.lconst 1, 1) := by decide +kernel
theorem dX6_ways_12 : decode cX6_ways 12 = .ok (.lstore_n 2, 1) := by decide +kernel
theorem dX6_ways_13 : decode cX6_ways 13 = .ok (.iconst 1, 1) := by decide +kernel
theorem dX6_ways_14 : decode cX6_ways 14 = .ok (.istore 4, 2) := by decide +kernel
theorem dX6_ways_16 : decode cX6_ways 16 = .ok (.iload 4, 2) := by decide +kernel
theorem dX6_ways_18 : decode cX6_ways 18 = .ok (.iload_n 1, 1) := by decide +kernel
theorem dX6_ways_19 : decode cX6_ways 19 = .ok (.if_icmp .gt 23, 3) := by decide +kernel
theorem dX6_ways_22 : decode cX6_ways 22 = .ok (.lload_n 2, 1) := by decide +kernel
theorem dX6_ways_23 : decode cX6_ways 23 = .ok (.iload_n 0, 1) := by decide +kernel
theorem dX6_ways_24 : decode cX6_ways 24 = .ok (.iload_n 1, 1) := by decide +kernel
theorem dX6_ways_25 : decode cX6_ways 25 = .ok (.isub, 1) := by decide +kernel
theorem dX6_ways_26 : decode cX6_ways 26 = .ok (.iload 4, 2) := by decide +kernel
theorem dX6_ways_28 : decode cX6_ways 28 = .ok (.iadd, 1) := by decide +kernel
theorem dX6_ways_29 : decode cX6_ways 29 = .ok (.i2l, 1) := by decide +kernel
theorem dX6_ways_30 : decode cX6_ways 30 = .ok (.lmul, 1) := by decide +kernel
theorem dX6_ways_31 : decode cX6_ways 31 = .ok (.iload 4, 2) := by decide +kernel
theorem dX6_ways_33 : decode cX6_ways 33 = .ok (.i2l, 1) := by decide +kernel
theorem dX6_ways_34 : decode cX6_ways 34 = .ok (.ldiv, 1) := by decide +kernel
theorem dX6_ways_35 : decode cX6_ways 35 = .ok (.lstore_n 2, 1) := by decide +kernel
theorem dX6_ways_36 : decode cX6_ways 36 = .ok (.iinc 4 1, 3) := by decide +kernel
theorem dX6_ways_39 : decode cX6_ways 39 = .ok (.goto (-23), 3) := by decide +kernel
theorem dX6_ways_42 : decode cX6_ways 42 = .ok (.lload_n 2, 1) := by decide +kernel
theorem dX6_ways_43 : decode cX6_ways 43 = .ok (.lreturn, 1) := by decide +kernel
theorem dX6_divisor_0 : decode cX6_divisor 0 = .ok (.lload_n 0, 1) := by decide +kernel
theorem dX6_divisor_1 : decode cX6_divisor 1 = .ok (.lstore 4, 2) := by decide +kernel
theorem dX6_divisor_3 : decode cX6_divisor 3 = .ok (.lload_n 2, 1) := by decide +kernel
theorem dX6_divisor_4 : decode cX6_divisor 4 = .ok (.lstore 6, 2) := by decide +kernel
theorem dX6_divisor_6 : decode cX6_divisor 6 = .ok (.iconst 0, 1) := by decide +kernel
theorem dX6_divisor_7 : decode cX6_divisor 7 = .ok (.istore 8, 2) := by decide +kernel
theorem dX6_divisor_9 : decode cX6_divisor 9 = .ok (.iload 8, 2) := by decide +kernel
theorem dX6_divisor_11 : decode cX6_divisor 11 = .ok (.sipush 200, 3) := by decide +kernel
theorem dX6_divisor_14 : decode cX6_divisor 14 = .ok (.if_icmp .ge 31, 3) := by decide +kernel
theorem dX6_divisor_17 : decode cX6_divisor 17 = .ok (.lload 6, 2) := by decide +kernel
theorem dX6_divisor_19 : decode cX6_divisor 19 = .ok (.lconst 0, 1) := by decide +kernel
theorem dX6_divisor_20 : decode cX6_divisor 20 = .ok (.lcmp, 1) := by decide +kernel
theorem dX6_divisor_21 : decode cX6_divisor 21 = .ok (.ifCond .eq 24, 3) := by decide +kernel
theorem dX6_divisor_24 : decode cX6_divisor 24 = .ok (.lload 4, 2) := by decide +kernel
theorem dX6_divisor_26 : decode cX6_divisor 26 = .ok (.lload 6, 2) := by decide +kernel
theorem dX6_divisor_28 : decode cX6_divisor 28 = .ok (.lrem, 1) := by decide +kernel
theorem dX6_divisor_29 : decode cX6_divisor 29 = .ok (.lstore 9, 2) := by decide +kernel
theorem dX6_divisor_31 : decode cX6_divisor 31 = .ok (.lload 6, 2) := by decide +kernel
theorem dX6_divisor_33 : decode cX6_divisor 33 = .ok (.lstore 4, 2) := by decide +kernel
theorem dX6_divisor_35 : decode cX6_divisor 35 = .ok (.lload 9, 2) := by decide +kernel
theorem dX6_divisor_37 : decode cX6_divisor 37 = .ok (.lstore 6, 2) := by decide +kernel
theorem dX6_divisor_39 : decode cX6_divisor 39 = .ok (.iinc 8 1, 3) := by decide +kernel
theorem dX6_divisor_42 : decode cX6_divisor 42 = .ok (.goto (-33), 3) := by decide +kernel
theorem dX6_divisor_45 : decode cX6_divisor 45 = .ok (.lload 4, 2) := by decide +kernel
theorem dX6_divisor_47 : decode cX6_divisor 47 = .ok (.lreturn, 1) := by decide +kernel
