theorem dX0_init_0 : decode cX0_init 0 = .ok (.aload_n 0, 1) := by decide +kernel
theorem dX0_init_1 : decode cX0_init 1 = .ok (.invokespecial 3, 3) := by decide +kernel
theorem dX0_init_4 : decode cX0_init 4 = .ok (.aload_n 0, 1) := by decide +kernel
theorem dX0_init_5 : decode cX0_init 5 = .ok (.new 9, 3) := by decide +kernel
theorem dX0_init_8 : decode cX0_init 8 = .ok (.dup, 1) := by decide +kernel
theorem dX0_init_9 : decode cX0_init 9 = .ok (.sipush 512, 3) := by decide +kernel
theorem dX0_init_12 : decode cX0_init 12 = .ok (.invokespecial 11, 3) := by decide +kernel
theorem dX0_init_15 : decode cX0_init 15 = .ok (.putfield 14, 3) := by decide +kernel
theorem dX0_init_18 : decode cX0_init 18 = .ok (.return_, 1) := by decide +kernel
theorem dX0_has_0 : decode cX0_has 0 = .ok (.iload_n 1, 1) := by decide +kernel
theorem dX0_has_1 : decode cX0_has 1 = .ok (.ifCond .lt 27, 3) := by decide +kernel
theorem dX0_has_4 : decode cX0_has 4 = .ok (.iload_n 1, 1) := by decide +kernel
theorem dX0_has_5 : decode cX0_has 5 = .ok (.aload_n 0, 1) := by decide +kernel
theorem dX0_has_6 : decode cX0_has 6 = .ok (.getfield 20, 3) := by decide +kernel
theorem dX0_has_9 : decode cX0_has 9 = .ok (.if_icmp .ge 19, 3) := by decide +kernel
theorem dX0_has_12 : decode cX0_has 12 = .ok (.iload_n 2, 1) := by decide +kernel
theorem dX0_has_13 : decode cX0_has 13 = .ok (.ifCond .lt 15, 3) := by decide +kernel
theorem dX0_has_16 : decode cX0_has 16 = .ok (.iload_n 2, 1) := by decide +kernel
theorem dX0_has_17 : decode cX0_has 17 = .ok (.aload_n 0, 1) := by decide +kernel
theorem dX0_has_18 : decode cX0_has 18 = .ok (.getfield 24, 3) := by decide +kernel
theorem dX0_has_21 : decode cX0_has 21 = .ok (.if_icmp .ge 7, 3) := by decide +kernel
theorem dX0_has_24 : decode cX0_has 24 = .ok (.iconst 1, 1) := by decide +kernel
theorem dX0_has_25 : decode cX0_has 25 = .ok (.goto 4, 3) := by decide +kernel
theorem dX0_has_28 : decode cX0_has 28 = .ok (.iconst 0, 1) := by decide +kernel
theorem dX0_has_29 : decode cX0_has 29 = .ok (.ireturn, 1) := by decide +kernel
theorem dX0_placeOf_0 : decode cX0_placeOf 0 = .ok (.iload_n 1, 1) := by decide +kernel
theorem dX0_placeOf_1 : decode cX0_placeOf 1 = .ok (.bipush 8, 2) := by decide +kernel
theorem dX0_placeOf_3 : decode cX0_placeOf 3 = .ok (.imul, 1) := by decide +kernel
theorem dX0_placeOf_4 : decode cX0_placeOf 4 = .ok (.iload_n 2, 1) := by decide +kernel
theorem dX0_placeOf_5 : decode cX0_placeOf 5 = .ok (.iadd, 1) := by decide +kernel
theorem dX0_placeOf_6 : decode cX0_placeOf 6 = .ok (.ireturn, 1) := by decide +kernel
theorem dX0_keep_0 : decode cX0_keep 0 = .ok (.aload_n 0, 1) := by decide +kernel
theorem dX0_keep_1 : decode cX0_keep 1 = .ok (.iload_n 2, 1) := by decide +kernel
theorem dX0_keep_2 : decode cX0_keep 2 = .ok (.bipush 64, 2) := by decide +kernel
theorem dX0_keep_4 : decode cX0_keep 4 = .ok (.invokestatic 27, 3) := by decide +kernel
theorem dX0_keep_7 : decode cX0_keep 7 = .ok (.putfield 20, 3) := by decide +kernel
theorem dX0_keep_10 : decode cX0_keep 10 = .ok (.aload_n 0, 1) := by decide +kernel
theorem dX0_keep_11 : decode cX0_keep 11 = .ok (.iload_n 3, 1) := by decide +kernel
theorem dX0_keep_12 : decode cX0_keep 12 = .ok (.putfield 24, 3) := by decide +kernel
theorem dX0_keep_15 : decode cX0_keep 15 = .ok (.iconst 0, 1) := by decide +kernel
theorem dX0_keep_16 : decode cX0_keep 16 = .ok (.istore 4, 2) := by decide +kernel
theorem dX0_keep_18 : decode cX0_keep 18 = .ok (.iload 4, 2) := by decide +kernel
theorem dX0_keep_20 : decode cX0_keep 20 = .ok (.aload_n 0, 1) := by decide +kernel
theorem dX0_keep_21 : decode cX0_keep 21 = .ok (.getfield 20, 3) := by decide +kernel
theorem dX0_keep_24 : decode cX0_keep 24 = .ok (.if_icmp .ge 55, 3) := by decide +kernel
theorem dX0_keep_27 : decode cX0_keep 27 = .ok (.iconst 0, 1) := by decide +kernel
theorem dX0_keep_28 : decode cX0_keep 28 = .ok (.istore 5, 2) := by decide +kernel
theorem dX0_keep_30 : decode cX0_keep 30 = .ok (.iload 5, 2) := by decide +kernel
theorem dX0_keep_32 : decode cX0_keep 32 = .ok (.iload_n 3, 1) := by decide +kernel
theorem dX0_keep_33 : decode cX0_keep 33 = .ok (.if_icmp .ge 40, 3) := by decide +kernel
theorem dX0_keep_36 : decode cX0_keep 36 = .ok (.aload_n 0, 1) := by decide +kernel
theorem dX0_keep_37 : decode cX0_keep 37 = .ok (.getfield 14, 3) := by decide +kernel
theorem dX0_keep_40 : decode cX0_keep 40 = .ok (.aload_n 0, 1) := by decide +kernel
theorem dX0_keep_41 : decode cX0_keep 41 = .ok (.iload 4, 2) := by decide +kernel
theorem dX0_keep_43 : decode cX0_keep 43 = .ok (.iload 5, 2) := by decide +kernel
theorem dX0_keep_45 : decode cX0_keep 45 = .ok (.invokevirtual 33, 3) := by decide +kernel
theorem dX0_keep_48 : decode cX0_keep 48 = .ok (.aload_n 1, 1) := by decide +kernel
theorem dX0_keep_49 : decode cX0_keep 49 = .ok (.getfield 36, 3) := by decide +kernel
theorem dX0_keep_52 : decode cX0_keep 52 = .ok (.aload_n 1, 1) := by decide +kernel
theorem dX0_keep_53 : decode cX0_keep 53 = .ok (.getfield 39, 3) := by decide +kernel
theorem dX0_keep_56 : decode cX0_keep 56 = .ok (.iload 4, 2) := by decide +kernel
theorem dX0_keep_58 : decode cX0_keep 58 = .ok (.iaload, 1) := by decide +kernel
theorem dX0_keep_59 : decode cX0_keep 59 = .ok (.iload 5, 2) := by decide +kernel
theorem dX0_keep_61 : decode cX0_keep 61 = .ok (.invokestatic 43, 3) := by decide +kernel
theorem dX0_keep_64 : decode cX0_keep 64 = .ok (.invokevirtual 44, 3) := by decide +kernel
theorem dX0_keep_67 : decode cX0_keep 67 = .ok (.iinc 5 1, 3) := by decide +kernel
theorem dX0_keep_70 : decode cX0_keep 70 = .ok (.goto (-40), 3) := by decide +kernel
theorem dX0_keep_73 : decode cX0_keep 73 = .ok (.iinc 4 1, 3) := by decide +kernel
theorem dX0_keep_76 : decode cX0_keep 76 = .ok (.goto (-58), 3) := by decide +kernel
theorem dX0_keep_79 : decode cX0_keep 79 = .ok (.return_, 1) := by decide +kernel
theorem dX1_init_0 : decode cX1_init 0 = .ok (.aload_n 0, 1) := by decide +kernel
theorem dX1_init_1 : decode cX1_init 1 = .ok (.invokespecial 3, 3) := by decide +kernel
theorem dX1_init_4 : decode cX1_init 4 = .ok (.aload_n 0, 1) := by decide +kernel
theorem dX1_init_5 : decode cX1_init 5 = .ok (.iconst 3, 1) := by decide +kernel
theorem dX1_init_6 : decode cX1_init 6 = .ok (.newarray .int, 2) := by decide +kernel
theorem dX1_init_8 : decode cX1_init 8 = .ok (.putfield 9, 3) := by decide +kernel
theorem dX1_init_11 : decode cX1_init 11 = .ok (.aload_n 0, 1) := by decide +kernel
theorem dX1_init_12 : decode cX1_init 12 = .ok (.aload_n 1, 1) := by decide +kernel
theorem dX1_init_13 : decode cX1_init 13 = .ok (.putfield 15, 3) := by decide +kernel
theorem dX1_init_16 : decode cX1_init 16 = .ok (.aload_n 0, 1) := by decide +kernel
theorem dX1_init_17 : decode cX1_init 17 = .ok (.aload_n 2, 1) := by decide +kernel
theorem dX1_init_18 : decode cX1_init 18 = .ok (.putfield 19, 3) := by decide +kernel
theorem dX1_init_21 : decode cX1_init 21 = .ok (.aload_n 0, 1) := by decide +kernel
theorem dX1_init_22 : decode cX1_init 22 = .ok (.aload_n 2, 1) := by decide +kernel
theorem dX1_init_23 : decode cX1_init 23 = .ok (.getfield 23, 3) := by decide +kernel
theorem dX1_init_26 : decode cX1_init 26 = .ok (.putfield 29, 3) := by decide +kernel
theorem dX1_init_29 : decode cX1_init 29 = .ok (.return_, 1) := by decide +kernel
theorem dX1_goTo_0 : decode cX1_goTo 0 = .ok (.aload_n 0, 1) := by decide +kernel
theorem dX1_goTo_1 : decode cX1_goTo 1 = .ok (.getfield 9, 3) := by decide +kernel
theorem dX1_goTo_4 : decode cX1_goTo 4 = .ok (.iconst 0, 1) := by decide +kernel
theorem dX1_goTo_5 : decode cX1_goTo 5 = .ok (.iload_n 1, 1) := by decide +kernel
theorem dX1_goTo_6 : decode cX1_goTo 6 = .ok (.iconst 0, 1) := by decide +kernel
theorem dX1_goTo_7 : decode cX1_goTo 7 = .ok (.invokestatic 30, 3) := by decide +kernel
theorem dX1_goTo_10 : decode cX1_goTo 10 = .ok (.iastore, 1) := by decide +kernel
theorem dX1_goTo_11 : decode cX1_goTo 11 = .ok (.aload_n 0, 1) := by decide +kernel
theorem dX1_goTo_12 : decode cX1_goTo 12 = .ok (.getfield 9, 3) := by decide +kernel
theorem dX1_goTo_15 : decode cX1_goTo 15 = .ok (.iconst 1, 1) := by decide +kernel
theorem dX1_goTo_16 : decode cX1_goTo 16 = .ok (.iload_n 1, 1) := by decide +kernel
theorem dX1_goTo_17 : decode cX1_goTo 17 = .ok (.iconst 1, 1) := by decide +kernel
theorem dX1_goTo_18 : decode cX1_goTo 18 = .ok (.invokestatic 30, 3) := by decide +kernel
theorem dX1_goTo_21 : decode cX1_goTo 21 = .ok (.iastore, 1) := by decide +kernel
theorem dX1_goTo_22 : decode cX1_goTo 22 = .ok (.aload_n 0, 1) := by decide +kernel
theorem dX1_goTo_23 : decode cX1_goTo 23 = .ok (.getfield 9, 3) := by decide +kernel
theorem dX1_goTo_26 : decode cX1_goTo 26 = .ok (.iconst 2, 1) := by decide +kernel
theorem dX1_goTo_27 : decode cX1_goTo 27 = .ok (.iload_n 1, 1) := by decide +kernel
theorem dX1_goTo_28 : decode cX1_goTo 28 = .ok (.iconst 2, 1) := by decide +kernel
theorem dX1_goTo_29 : decode cX1_goTo 29 = .ok (.invokestatic 30, 3) := by decide +kernel
theorem dX1_goTo_32 : decode cX1_goTo 32 = .ok (.iastore, 1) := by decide +kernel
theorem dX1_goTo_33 : decode cX1_goTo 33 = .ok (.return_, 1) := by decide +kernel
theorem dX1_workOut_0 : decode cX1_workOut 0 = .ok (.iconst 0, 1) := by decide +kernel
theorem dX1_workOut_1 : decode cX1_workOut 1 = .ok (.istore_n 2, 1) := by decide +kernel
theorem dX1_workOut_2 : decode cX1_workOut 2 = .ok (.iload_n 2, 1) := by decide +kernel
theorem dX1_workOut_3 : decode cX1_workOut 3 = .ok (.aload_n 1, 1) := by decide +kernel
theorem dX1_workOut_4 : decode cX1_workOut 4 = .ok (.getfield 36, 3) := by decide +kernel
theorem dX1_workOut_7 : decode cX1_workOut 7 = .ok (.if_icmp .ge 259, 3) := by decide +kernel
theorem dX1_workOut_10 : decode cX1_workOut 10 = .ok (.aload_n 1, 1) := by decide +kernel
theorem dX1_workOut_11 : decode cX1_workOut 11 = .ok (.getfield 42, 3) := by decide +kernel
theorem dX1_workOut_14 : decode cX1_workOut 14 = .ok (.iload_n 2, 1) := by decide +kernel
theorem dX1_workOut_15 : decode cX1_workOut 15 = .ok (.iaload, 1) := by decide +kernel
theorem dX1_workOut_16 : decode cX1_workOut 16 = .ok (.istore_n 3, 1) := by decide +kernel
theorem dX1_workOut_17 : decode cX1_workOut 17 = .ok (.aload_n 0, 1) := by decide +kernel
theorem dX1_workOut_18 : decode cX1_workOut 18 = .ok (.getfield 19, 3) := by decide +kernel
theorem dX1_workOut_21 : decode cX1_workOut 21 = .ok (.getfield 45, 3) := by decide +kernel
theorem dX1_workOut_24 : decode cX1_workOut 24 = .ok (.iload_n 3, 1) := by decide +kernel
theorem dX1_workOut_25 : decode cX1_workOut 25 = .ok (.iaload, 1) := by decide +kernel
theorem dX1_workOut_26 : decode cX1_workOut 26 = .ok (.istore 4, 2) := by decide +kernel
theorem dX1_workOut_28 : decode cX1_workOut 28 = .ok (.iload 4, 2) := by decide +kernel
theorem dX1_workOut_30 : decode cX1_workOut 30 = .ok (.iconst 4, 1) := by decide +kernel
theorem dX1_workOut_31 : decode cX1_workOut 31 = .ok (.if_icmp .ne 29, 3) := by decide +kernel
theorem dX1_workOut_34 : decode cX1_workOut 34 = .ok (.aload_n 0, 1) := by decide +kernel
theorem dX1_workOut_35 : decode cX1_workOut 35 = .ok (.iload_n 3, 1) := by decide +kernel
theorem dX1_workOut_36 : decode cX1_workOut 36 = .ok (.aload_n 0, 1) := by decide +kernel
theorem dX1_workOut_37 : decode cX1_workOut 37 = .ok (.getfield 19, 3) := by decide +kernel
theorem dX1_workOut_40 : decode cX1_workOut 40 = .ok (.getfield 48, 3) := by decide +kernel
theorem dX1_workOut_43 : decode cX1_workOut 43 = .ok (.iload_n 3, 1) := by decide +kernel
theorem dX1_workOut_44 : decode cX1_workOut 44 = .ok (.iaload, 1) := by decide +kernel
theorem dX1_workOut_45 : decode cX1_workOut 45 = .ok (.aload_n 0, 1) := by decide +kernel
theorem dX1_workOut_46 : decode cX1_workOut 46 = .ok (.getfield 19, 3) := by decide +kernel
theorem dX1_workOut_49 : decode cX1_workOut 49 = .ok (.getfield 51, 3) := by decide +kernel
theorem dX1_workOut_52 : decode cX1_workOut 52 = .ok (.iload_n 3, 1) := by decide +kernel
theorem dX1_workOut_53 : decode cX1_workOut 53 = .ok (.iaload, 1) := by decide +kernel
theorem dX1_workOut_54 : decode cX1_workOut 54 = .ok (.invokevirtual 54, 3) := by decide +kernel
theorem dX1_workOut_57 : decode cX1_workOut 57 = .ok (.goto 203, 3) := by decide +kernel
theorem dX1_workOut_60 : decode cX1_workOut 60 = .ok (.iload 4, 2) := by decide +kernel
theorem dX1_workOut_62 : decode cX1_workOut 62 = .ok (.bipush 10, 2) := by decide +kernel
theorem dX1_workOut_64 : decode cX1_workOut 64 = .ok (.if_icmp .ne 20, 3) := by decide +kernel
theorem dX1_workOut_67 : decode cX1_workOut 67 = .ok (.aload_n 0, 1) := by decide +kernel
theorem dX1_workOut_68 : decode cX1_workOut 68 = .ok (.iload_n 3, 1) := by decide +kernel
theorem dX1_workOut_69 : decode cX1_workOut 69 = .ok (.aload_n 0, 1) := by decide +kernel
theorem dX1_workOut_70 : decode cX1_workOut 70 = .ok (.getfield 19, 3) := by decide +kernel
theorem dX1_workOut_73 : decode cX1_workOut 73 = .ok (.getfield 58, 3) := by decide +kernel
theorem dX1_workOut_76 : decode cX1_workOut 76 = .ok (.iload_n 3, 1) := by decide +kernel
theorem dX1_workOut_77 : decode cX1_workOut 77 = .ok (.iaload, 1) := by decide +kernel
theorem dX1_workOut_78 : decode cX1_workOut 78 = .ok (.invokevirtual 61, 3) := by decide +kernel
theorem dX1_workOut_81 : decode cX1_workOut 81 = .ok (.goto 179, 3) := by decide +kernel
theorem dX1_workOut_84 : decode cX1_workOut 84 = .ok (.iload 4, 2) := by decide +kernel
theorem dX1_workOut_86 : decode cX1_workOut 86 = .ok (.bipush 11, 2) := by decide +kernel
theorem dX1_workOut_88 : decode cX1_workOut 88 = .ok (.if_icmp .lt 38, 3) := by decide +kernel
theorem dX1_workOut_91 : decode cX1_workOut 91 = .ok (.iload 4, 2) := by decide +kernel
theorem dX1_workOut_93 : decode cX1_workOut 93 = .ok (.bipush 22, 2) := by decide +kernel
theorem dX1_workOut_95 : decode cX1_workOut 95 = .ok (.if_icmp .gt 31, 3) := by decide +kernel
theorem dX1_workOut_98 : decode cX1_workOut 98 = .ok (.aload_n 0, 1) := by decide +kernel
theorem dX1_workOut_99 : decode cX1_workOut 99 = .ok (.iload 4, 2) := by decide +kernel
theorem dX1_workOut_101 : decode cX1_workOut 101 = .ok (.iload_n 3, 1) := by decide +kernel
theorem dX1_workOut_102 : decode cX1_workOut 102 = .ok (.aload_n 0, 1) := by decide +kernel
theorem dX1_workOut_103 : decode cX1_workOut 103 = .ok (.getfield 19, 3) := by decide +kernel
theorem dX1_workOut_106 : decode cX1_workOut 106 = .ok (.getfield 58, 3) := by decide +kernel
theorem dX1_workOut_109 : decode cX1_workOut 109 = .ok (.iload_n 3, 1) := by decide +kernel
theorem dX1_workOut_110 : decode cX1_workOut 110 = .ok (.iaload, 1) := by decide +kernel
theorem dX1_workOut_111 : decode cX1_workOut 111 = .ok (.aload_n 0, 1) := by decide +kernel
theorem dX1_workOut_112 : decode cX1_workOut 112 = .ok (.getfield 19, 3) := by decide +kernel
theorem dX1_workOut_115 : decode cX1_workOut 115 = .ok (.getfield 65, 3) := by decide +kernel
theorem dX1_workOut_118 : decode cX1_workOut 118 = .ok (.iload_n 3, 1) := by decide +kernel
theorem dX1_workOut_119 : decode cX1_workOut 119 = .ok (.iaload, 1) := by decide +kernel
theorem dX1_workOut_120 : decode cX1_workOut 120 = .ok (.invokevirtual 68, 3) := by decide +kernel
theorem dX1_workOut_123 : decode cX1_workOut 123 = .ok (.goto 137, 3) := by decide +kernel
theorem dX1_workOut_126 : decode cX1_workOut 126 = .ok (.iload 4, 2) := by decide +kernel
theorem dX1_workOut_128 : decode cX1_workOut 128 = .ok (.bipush 23, 2) := by decide +kernel
theorem dX1_workOut_130 : decode cX1_workOut 130 = .ok (.if_icmp .eq 10, 3) := by decide +kernel
theorem dX1_workOut_133 : decode cX1_workOut 133 = .ok (.iload 4, 2) := by decide +kernel
theorem dX1_workOut_135 : decode cX1_workOut 135 = .ok (.bipush 24, 2) := by decide +kernel
theorem dX1_workOut_137 : decode cX1_workOut 137 = .ok (.if_icmp .ne 50, 3) := by decide +kernel
theorem dX1_workOut_140 : decode cX1_workOut 140 = .ok (.aload_n 0, 1) := by decide +kernel
theorem dX1_workOut_141 : decode cX1_workOut 141 = .ok (.getfield 29, 3) := by decide +kernel
theorem dX1_workOut_144 : decode cX1_workOut 144 = .ok (.iload_n 3, 1) := by decide +kernel
theorem dX1_workOut_145 : decode cX1_workOut 145 = .ok (.aload_n 0, 1) := by decide +kernel
theorem dX1_workOut_146 : decode cX1_workOut 146 = .ok (.getfield 29, 3) := by decide +kernel
theorem dX1_workOut_149 : decode cX1_workOut 149 = .ok (.aload_n 0, 1) := by decide +kernel
theorem dX1_workOut_150 : decode cX1_workOut 150 = .ok (.getfield 19, 3) := by decide +kernel
theorem dX1_workOut_153 : decode cX1_workOut 153 = .ok (.getfield 58, 3) := by decide +kernel
theorem dX1_workOut_156 : decode cX1_workOut 156 = .ok (.iload_n 3, 1) := by decide +kernel
theorem dX1_workOut_157 : decode cX1_workOut 157 = .ok (.iaload, 1) := by decide +kernel
theorem dX1_workOut_158 : decode cX1_workOut 158 = .ok (.invokevirtual 72, 3) := by decide +kernel
theorem dX1_workOut_161 : decode cX1_workOut 161 = .ok (.iload 4, 2) := by decide +kernel
theorem dX1_workOut_163 : decode cX1_workOut 163 = .ok (.bipush 23, 2) := by decide +kernel
theorem dX1_workOut_165 : decode cX1_workOut 165 = .ok (.if_icmp .ne 7, 3) := by decide +kernel
theorem dX1_workOut_168 : decode cX1_workOut 168 = .ok (.iconst 1, 1) := by decide +kernel
theorem dX1_workOut_169 : decode cX1_workOut 169 = .ok (.goto 4, 3) := by decide +kernel
theorem dX1_workOut_172 : decode cX1_workOut 172 = .ok (.iconst 0, 1) := by decide +kernel
theorem dX1_workOut_173 : decode cX1_workOut 173 = .ok (.if_icmp .ne 7, 3) := by decide +kernel
theorem dX1_workOut_176 : decode cX1_workOut 176 = .ok (.iconst 1, 1) := by decide +kernel
theorem dX1_workOut_177 : decode cX1_workOut 177 = .ok (.goto 4, 3) := by decide +kernel
theorem dX1_workOut_180 : decode cX1_workOut 180 = .ok (.iconst 0, 1) := by decide +kernel
theorem dX1_workOut_181 : decode cX1_workOut 181 = .ok (.invokevirtual 78, 3) := by decide +kernel
theorem dX1_workOut_184 : decode cX1_workOut 184 = .ok (.goto 76, 3) := by decide +kernel
theorem dX1_workOut_187 : decode cX1_workOut 187 = .ok (.iload 4, 2) := by decide +kernel
theorem dX1_workOut_189 : decode cX1_workOut 189 = .ok (.bipush 25, 2) := by decide +kernel
theorem dX1_workOut_191 : decode cX1_workOut 191 = .ok (.if_icmp .ne 20, 3) := by decide +kernel
theorem dX1_workOut_194 : decode cX1_workOut 194 = .ok (.aload_n 0, 1) := by decide +kernel
theorem dX1_workOut_195 : decode cX1_workOut 195 = .ok (.iload_n 3, 1) := by decide +kernel
theorem dX1_workOut_196 : decode cX1_workOut 196 = .ok (.aload_n 0, 1) := by decide +kernel
theorem dX1_workOut_197 : decode cX1_workOut 197 = .ok (.getfield 19, 3) := by decide +kernel
theorem dX1_workOut_200 : decode cX1_workOut 200 = .ok (.getfield 58, 3) := by decide +kernel
theorem dX1_workOut_203 : decode cX1_workOut 203 = .ok (.iload_n 3, 1) := by decide +kernel
theorem dX1_workOut_204 : decode cX1_workOut 204 = .ok (.iaload, 1) := by decide +kernel
theorem dX1_workOut_205 : decode cX1_workOut 205 = .ok (.invokevirtual 82, 3) := by decide +kernel
theorem dX1_workOut_208 : decode cX1_workOut 208 = .ok (.goto 52, 3) := by decide +kernel
theorem dX1_workOut_211 : decode cX1_workOut 211 = .ok (.iload 4, 2) := by decide +kernel
theorem dX1_workOut_213 : decode cX1_workOut 213 = .ok (.bipush 26, 2) := by decide +kernel
theorem dX1_workOut_215 : decode cX1_workOut 215 = .ok (.if_icmp .eq 10, 3) := by decide +kernel
theorem dX1_workOut_218 : decode cX1_workOut 218 = .ok (.iload 4, 2) := by decide +kernel
theorem dX1_workOut_220 : decode cX1_workOut 220 = .ok (.bipush 27, 2) := by decide +kernel
theorem dX1_workOut_222 : decode cX1_workOut 222 = .ok (.if_icmp .ne 38, 3) := by decide +kernel
theorem dX1_workOut_225 : decode cX1_workOut 225 = .ok (.aload_n 0, 1) := by decide +kernel
theorem dX1_workOut_226 : decode cX1_workOut 226 = .ok (.iload_n 3, 1) := by decide +kernel
theorem dX1_workOut_227 : decode cX1_workOut 227 = .ok (.aload_n 0, 1) := by decide +kernel
theorem dX1_workOut_228 : decode cX1_workOut 228 = .ok (.getfield 19, 3) := by decide +kernel
theorem dX1_workOut_231 : decode cX1_workOut 231 = .ok (.getfield 58, 3) := by decide +kernel
theorem dX1_workOut_234 : decode cX1_workOut 234 = .ok (.iload_n 3, 1) := by decide +kernel
theorem dX1_workOut_235 : decode cX1_workOut 235 = .ok (.iaload, 1) := by decide +kernel
theorem dX1_workOut_236 : decode cX1_workOut 236 = .ok (.aload_n 0, 1) := by decide +kernel
theorem dX1_workOut_237 : decode cX1_workOut 237 = .ok (.getfield 19, 3) := by decide +kernel
theorem dX1_workOut_240 : decode cX1_workOut 240 = .ok (.getfield 65, 3) := by decide +kernel
theorem dX1_workOut_243 : decode cX1_workOut 243 = .ok (.iload_n 3, 1) := by decide +kernel
theorem dX1_workOut_244 : decode cX1_workOut 244 = .ok (.iaload, 1) := by decide +kernel
theorem dX1_workOut_245 : decode cX1_workOut 245 = .ok (.iload 4, 2) := by decide +kernel
theorem dX1_workOut_247 : decode cX1_workOut 247 = .ok (.bipush 27, 2) := by decide +kernel
theorem dX1_workOut_249 : decode cX1_workOut 249 = .ok (.if_icmp .ne 7, 3) := by decide +kernel
theorem dX1_workOut_252 : decode cX1_workOut 252 = .ok (.iconst 1, 1) := by decide +kernel
theorem dX1_workOut_253 : decode cX1_workOut 253 = .ok (.goto 4, 3) := by decide +kernel
theorem dX1_workOut_256 : decode cX1_workOut 256 = .ok (.iconst 0, 1) := by decide +kernel
theorem dX1_workOut_257 : decode cX1_workOut 257 = .ok (.invokevirtual 85, 3) := by decide +kernel
theorem dX1_workOut_260 : decode cX1_workOut 260 = .ok (.iinc 2 1, 3) := by decide +kernel
theorem dX1_workOut_263 : decode cX1_workOut 263 = .ok (.goto (-261), 3) := by decide +kernel
theorem dX1_workOut_266 : decode cX1_workOut 266 = .ok (.return_, 1) := by decide +kernel
theorem dX1_fetch_0 : decode cX1_fetch 0 = .ok (.aload_n 0, 1) := by decide +kernel
theorem dX1_fetch_1 : decode cX1_fetch 1 = .ok (.getfield 29, 3) := by decide +kernel
theorem dX1_fetch_4 : decode cX1_fetch 4 = .ok (.iload_n 1, 1) := by decide +kernel
theorem dX1_fetch_5 : decode cX1_fetch 5 = .ok (.aload_n 0, 1) := by decide +kernel
theorem dX1_fetch_6 : decode cX1_fetch 6 = .ok (.getfield 15, 3) := by decide +kernel
theorem dX1_fetch_9 : decode cX1_fetch 9 = .ok (.getfield 89, 3) := by decide +kernel
theorem dX1_fetch_12 : decode cX1_fetch 12 = .ok (.aload_n 0, 1) := by decide +kernel
theorem dX1_fetch_13 : decode cX1_fetch 13 = .ok (.getfield 15, 3) := by decide +kernel
theorem dX1_fetch_16 : decode cX1_fetch 16 = .ok (.iload_n 2, 1) := by decide +kernel
theorem dX1_fetch_17 : decode cX1_fetch 17 = .ok (.aload_n 0, 1) := by decide +kernel
theorem dX1_fetch_18 : decode cX1_fetch 18 = .ok (.getfield 9, 3) := by decide +kernel
theorem dX1_fetch_21 : decode cX1_fetch 21 = .ok (.iload_n 2, 1) := by decide +kernel
theorem dX1_fetch_22 : decode cX1_fetch 22 = .ok (.iaload, 1) := by decide +kernel
theorem dX1_fetch_23 : decode cX1_fetch 23 = .ok (.iload_n 3, 1) := by decide +kernel
theorem dX1_fetch_24 : decode cX1_fetch 24 = .ok (.invokevirtual 94, 3) := by decide +kernel
theorem dX1_fetch_27 : decode cX1_fetch 27 = .ok (.invokevirtual 98, 3) := by decide +kernel
theorem dX1_fetch_30 : decode cX1_fetch 30 = .ok (.return_, 1) := by decide +kernel
theorem dX1_negate_0 : decode cX1_negate 0 = .ok (.aload_n 0, 1) := by decide +kernel
theorem dX1_negate_1 : decode cX1_negate 1 = .ok (.getfield 29, 3) := by decide +kernel
theorem dX1_negate_4 : decode cX1_negate 4 = .ok (.iload_n 2, 1) := by decide +kernel
theorem dX1_negate_5 : decode cX1_negate 5 = .ok (.invokevirtual 72, 3) := by decide +kernel
theorem dX1_negate_8 : decode cX1_negate 8 = .ok (.ifCond .eq 14, 3) := by decide +kernel
theorem dX1_negate_11 : decode cX1_negate 11 = .ok (.aload_n 0, 1) := by decide +kernel
theorem dX1_negate_12 : decode cX1_negate 12 = .ok (.getfield 29, 3) := by decide +kernel
theorem dX1_negate_15 : decode cX1_negate 15 = .ok (.iload_n 1, 1) := by decide +kernel
theorem dX1_negate_16 : decode cX1_negate 16 = .ok (.invokevirtual 102, 3) := by decide +kernel
theorem dX1_negate_19 : decode cX1_negate 19 = .ok (.goto 20, 3) := by decide +kernel
theorem dX1_negate_22 : decode cX1_negate 22 = .ok (.aload_n 0, 1) := by decide +kernel
theorem dX1_negate_23 : decode cX1_negate 23 = .ok (.getfield 29, 3) := by decide +kernel
theorem dX1_negate_26 : decode cX1_negate 26 = .ok (.iload_n 1, 1) := by decide +kernel
theorem dX1_negate_27 : decode cX1_negate 27 = .ok (.aload_n 0, 1) := by decide +kernel
theorem dX1_negate_28 : decode cX1_negate 28 = .ok (.getfield 29, 3) := by decide +kernel
theorem dX1_negate_31 : decode cX1_negate 31 = .ok (.iload_n 2, 1) := by decide +kernel
theorem dX1_negate_32 : decode cX1_negate 32 = .ok (.invokevirtual 106, 3) := by decide +kernel
theorem dX1_negate_35 : decode cX1_negate 35 = .ok (.lneg, 1) := by decide +kernel
theorem dX1_negate_36 : decode cX1_negate 36 = .ok (.invokevirtual 110, 3) := by decide +kernel
theorem dX1_negate_39 : decode cX1_negate 39 = .ok (.return_, 1) := by decide +kernel
theorem dX1_workOutOfTwo_0 : decode cX1_workOutOfTwo 0 = .ok (.aload_n 0, 1) := by decide +kernel
theorem dX1_workOutOfTwo_1 : decode cX1_workOutOfTwo 1 = .ok (.getfield 29, 3) := by decide +kernel
theorem dX1_workOutOfTwo_4 : decode cX1_workOutOfTwo 4 = .ok (.iload_n 3, 1) := by decide +kernel
theorem dX1_workOutOfTwo_5 : decode cX1_workOutOfTwo 5 = .ok (.invokevirtual 72, 3) := by decide +kernel
theorem dX1_workOutOfTwo_8 : decode cX1_workOutOfTwo 8 = .ok (.ifCond .ne 15, 3) := by decide +kernel
theorem dX1_workOutOfTwo_11 : decode cX1_workOutOfTwo 11 = .ok (.aload_n 0, 1) := by decide +kernel
theorem dX1_workOutOfTwo_12 : decode cX1_workOutOfTwo 12 = .ok (.getfield 29, 3) := by decide +kernel
theorem dX1_workOutOfTwo_15 : decode cX1_workOutOfTwo 15 = .ok (.iload 4, 2) := by decide +kernel
theorem dX1_workOutOfTwo_17 : decode cX1_workOutOfTwo 17 = .ok (.invokevirtual 72, 3) := by decide +kernel
theorem dX1_workOutOfTwo_20 : decode cX1_workOutOfTwo 20 = .ok (.ifCond .eq 14, 3) := by decide +kernel
theorem dX1_workOutOfTwo_23 : decode cX1_workOutOfTwo 23 = .ok (.aload_n 0, 1) := by decide +kernel
theorem dX1_workOutOfTwo_24 : decode cX1_workOutOfTwo 24 = .ok (.getfield 29, 3) := by decide +kernel
theorem dX1_workOutOfTwo_27 : decode cX1_workOutOfTwo 27 = .ok (.iload_n 2, 1) := by decide +kernel
theorem dX1_workOutOfTwo_28 : decode cX1_workOutOfTwo 28 = .ok (.invokevirtual 102, 3) := by decide +kernel
theorem dX1_workOutOfTwo_31 : decode cX1_workOutOfTwo 31 = .ok (.goto 89, 3) := by decide +kernel
theorem dX1_workOutOfTwo_34 : decode cX1_workOutOfTwo 34 = .ok (.iload_n 1, 1) := by decide +kernel
theorem dX1_workOutOfTwo_35 : decode cX1_workOutOfTwo 35 = .ok (.bipush 16, 2) := by decide +kernel
theorem dX1_workOutOfTwo_37 : decode cX1_workOutOfTwo 37 = .ok (.if_icmp .ge 29, 3) := by decide +kernel
theorem dX1_workOutOfTwo_40 : decode cX1_workOutOfTwo 40 = .ok (.aload_n 0, 1) := by decide +kernel
theorem dX1_workOutOfTwo_41 : decode cX1_workOutOfTwo 41 = .ok (.iload_n 1, 1) := by decide +kernel
theorem dX1_workOutOfTwo_42 : decode cX1_workOutOfTwo 42 = .ok (.iload_n 2, 1) := by decide +kernel
theorem dX1_workOutOfTwo_43 : decode cX1_workOutOfTwo 43 = .ok (.aload_n 0, 1) := by decide +kernel
theorem dX1_workOutOfTwo_44 : decode cX1_workOutOfTwo 44 = .ok (.getfield 29, 3) := by decide +kernel
theorem dX1_workOutOfTwo_47 : decode cX1_workOutOfTwo 47 = .ok (.iload_n 3, 1) := by decide +kernel
theorem dX1_workOutOfTwo_48 : decode cX1_workOutOfTwo 48 = .ok (.invokevirtual 106, 3) := by decide +kernel
theorem dX1_workOutOfTwo_51 : decode cX1_workOutOfTwo 51 = .ok (.aload_n 0, 1) := by decide +kernel
theorem dX1_workOutOfTwo_52 : decode cX1_workOutOfTwo 52 = .ok (.getfield 29, 3) := by decide +kernel
theorem dX1_workOutOfTwo_55 : decode cX1_workOutOfTwo 55 = .ok (.iload 4, 2) := by decide +kernel
theorem dX1_workOutOfTwo_57 : decode cX1_workOutOfTwo 57 = .ok (.invokevirtual 106, 3) := by decide +kernel
theorem dX1_workOutOfTwo_60 : decode cX1_workOutOfTwo 60 = .ok (.invokevirtual 114, 3) := by decide +kernel
theorem dX1_workOutOfTwo_63 : decode cX1_workOutOfTwo 63 = .ok (.goto 57, 3) := by decide +kernel
theorem dX1_workOutOfTwo_66 : decode cX1_workOutOfTwo 66 = .ok (.iload_n 1, 1) := by decide +kernel
theorem dX1_workOutOfTwo_67 : decode cX1_workOutOfTwo 67 = .ok (.bipush 16, 2) := by decide +kernel
theorem dX1_workOutOfTwo_69 : decode cX1_workOutOfTwo 69 = .ok (.if_icmp .ne 29, 3) := by decide +kernel
theorem dX1_workOutOfTwo_72 : decode cX1_workOutOfTwo 72 = .ok (.aload_n 0, 1) := by decide +kernel
theorem dX1_workOutOfTwo_73 : decode cX1_workOutOfTwo 73 = .ok (.getfield 29, 3) := by decide +kernel
theorem dX1_workOutOfTwo_76 : decode cX1_workOutOfTwo 76 = .ok (.iload_n 2, 1) := by decide +kernel
theorem dX1_workOutOfTwo_77 : decode cX1_workOutOfTwo 77 = .ok (.aload_n 0, 1) := by decide +kernel
theorem dX1_workOutOfTwo_78 : decode cX1_workOutOfTwo 78 = .ok (.getfield 29, 3) := by decide +kernel
theorem dX1_workOutOfTwo_81 : decode cX1_workOutOfTwo 81 = .ok (.iload_n 3, 1) := by decide +kernel
theorem dX1_workOutOfTwo_82 : decode cX1_workOutOfTwo 82 = .ok (.invokevirtual 98, 3) := by decide +kernel
theorem dX1_workOutOfTwo_85 : decode cX1_workOutOfTwo 85 = .ok (.aload_n 0, 1) := by decide +kernel
theorem dX1_workOutOfTwo_86 : decode cX1_workOutOfTwo 86 = .ok (.getfield 29, 3) := by decide +kernel
theorem dX1_workOutOfTwo_89 : decode cX1_workOutOfTwo 89 = .ok (.iload_n 2, 1) := by decide +kernel
theorem dX1_workOutOfTwo_90 : decode cX1_workOutOfTwo 90 = .ok (.iload 4, 2) := by decide +kernel
theorem dX1_workOutOfTwo_92 : decode cX1_workOutOfTwo 92 = .ok (.invokevirtual 118, 3) := by decide +kernel
theorem dX1_workOutOfTwo_95 : decode cX1_workOutOfTwo 95 = .ok (.goto 25, 3) := by decide +kernel
theorem dX1_workOutOfTwo_98 : decode cX1_workOutOfTwo 98 = .ok (.aload_n 0, 1) := by decide +kernel
theorem dX1_workOutOfTwo_99 : decode cX1_workOutOfTwo 99 = .ok (.getfield 29, 3) := by decide +kernel
theorem dX1_workOutOfTwo_102 : decode cX1_workOutOfTwo 102 = .ok (.iload_n 2, 1) := by decide +kernel
theorem dX1_workOutOfTwo_103 : decode cX1_workOutOfTwo 103 = .ok (.iload_n 1, 1) := by decide +kernel
theorem dX1_workOutOfTwo_104 : decode cX1_workOutOfTwo 104 = .ok (.aload_n 0, 1) := by decide +kernel
theorem dX1_workOutOfTwo_105 : decode cX1_workOutOfTwo 105 = .ok (.getfield 29, 3) := by decide +kernel
theorem dX1_workOutOfTwo_108 : decode cX1_workOutOfTwo 108 = .ok (.iload_n 3, 1) := by decide +kernel
theorem dX1_workOutOfTwo_109 : decode cX1_workOutOfTwo 109 = .ok (.iload 4, 2) := by decide +kernel
theorem dX1_workOutOfTwo_111 : decode cX1_workOutOfTwo 111 = .ok (.invokevirtual 121, 3) := by decide +kernel
theorem dX1_workOutOfTwo_114 : decode cX1_workOutOfTwo 114 = .ok (.invokestatic 124, 3) := by decide +kernel
theorem dX1_workOutOfTwo_117 : decode cX1_workOutOfTwo 117 = .ok (.invokevirtual 78, 3) := by decide +kernel
theorem dX1_workOutOfTwo_120 : decode cX1_workOutOfTwo 120 = .ok (.return_, 1) := by decide +kernel
theorem dX1_reckon_0 : decode cX1_reckon 0 = .ok (.iload_n 1, 1) := by decide +kernel
theorem dX1_reckon_1 : decode cX1_reckon 1 = .ok (.bipush 11, 2) := by decide +kernel
theorem dX1_reckon_3 : decode cX1_reckon 3 = .ok (.if_icmp .ne 18, 3) := by decide +kernel
theorem dX1_reckon_6 : decode cX1_reckon 6 = .ok (.aload_n 0, 1) := by decide +kernel
theorem dX1_reckon_7 : decode cX1_reckon 7 = .ok (.getfield 29, 3) := by decide +kernel
theorem dX1_reckon_10 : decode cX1_reckon 10 = .ok (.iload_n 2, 1) := by decide +kernel
theorem dX1_reckon_11 : decode cX1_reckon 11 = .ok (.lload_n 3, 1) := by decide +kernel
theorem dX1_reckon_12 : decode cX1_reckon 12 = .ok (.lload 5, 2) := by decide +kernel
theorem dX1_reckon_14 : decode cX1_reckon 14 = .ok (.ladd, 1) := by decide +kernel
theorem dX1_reckon_15 : decode cX1_reckon 15 = .ok (.invokevirtual 110, 3) := by decide +kernel
theorem dX1_reckon_18 : decode cX1_reckon 18 = .ok (.goto 88, 3) := by decide +kernel
theorem dX1_reckon_21 : decode cX1_reckon 21 = .ok (.iload_n 1, 1) := by decide +kernel
theorem dX1_reckon_22 : decode cX1_reckon 22 = .ok (.bipush 12, 2) := by decide +kernel
theorem dX1_reckon_24 : decode cX1_reckon 24 = .ok (.if_icmp .ne 18, 3) := by decide +kernel
theorem dX1_reckon_27 : decode cX1_reckon 27 = .ok (.aload_n 0, 1) := by decide +kernel
theorem dX1_reckon_28 : decode cX1_reckon 28 = .ok (.getfield 29, 3) := by decide +kernel
theorem dX1_reckon_31 : decode cX1_reckon 31 = .ok (.iload_n 2, 1) := by decide +kernel
theorem dX1_reckon_32 : decode cX1_reckon 32 = .ok (.lload_n 3, 1) := by decide +kernel
theorem dX1_reckon_33 : decode cX1_reckon 33 = .ok (.lload 5, 2) := by decide +kernel
theorem dX1_reckon_35 : decode cX1_reckon 35 = .ok (.lsub, 1) := by decide +kernel
theorem dX1_reckon_36 : decode cX1_reckon 36 = .ok (.invokevirtual 110, 3) := by decide +kernel
theorem dX1_reckon_39 : decode cX1_reckon 39 = .ok (.goto 67, 3) := by decide +kernel
theorem dX1_reckon_42 : decode cX1_reckon 42 = .ok (.iload_n 1, 1) := by decide +kernel
theorem dX1_reckon_43 : decode cX1_reckon 43 = .ok (.bipush 13, 2) := by decide +kernel
theorem dX1_reckon_45 : decode cX1_reckon 45 = .ok (.if_icmp .ne 18, 3) := by decide +kernel
theorem dX1_reckon_48 : decode cX1_reckon 48 = .ok (.aload_n 0, 1) := by decide +kernel
theorem dX1_reckon_49 : decode cX1_reckon 49 = .ok (.getfield 29, 3) := by decide +kernel
theorem dX1_reckon_52 : decode cX1_reckon 52 = .ok (.iload_n 2, 1) := by decide +kernel
theorem dX1_reckon_53 : decode cX1_reckon 53 = .ok (.lload_n 3, 1) := by decide +kernel
theorem dX1_reckon_54 : decode cX1_reckon 54 = .ok (.lload 5, 2) := by decide +kernel
theorem dX1_reckon_56 : decode cX1_reckon 56 = .ok (.lmul, 1) := by decide +kernel
theorem dX1_reckon_57 : decode cX1_reckon 57 = .ok (.invokevirtual 110, 3) := by decide +kernel
theorem dX1_reckon_60 : decode cX1_reckon 60 = .ok (.goto 46, 3) := by decide +kernel
theorem dX1_reckon_63 : decode cX1_reckon 63 = .ok (.lload 5, 2) := by decide +kernel
theorem dX1_reckon_65 : decode cX1_reckon 65 = .ok (.lconst 0, 1) := by decide +kernel
theorem dX1_reckon_66 : decode cX1_reckon 66 = .ok (.lcmp, 1) := by decide +kernel
theorem dX1_reckon_67 : decode cX1_reckon 67 = .ok (.ifCond .ne 14, 3) := by decide +kernel
theorem dX1_reckon_70 : decode cX1_reckon 70 = .ok (.aload_n 0, 1) := by decide +kernel
theorem dX1_reckon_71 : decode cX1_reckon 71 = .ok (.getfield 29, 3) := by decide +kernel
theorem dX1_reckon_74 : decode cX1_reckon 74 = .ok (.iload_n 2, 1) := by decide +kernel
theorem dX1_reckon_75 : decode cX1_reckon 75 = .ok (.invokevirtual 102, 3) := by decide +kernel
theorem dX1_reckon_78 : decode cX1_reckon 78 = .ok (.goto 28, 3) := by decide +kernel
theorem dX1_reckon_81 : decode cX1_reckon 81 = .ok (.aload_n 0, 1) := by decide +kernel
theorem dX1_reckon_82 : decode cX1_reckon 82 = .ok (.getfield 29, 3) := by decide +kernel
theorem dX1_reckon_85 : decode cX1_reckon 85 = .ok (.iload_n 2, 1) := by decide +kernel
theorem dX1_reckon_86 : decode cX1_reckon 86 = .ok (.iload_n 1, 1) := by decide +kernel
theorem dX1_reckon_87 : decode cX1_reckon 87 = .ok (.bipush 14, 2) := by decide +kernel
theorem dX1_reckon_89 : decode cX1_reckon 89 = .ok (.if_icmp .ne 10, 3) := by decide +kernel
theorem dX1_reckon_92 : decode cX1_reckon 92 = .ok (.lload_n 3, 1) := by decide +kernel
theorem dX1_reckon_93 : decode cX1_reckon 93 = .ok (.lload 5, 2) := by decide +kernel
theorem dX1_reckon_95 : decode cX1_reckon 95 = .ok (.ldiv, 1) := by decide +kernel
theorem dX1_reckon_96 : decode cX1_reckon 96 = .ok (.goto 7, 3) := by decide +kernel
theorem dX1_reckon_99 : decode cX1_reckon 99 = .ok (.lload_n 3, 1) := by decide +kernel
theorem dX1_reckon_100 : decode cX1_reckon 100 = .ok (.lload 5, 2) := by decide +kernel
theorem dX1_reckon_102 : decode cX1_reckon 102 = .ok (.lrem, 1) := by decide +kernel
theorem dX1_reckon_103 : decode cX1_reckon 103 = .ok (.invokevirtual 110, 3) := by decide +kernel
theorem dX1_reckon_106 : decode cX1_reckon 106 = .ok (.return_, 1) := by decide +kernel
theorem dX1_holds_0 : decode cX1_holds 0 = .ok (.iload_n 0, 1) := by decide +kernel
theorem dX1_holds_1 : decode cX1_holds 1 = .ok (.tableswitch 85 17 21 #[35, 45, 55, 65, 75], 35) := by decide +kernel
theorem dX1_holds_36 : decode cX1_holds 36 = .ok (.iload_n 1, 1) := by decide +kernel
theorem dX1_holds_37 : decode cX1_holds 37 = .ok (.ifCond .ne 7, 3) := by decide +kernel
theorem dX1_holds_40 : decode cX1_holds 40 = .ok (.iconst 1, 1) := by decide +kernel
theorem dX1_holds_41 : decode cX1_holds 41 = .ok (.goto 4, 3) := by decide +kernel
theorem dX1_holds_44 : decode cX1_holds 44 = .ok (.iconst 0, 1) := by decide +kernel
theorem dX1_holds_45 : decode cX1_holds 45 = .ok (.ireturn, 1) := by decide +kernel
theorem dX1_holds_46 : decode cX1_holds 46 = .ok (.iload_n 1, 1) := by decide +kernel
theorem dX1_holds_47 : decode cX1_holds 47 = .ok (.ifCond .eq 7, 3) := by decide +kernel
theorem dX1_holds_50 : decode cX1_holds 50 = .ok (.iconst 1, 1) := by decide +kernel
theorem dX1_holds_51 : decode cX1_holds 51 = .ok (.goto 4, 3) := by decide +kernel
theorem dX1_holds_54 : decode cX1_holds 54 = .ok (.iconst 0, 1) := by decide +kernel
theorem dX1_holds_55 : decode cX1_holds 55 = .ok (.ireturn, 1) := by decide +kernel
theorem dX1_holds_56 : decode cX1_holds 56 = .ok (.iload_n 1, 1) := by decide +kernel
theorem dX1_holds_57 : decode cX1_holds 57 = .ok (.ifCond .ge 7, 3) := by decide +kernel
theorem dX1_holds_60 : decode cX1_holds 60 = .ok (.iconst 1, 1) := by decide +kernel
theorem dX1_holds_61 : decode cX1_holds 61 = .ok (.goto 4, 3) := by decide +kernel
theorem dX1_holds_64 : decode cX1_holds 64 = .ok (.iconst 0, 1) := by decide +kernel
theorem dX1_holds_65 : decode cX1_holds 65 = .ok (.ireturn, 1) := by decide +kernel
theorem dX1_holds_66 : decode cX1_holds 66 = .ok (.iload_n 1, 1) := by decide +kernel
theorem dX1_holds_67 : decode cX1_holds 67 = .ok (.ifCond .gt 7, 3) := by decide +kernel
theorem dX1_holds_70 : decode cX1_holds 70 = .ok (.iconst 1, 1) := by decide +kernel
theorem dX1_holds_71 : decode cX1_holds 71 = .ok (.goto 4, 3) := by decide +kernel
theorem dX1_holds_74 : decode cX1_holds 74 = .ok (.iconst 0, 1) := by decide +kernel
theorem dX1_holds_75 : decode cX1_holds 75 = .ok (.ireturn, 1) := by decide +kernel
theorem dX1_holds_76 : decode cX1_holds 76 = .ok (.iload_n 1, 1) := by decide +kernel
theorem dX1_holds_77 : decode cX1_holds 77 = .ok (.ifCond .le 7, 3) := by decide +kernel
theorem dX1_holds_80 : decode cX1_holds 80 = .ok (.iconst 1, 1) := by decide +kernel
theorem dX1_holds_81 : decode cX1_holds 81 = .ok (.goto 4, 3) := by decide +kernel
theorem dX1_holds_84 : decode cX1_holds 84 = .ok (.iconst 0, 1) := by decide +kernel
theorem dX1_holds_85 : decode cX1_holds 85 = .ok (.ireturn, 1) := by decide +kernel
theorem dX1_holds_86 : decode cX1_holds 86 = .ok (.iload_n 1, 1) := by decide +kernel
theorem dX1_holds_87 : decode cX1_holds 87 = .ok (.ifCond .lt 7, 3) := by decide +kernel
theorem dX1_holds_90 : decode cX1_holds 90 = .ok (.iconst 1, 1) := by decide +kernel
theorem dX1_holds_91 : decode cX1_holds 91 = .ok (.goto 4, 3) := by decide +kernel
theorem dX1_holds_94 : decode cX1_holds 94 = .ok (.iconst 0, 1) := by decide +kernel
theorem dX1_holds_95 : decode cX1_holds 95 = .ok (.ireturn, 1) := by decide +kernel
theorem dX1_turnOver_0 : decode cX1_turnOver 0 = .ok (.aload_n 0, 1) := by decide +kernel
theorem dX1_turnOver_1 : decode cX1_turnOver 1 = .ok (.getfield 29, 3) := by decide +kernel
theorem dX1_turnOver_4 : decode cX1_turnOver 4 = .ok (.iload_n 2, 1) := by decide +kernel
theorem dX1_turnOver_5 : decode cX1_turnOver 5 = .ok (.invokevirtual 72, 3) := by decide +kernel
theorem dX1_turnOver_8 : decode cX1_turnOver 8 = .ok (.ifCond .eq 14, 3) := by decide +kernel
theorem dX1_turnOver_11 : decode cX1_turnOver 11 = .ok (.aload_n 0, 1) := by decide +kernel
theorem dX1_turnOver_12 : decode cX1_turnOver 12 = .ok (.getfield 29, 3) := by decide +kernel
theorem dX1_turnOver_15 : decode cX1_turnOver 15 = .ok (.iload_n 1, 1) := by decide +kernel
theorem dX1_turnOver_16 : decode cX1_turnOver 16 = .ok (.invokevirtual 102, 3) := by decide +kernel
theorem dX1_turnOver_19 : decode cX1_turnOver 19 = .ok (.goto 20, 3) := by decide +kernel
theorem dX1_turnOver_22 : decode cX1_turnOver 22 = .ok (.aload_n 0, 1) := by decide +kernel
theorem dX1_turnOver_23 : decode cX1_turnOver 23 = .ok (.getfield 29, 3) := by decide +kernel
theorem dX1_turnOver_26 : decode cX1_turnOver 26 = .ok (.iload_n 1, 1) := by decide +kernel
theorem dX1_turnOver_27 : decode cX1_turnOver 27 = .ok (.aload_n 0, 1) := by decide +kernel
theorem dX1_turnOver_28 : decode cX1_turnOver 28 = .ok (.getfield 29, 3) := by decide +kernel
theorem dX1_turnOver_31 : decode cX1_turnOver 31 = .ok (.iload_n 2, 1) := by decide +kernel
theorem dX1_turnOver_32 : decode cX1_turnOver 32 = .ok (.iconst 0, 1) := by decide +kernel
theorem dX1_turnOver_33 : decode cX1_turnOver 33 = .ok (.invokevirtual 128, 3) := by decide +kernel
theorem dX1_turnOver_36 : decode cX1_turnOver 36 = .ok (.invokevirtual 78, 3) := by decide +kernel
theorem dX1_turnOver_39 : decode cX1_turnOver 39 = .ok (.return_, 1) := by decide +kernel
theorem dX1_decide_0 : decode cX1_decide 0 = .ok (.aload_n 0, 1) := by decide +kernel
theorem dX1_decide_1 : decode cX1_decide 1 = .ok (.getfield 29, 3) := by decide +kernel
theorem dX1_decide_4 : decode cX1_decide 4 = .ok (.iload_n 2, 1) := by decide +kernel
theorem dX1_decide_5 : decode cX1_decide 5 = .ok (.iload 4, 2) := by decide +kernel
theorem dX1_decide_7 : decode cX1_decide 7 = .ok (.invokevirtual 128, 3) := by decide +kernel
theorem dX1_decide_10 : decode cX1_decide 10 = .ok (.ifCond .ne 16, 3) := by decide +kernel
theorem dX1_decide_13 : decode cX1_decide 13 = .ok (.aload_n 0, 1) := by decide +kernel
theorem dX1_decide_14 : decode cX1_decide 14 = .ok (.getfield 29, 3) := by decide +kernel
theorem dX1_decide_17 : decode cX1_decide 17 = .ok (.iload_n 3, 1) := by decide +kernel
theorem dX1_decide_18 : decode cX1_decide 18 = .ok (.iload 4, 2) := by decide +kernel
theorem dX1_decide_20 : decode cX1_decide 20 = .ok (.invokevirtual 128, 3) := by decide +kernel
theorem dX1_decide_23 : decode cX1_decide 23 = .ok (.ifCond .eq 16, 3) := by decide +kernel
theorem dX1_decide_26 : decode cX1_decide 26 = .ok (.aload_n 0, 1) := by decide +kernel
theorem dX1_decide_27 : decode cX1_decide 27 = .ok (.getfield 29, 3) := by decide +kernel
theorem dX1_decide_30 : decode cX1_decide 30 = .ok (.iload_n 1, 1) := by decide +kernel
theorem dX1_decide_31 : decode cX1_decide 31 = .ok (.iload 4, 2) := by decide +kernel
theorem dX1_decide_33 : decode cX1_decide 33 = .ok (.invokevirtual 78, 3) := by decide +kernel
theorem dX1_decide_36 : decode cX1_decide 36 = .ok (.goto 54, 3) := by decide +kernel
theorem dX1_decide_39 : decode cX1_decide 39 = .ok (.aload_n 0, 1) := by decide +kernel
theorem dX1_decide_40 : decode cX1_decide 40 = .ok (.getfield 29, 3) := by decide +kernel
theorem dX1_decide_43 : decode cX1_decide 43 = .ok (.iload_n 2, 1) := by decide +kernel
theorem dX1_decide_44 : decode cX1_decide 44 = .ok (.invokevirtual 72, 3) := by decide +kernel
theorem dX1_decide_47 : decode cX1_decide 47 = .ok (.ifCond .ne 14, 3) := by decide +kernel
theorem dX1_decide_50 : decode cX1_decide 50 = .ok (.aload_n 0, 1) := by decide +kernel
theorem dX1_decide_51 : decode cX1_decide 51 = .ok (.getfield 29, 3) := by decide +kernel
theorem dX1_decide_54 : decode cX1_decide 54 = .ok (.iload_n 3, 1) := by decide +kernel
theorem dX1_decide_55 : decode cX1_decide 55 = .ok (.invokevirtual 72, 3) := by decide +kernel
theorem dX1_decide_58 : decode cX1_decide 58 = .ok (.ifCond .eq 14, 3) := by decide +kernel
theorem dX1_decide_61 : decode cX1_decide 61 = .ok (.aload_n 0, 1) := by decide +kernel
theorem dX1_decide_62 : decode cX1_decide 62 = .ok (.getfield 29, 3) := by decide +kernel
theorem dX1_decide_65 : decode cX1_decide 65 = .ok (.iload_n 1, 1) := by decide +kernel
theorem dX1_decide_66 : decode cX1_decide 66 = .ok (.invokevirtual 102, 3) := by decide +kernel
theorem dX1_decide_69 : decode cX1_decide 69 = .ok (.goto 21, 3) := by decide +kernel
theorem dX1_decide_72 : decode cX1_decide 72 = .ok (.aload_n 0, 1) := by decide +kernel
theorem dX1_decide_73 : decode cX1_decide 73 = .ok (.getfield 29, 3) := by decide +kernel
theorem dX1_decide_76 : decode cX1_decide 76 = .ok (.iload_n 1, 1) := by decide +kernel
theorem dX1_decide_77 : decode cX1_decide 77 = .ok (.iload 4, 2) := by decide +kernel
theorem dX1_decide_79 : decode cX1_decide 79 = .ok (.ifCond .ne 7, 3) := by decide +kernel
theorem dX1_decide_82 : decode cX1_decide 82 = .ok (.iconst 1, 1) := by decide +kernel
theorem dX1_decide_83 : decode cX1_decide 83 = .ok (.goto 4, 3) := by decide +kernel
theorem dX1_decide_86 : decode cX1_decide 86 = .ok (.iconst 0, 1) := by decide +kernel
theorem dX1_decide_87 : decode cX1_decide 87 = .ok (.invokevirtual 78, 3) := by decide +kernel
theorem dX1_decide_90 : decode cX1_decide 90 = .ok (.return_, 1) := by decide +kernel
theorem dX1_startAggregate_0 : decode cX1_startAggregate 0 = .ok (.aload_n 0, 1) := by decide +kernel
theorem dX1_startAggregate_1 : decode cX1_startAggregate 1 = .ok (.getfield 19, 3) := by decide +kernel
theorem dX1_startAggregate_4 : decode cX1_startAggregate 4 = .ok (.getfield 45, 3) := by decide +kernel
theorem dX1_startAggregate_7 : decode cX1_startAggregate 7 = .ok (.iload_n 1, 1) := by decide +kernel
theorem dX1_startAggregate_8 : decode cX1_startAggregate 8 = .ok (.iaload, 1) := by decide +kernel
theorem dX1_startAggregate_9 : decode cX1_startAggregate 9 = .ok (.istore_n 2, 1) := by decide +kernel
theorem dX1_startAggregate_10 : decode cX1_startAggregate 10 = .ok (.iload_n 2, 1) := by decide +kernel
theorem dX1_startAggregate_11 : decode cX1_startAggregate 11 = .ok (.iconst 5, 1) := by decide +kernel
theorem dX1_startAggregate_12 : decode cX1_startAggregate 12 = .ok (.if_icmp .eq 9, 3) := by decide +kernel
theorem dX1_startAggregate_15 : decode cX1_startAggregate 15 = .ok (.iload_n 2, 1) := by decide +kernel
theorem dX1_startAggregate_16 : decode cX1_startAggregate 16 = .ok (.bipush 6, 2) := by decide +kernel
theorem dX1_startAggregate_18 : decode cX1_startAggregate 18 = .ok (.if_icmp .ne 15, 3) := by decide +kernel
theorem dX1_startAggregate_21 : decode cX1_startAggregate 21 = .ok (.aload_n 0, 1) := by decide +kernel
theorem dX1_startAggregate_22 : decode cX1_startAggregate 22 = .ok (.getfield 29, 3) := by decide +kernel
theorem dX1_startAggregate_25 : decode cX1_startAggregate 25 = .ok (.iload_n 1, 1) := by decide +kernel
theorem dX1_startAggregate_26 : decode cX1_startAggregate 26 = .ok (.lconst 0, 1) := by decide +kernel
theorem dX1_startAggregate_27 : decode cX1_startAggregate 27 = .ok (.invokevirtual 110, 3) := by decide +kernel
theorem dX1_startAggregate_30 : decode cX1_startAggregate 30 = .ok (.goto 11, 3) := by decide +kernel
theorem dX1_startAggregate_33 : decode cX1_startAggregate 33 = .ok (.aload_n 0, 1) := by decide +kernel
theorem dX1_startAggregate_34 : decode cX1_startAggregate 34 = .ok (.getfield 29, 3) := by decide +kernel
theorem dX1_startAggregate_37 : decode cX1_startAggregate 37 = .ok (.iload_n 1, 1) := by decide +kernel
theorem dX1_startAggregate_38 : decode cX1_startAggregate 38 = .ok (.invokevirtual 102, 3) := by decide +kernel
theorem dX1_startAggregate_41 : decode cX1_startAggregate 41 = .ok (.return_, 1) := by decide +kernel
theorem dX1_feedAggregate_0 : decode cX1_feedAggregate 0 = .ok (.aload_n 0, 1) := by decide +kernel
theorem dX1_feedAggregate_1 : decode cX1_feedAggregate 1 = .ok (.getfield 19, 3) := by decide +kernel
theorem dX1_feedAggregate_4 : decode cX1_feedAggregate 4 = .ok (.getfield 45, 3) := by decide +kernel
theorem dX1_feedAggregate_7 : decode cX1_feedAggregate 7 = .ok (.iload_n 1, 1) := by decide +kernel
theorem dX1_feedAggregate_8 : decode cX1_feedAggregate 8 = .ok (.iaload, 1) := by decide +kernel
theorem dX1_feedAggregate_9 : decode cX1_feedAggregate 9 = .ok (.istore_n 2, 1) := by decide +kernel
theorem dX1_feedAggregate_10 : decode cX1_feedAggregate 10 = .ok (.iload_n 2, 1) := by decide +kernel
theorem dX1_feedAggregate_11 : decode cX1_feedAggregate 11 = .ok (.iconst 5, 1) := by decide +kernel
theorem dX1_feedAggregate_12 : decode cX1_feedAggregate 12 = .ok (.if_icmp .ne 22, 3) := by decide +kernel
theorem dX1_feedAggregate_15 : decode cX1_feedAggregate 15 = .ok (.aload_n 0, 1) := by decide +kernel
theorem dX1_feedAggregate_16 : decode cX1_feedAggregate 16 = .ok (.getfield 29, 3) := by decide +kernel
theorem dX1_feedAggregate_19 : decode cX1_feedAggregate 19 = .ok (.iload_n 1, 1) := by decide +kernel
theorem dX1_feedAggregate_20 : decode cX1_feedAggregate 20 = .ok (.aload_n 0, 1) := by decide +kernel
theorem dX1_feedAggregate_21 : decode cX1_feedAggregate 21 = .ok (.getfield 29, 3) := by decide +kernel
theorem dX1_feedAggregate_24 : decode cX1_feedAggregate 24 = .ok (.iload_n 1, 1) := by decide +kernel
theorem dX1_feedAggregate_25 : decode cX1_feedAggregate 25 = .ok (.invokevirtual 106, 3) := by decide +kernel
theorem dX1_feedAggregate_28 : decode cX1_feedAggregate 28 = .ok (.lconst 1, 1) := by decide +kernel
theorem dX1_feedAggregate_29 : decode cX1_feedAggregate 29 = .ok (.ladd, 1) := by decide +kernel
theorem dX1_feedAggregate_30 : decode cX1_feedAggregate 30 = .ok (.invokevirtual 110, 3) := by decide +kernel
theorem dX1_feedAggregate_33 : decode cX1_feedAggregate 33 = .ok (.return_, 1) := by decide +kernel
theorem dX1_feedAggregate_34 : decode cX1_feedAggregate 34 = .ok (.aload_n 0, 1) := by decide +kernel
theorem dX1_feedAggregate_35 : decode cX1_feedAggregate 35 = .ok (.getfield 19, 3) := by decide +kernel
theorem dX1_feedAggregate_38 : decode cX1_feedAggregate 38 = .ok (.getfield 58, 3) := by decide +kernel
theorem dX1_feedAggregate_41 : decode cX1_feedAggregate 41 = .ok (.iload_n 1, 1) := by decide +kernel
theorem dX1_feedAggregate_42 : decode cX1_feedAggregate 42 = .ok (.iaload, 1) := by decide +kernel
theorem dX1_feedAggregate_43 : decode cX1_feedAggregate 43 = .ok (.istore_n 3, 1) := by decide +kernel
theorem dX1_feedAggregate_44 : decode cX1_feedAggregate 44 = .ok (.aload_n 0, 1) := by decide +kernel
theorem dX1_feedAggregate_45 : decode cX1_feedAggregate 45 = .ok (.getfield 29, 3) := by decide +kernel
theorem dX1_feedAggregate_48 : decode cX1_feedAggregate 48 = .ok (.iload_n 3, 1) := by decide +kernel
theorem dX1_feedAggregate_49 : decode cX1_feedAggregate 49 = .ok (.invokevirtual 72, 3) := by decide +kernel
theorem dX1_feedAggregate_52 : decode cX1_feedAggregate 52 = .ok (.ifCond .eq 4, 3) := by decide +kernel
theorem dX1_feedAggregate_55 : decode cX1_feedAggregate 55 = .ok (.return_, 1) := by decide +kernel
theorem dX1_feedAggregate_56 : decode cX1_feedAggregate 56 = .ok (.iload_n 2, 1) := by decide +kernel
theorem dX1_feedAggregate_57 : decode cX1_feedAggregate 57 = .ok (.bipush 6, 2) := by decide +kernel
theorem dX1_feedAggregate_59 : decode cX1_feedAggregate 59 = .ok (.if_icmp .ne 24, 3) := by decide +kernel
theorem dX1_feedAggregate_62 : decode cX1_feedAggregate 62 = .ok (.aload_n 0, 1) := by decide +kernel
theorem dX1_feedAggregate_63 : decode cX1_feedAggregate 63 = .ok (.getfield 29, 3) := by decide +kernel
theorem dX1_feedAggregate_66 : decode cX1_feedAggregate 66 = .ok (.iload_n 1, 1) := by decide +kernel
theorem dX1_feedAggregate_67 : decode cX1_feedAggregate 67 = .ok (.aload_n 0, 1) := by decide +kernel
theorem dX1_feedAggregate_68 : decode cX1_feedAggregate 68 = .ok (.getfield 29, 3) := by decide +kernel
theorem dX1_feedAggregate_71 : decode cX1_feedAggregate 71 = .ok (.iload_n 1, 1) := by decide +kernel
theorem dX1_feedAggregate_72 : decode cX1_feedAggregate 72 = .ok (.invokevirtual 106, 3) := by decide +kernel
theorem dX1_feedAggregate_75 : decode cX1_feedAggregate 75 = .ok (.lconst 1, 1) := by decide +kernel
theorem dX1_feedAggregate_76 : decode cX1_feedAggregate 76 = .ok (.ladd, 1) := by decide +kernel
theorem dX1_feedAggregate_77 : decode cX1_feedAggregate 77 = .ok (.invokevirtual 110, 3) := by decide +kernel
theorem dX1_feedAggregate_80 : decode cX1_feedAggregate 80 = .ok (.goto 93, 3) := by decide +kernel
theorem dX1_feedAggregate_83 : decode cX1_feedAggregate 83 = .ok (.aload_n 0, 1) := by decide +kernel
theorem dX1_feedAggregate_84 : decode cX1_feedAggregate 84 = .ok (.getfield 29, 3) := by decide +kernel
theorem dX1_feedAggregate_87 : decode cX1_feedAggregate 87 = .ok (.iload_n 1, 1) := by decide +kernel
theorem dX1_feedAggregate_88 : decode cX1_feedAggregate 88 = .ok (.invokevirtual 72, 3) := by decide +kernel
theorem dX1_feedAggregate_91 : decode cX1_feedAggregate 91 = .ok (.ifCond .eq 19, 3) := by decide +kernel
theorem dX1_feedAggregate_94 : decode cX1_feedAggregate 94 = .ok (.aload_n 0, 1) := by decide +kernel
theorem dX1_feedAggregate_95 : decode cX1_feedAggregate 95 = .ok (.getfield 29, 3) := by decide +kernel
theorem dX1_feedAggregate_98 : decode cX1_feedAggregate 98 = .ok (.iload_n 1, 1) := by decide +kernel
theorem dX1_feedAggregate_99 : decode cX1_feedAggregate 99 = .ok (.aload_n 0, 1) := by decide +kernel
theorem dX1_feedAggregate_100 : decode cX1_feedAggregate 100 = .ok (.getfield 29, 3) := by decide +kernel
theorem dX1_feedAggregate_103 : decode cX1_feedAggregate 103 = .ok (.iload_n 3, 1) := by decide +kernel
theorem dX1_feedAggregate_104 : decode cX1_feedAggregate 104 = .ok (.invokevirtual 98, 3) := by decide +kernel
theorem dX1_feedAggregate_107 : decode cX1_feedAggregate 107 = .ok (.goto 66, 3) := by decide +kernel
theorem dX1_feedAggregate_110 : decode cX1_feedAggregate 110 = .ok (.iload_n 2, 1) := by decide +kernel
theorem dX1_feedAggregate_111 : decode cX1_feedAggregate 111 = .ok (.bipush 7, 2) := by decide +kernel
theorem dX1_feedAggregate_113 : decode cX1_feedAggregate 113 = .ok (.if_icmp .ne 31, 3) := by decide +kernel
theorem dX1_feedAggregate_116 : decode cX1_feedAggregate 116 = .ok (.aload_n 0, 1) := by decide +kernel
theorem dX1_feedAggregate_117 : decode cX1_feedAggregate 117 = .ok (.getfield 29, 3) := by decide +kernel
theorem dX1_feedAggregate_120 : decode cX1_feedAggregate 120 = .ok (.iload_n 1, 1) := by decide +kernel
theorem dX1_feedAggregate_121 : decode cX1_feedAggregate 121 = .ok (.aload_n 0, 1) := by decide +kernel
theorem dX1_feedAggregate_122 : decode cX1_feedAggregate 122 = .ok (.getfield 29, 3) := by decide +kernel
theorem dX1_feedAggregate_125 : decode cX1_feedAggregate 125 = .ok (.iload_n 1, 1) := by decide +kernel
theorem dX1_feedAggregate_126 : decode cX1_feedAggregate 126 = .ok (.invokevirtual 106, 3) := by decide +kernel
theorem dX1_feedAggregate_129 : decode cX1_feedAggregate 129 = .ok (.aload_n 0, 1) := by decide +kernel
theorem dX1_feedAggregate_130 : decode cX1_feedAggregate 130 = .ok (.getfield 29, 3) := by decide +kernel
theorem dX1_feedAggregate_133 : decode cX1_feedAggregate 133 = .ok (.iload_n 3, 1) := by decide +kernel
theorem dX1_feedAggregate_134 : decode cX1_feedAggregate 134 = .ok (.invokevirtual 106, 3) := by decide +kernel
theorem dX1_feedAggregate_137 : decode cX1_feedAggregate 137 = .ok (.ladd, 1) := by decide +kernel
theorem dX1_feedAggregate_138 : decode cX1_feedAggregate 138 = .ok (.invokevirtual 110, 3) := by decide +kernel
theorem dX1_feedAggregate_141 : decode cX1_feedAggregate 141 = .ok (.goto 32, 3) := by decide +kernel
theorem dX1_feedAggregate_144 : decode cX1_feedAggregate 144 = .ok (.iload_n 2, 1) := by decide +kernel
theorem dX1_feedAggregate_145 : decode cX1_feedAggregate 145 = .ok (.aload_n 0, 1) := by decide +kernel
theorem dX1_feedAggregate_146 : decode cX1_feedAggregate 146 = .ok (.getfield 29, 3) := by decide +kernel
theorem dX1_feedAggregate_149 : decode cX1_feedAggregate 149 = .ok (.iload_n 3, 1) := by decide +kernel
theorem dX1_feedAggregate_150 : decode cX1_feedAggregate 150 = .ok (.iload_n 1, 1) := by decide +kernel
theorem dX1_feedAggregate_151 : decode cX1_feedAggregate 151 = .ok (.invokevirtual 121, 3) := by decide +kernel
theorem dX1_feedAggregate_154 : decode cX1_feedAggregate 154 = .ok (.invokestatic 132, 3) := by decide +kernel
theorem dX1_feedAggregate_157 : decode cX1_feedAggregate 157 = .ok (.ifCond .eq 16, 3) := by decide +kernel
theorem dX1_feedAggregate_160 : decode cX1_feedAggregate 160 = .ok (.aload_n 0, 1) := by decide +kernel
theorem dX1_feedAggregate_161 : decode cX1_feedAggregate 161 = .ok (.getfield 29, 3) := by decide +kernel
theorem dX1_feedAggregate_164 : decode cX1_feedAggregate 164 = .ok (.iload_n 1, 1) := by decide +kernel
theorem dX1_feedAggregate_165 : decode cX1_feedAggregate 165 = .ok (.aload_n 0, 1) := by decide +kernel
theorem dX1_feedAggregate_166 : decode cX1_feedAggregate 166 = .ok (.getfield 29, 3) := by decide +kernel
theorem dX1_feedAggregate_169 : decode cX1_feedAggregate 169 = .ok (.iload_n 3, 1) := by decide +kernel
theorem dX1_feedAggregate_170 : decode cX1_feedAggregate 170 = .ok (.invokevirtual 98, 3) := by decide +kernel
theorem dX1_feedAggregate_173 : decode cX1_feedAggregate 173 = .ok (.return_, 1) := by decide +kernel
theorem dX1_isBetter_0 : decode cX1_isBetter 0 = .ok (.iload_n 0, 1) := by decide +kernel
theorem dX1_isBetter_1 : decode cX1_isBetter 1 = .ok (.bipush 8, 2) := by decide +kernel
theorem dX1_isBetter_3 : decode cX1_isBetter 3 = .ok (.if_icmp .ne 15, 3) := by decide +kernel
theorem dX1_isBetter_6 : decode cX1_isBetter 6 = .ok (.iload_n 1, 1) := by decide +kernel
theorem dX1_isBetter_7 : decode cX1_isBetter 7 = .ok (.ifCond .ge 7, 3) := by decide +kernel
theorem dX1_isBetter_10 : decode cX1_isBetter 10 = .ok (.iconst 1, 1) := by decide +kernel
theorem dX1_isBetter_11 : decode cX1_isBetter 11 = .ok (.goto 16, 3) := by decide +kernel
theorem dX1_isBetter_14 : decode cX1_isBetter 14 = .ok (.iconst 0, 1) := by decide +kernel
theorem dX1_isBetter_15 : decode cX1_isBetter 15 = .ok (.goto 12, 3) := by decide +kernel
theorem dX1_isBetter_18 : decode cX1_isBetter 18 = .ok (.iload_n 1, 1) := by decide +kernel
theorem dX1_isBetter_19 : decode cX1_isBetter 19 = .ok (.ifCond .le 7, 3) := by decide +kernel
theorem dX1_isBetter_22 : decode cX1_isBetter 22 = .ok (.iconst 1, 1) := by decide +kernel
theorem dX1_isBetter_23 : decode cX1_isBetter 23 = .ok (.goto 4, 3) := by decide +kernel
theorem dX1_isBetter_26 : decode cX1_isBetter 26 = .ok (.iconst 0, 1) := by decide +kernel
theorem dX1_isBetter_27 : decode cX1_isBetter 27 = .ok (.ireturn, 1) := by decide +kernel
theorem dX2_init_0 : decode cX2_init 0 = .ok (.aload_n 0, 1) := by decide +kernel
theorem dX2_init_1 : decode cX2_init 1 = .ok (.invokespecial 3, 3) := by decide +kernel
theorem dX2_init_4 : decode cX2_init 4 = .ok (.aload_n 0, 1) := by decide +kernel
theorem dX2_init_5 : decode cX2_init 5 = .ok (.sipush 200, 3) := by decide +kernel
theorem dX2_init_8 : decode cX2_init 8 = .ok (.newarray .int, 2) := by decide +kernel
theorem dX2_init_10 : decode cX2_init 10 = .ok (.putfield 9, 3) := by decide +kernel
theorem dX2_init_13 : decode cX2_init 13 = .ok (.aload_n 0, 1) := by decide +kernel
theorem dX2_init_14 : decode cX2_init 14 = .ok (.sipush 200, 3) := by decide +kernel
theorem dX2_init_17 : decode cX2_init 17 = .ok (.newarray .int, 2) := by decide +kernel
theorem dX2_init_19 : decode cX2_init 19 = .ok (.putfield 15, 3) := by decide +kernel
theorem dX2_init_22 : decode cX2_init 22 = .ok (.aload_n 0, 1) := by decide +kernel
theorem dX2_init_23 : decode cX2_init 23 = .ok (.sipush 200, 3) := by decide +kernel
theorem dX2_init_26 : decode cX2_init 26 = .ok (.newarray .int, 2) := by decide +kernel
theorem dX2_init_28 : decode cX2_init 28 = .ok (.putfield 18, 3) := by decide +kernel
theorem dX2_init_31 : decode cX2_init 31 = .ok (.aload_n 0, 1) := by decide +kernel
theorem dX2_init_32 : decode cX2_init 32 = .ok (.sipush 200, 3) := by decide +kernel
theorem dX2_init_35 : decode cX2_init 35 = .ok (.newarray .int, 2) := by decide +kernel
theorem dX2_init_37 : decode cX2_init 37 = .ok (.putfield 21, 3) := by decide +kernel
theorem dX2_init_40 : decode cX2_init 40 = .ok (.aload_n 0, 1) := by decide +kernel
theorem dX2_init_41 : decode cX2_init 41 = .ok (.sipush 200, 3) := by decide +kernel
theorem dX2_init_44 : decode cX2_init 44 = .ok (.newarray .int, 2) := by decide +kernel
theorem dX2_init_46 : decode cX2_init 46 = .ok (.putfield 24, 3) := by decide +kernel
theorem dX2_init_49 : decode cX2_init 49 = .ok (.aload_n 0, 1) := by decide +kernel
theorem dX2_init_50 : decode cX2_init 50 = .ok (.sipush 200, 3) := by decide +kernel
theorem dX2_init_53 : decode cX2_init 53 = .ok (.newarray .int, 2) := by decide +kernel
theorem dX2_init_55 : decode cX2_init 55 = .ok (.putfield 27, 3) := by decide +kernel
theorem dX2_init_58 : decode cX2_init 58 = .ok (.aload_n 0, 1) := by decide +kernel
theorem dX2_init_59 : decode cX2_init 59 = .ok (.sipush 200, 3) := by decide +kernel
theorem dX2_init_62 : decode cX2_init 62 = .ok (.newarray .boolean, 2) := by decide +kernel
theorem dX2_init_64 : decode cX2_init 64 = .ok (.putfield 30, 3) := by decide +kernel
theorem dX2_init_67 : decode cX2_init 67 = .ok (.aload_n 0, 1) := by decide +kernel
theorem dX2_init_68 : decode cX2_init 68 = .ok (.sipush 200, 3) := by decide +kernel
theorem dX2_init_71 : decode cX2_init 71 = .ok (.newarray .boolean, 2) := by decide +kernel
theorem dX2_init_73 : decode cX2_init 73 = .ok (.putfield 34, 3) := by decide +kernel
theorem dX2_init_76 : decode cX2_init 76 = .ok (.aload_n 0, 1) := by decide +kernel
theorem dX2_init_77 : decode cX2_init 77 = .ok (.new 37, 3) := by decide +kernel
theorem dX2_init_80 : decode cX2_init 80 = .ok (.dup, 1) := by decide +kernel
theorem dX2_init_81 : decode cX2_init 81 = .ok (.sipush 200, 3) := by decide +kernel
theorem dX2_init_84 : decode cX2_init 84 = .ok (.invokespecial 39, 3) := by decide +kernel
theorem dX2_init_87 : decode cX2_init 87 = .ok (.putfield 42, 3) := by decide +kernel
theorem dX2_init_90 : decode cX2_init 90 = .ok (.return_, 1) := by decide +kernel
theorem dX2_isFull_0 : decode cX2_isFull 0 = .ok (.aload_n 0, 1) := by decide +kernel
theorem dX2_isFull_1 : decode cX2_isFull 1 = .ok (.getfield 46, 3) := by decide +kernel
theorem dX2_isFull_4 : decode cX2_isFull 4 = .ok (.sipush 200, 3) := by decide +kernel
theorem dX2_isFull_7 : decode cX2_isFull 7 = .ok (.if_icmp .lt 7, 3) := by decide +kernel
theorem dX2_isFull_10 : decode cX2_isFull 10 = .ok (.iconst 1, 1) := by decide +kernel
theorem dX2_isFull_11 : decode cX2_isFull 11 = .ok (.goto 4, 3) := by decide +kernel
theorem dX2_isFull_14 : decode cX2_isFull 14 = .ok (.iconst 0, 1) := by decide +kernel
theorem dX2_isFull_15 : decode cX2_isFull 15 = .ok (.ireturn, 1) := by decide +kernel
theorem dX2_has_0 : decode cX2_has 0 = .ok (.iload_n 1, 1) := by decide +kernel
theorem dX2_has_1 : decode cX2_has 1 = .ok (.ifCond .lt 15, 3) := by decide +kernel
theorem dX2_has_4 : decode cX2_has 4 = .ok (.iload_n 1, 1) := by decide +kernel
theorem dX2_has_5 : decode cX2_has 5 = .ok (.aload_n 0, 1) := by decide +kernel
theorem dX2_has_6 : decode cX2_has 6 = .ok (.getfield 46, 3) := by decide +kernel
theorem dX2_has_9 : decode cX2_has 9 = .ok (.if_icmp .ge 7, 3) := by decide +kernel
theorem dX2_has_12 : decode cX2_has 12 = .ok (.iconst 1, 1) := by decide +kernel
theorem dX2_has_13 : decode cX2_has 13 = .ok (.goto 4, 3) := by decide +kernel
theorem dX2_has_16 : decode cX2_has 16 = .ok (.iconst 0, 1) := by decide +kernel
theorem dX2_has_17 : decode cX2_has 17 = .ok (.ireturn, 1) := by decide +kernel
theorem dX2_isAggregate_0 : decode cX2_isAggregate 0 = .ok (.aload_n 0, 1) := by decide +kernel
theorem dX2_isAggregate_1 : decode cX2_isAggregate 1 = .ok (.getfield 9, 3) := by decide +kernel
theorem dX2_isAggregate_4 : decode cX2_isAggregate 4 = .ok (.iload_n 1, 1) := by decide +kernel
theorem dX2_isAggregate_5 : decode cX2_isAggregate 5 = .ok (.iaload, 1) := by decide +kernel
theorem dX2_isAggregate_6 : decode cX2_isAggregate 6 = .ok (.invokestatic 50, 3) := by decide +kernel
theorem dX2_isAggregate_9 : decode cX2_isAggregate 9 = .ok (.ireturn, 1) := by decide +kernel
theorem dX2_canBeCondition_0 : decode cX2_canBeCondition 0 = .ok (.aload_n 0, 1) := by decide +kernel
theorem dX2_canBeCondition_1 : decode cX2_canBeCondition 1 = .ok (.iload_n 1, 1) := by decide +kernel
theorem dX2_canBeCondition_2 : decode cX2_canBeCondition 2 = .ok (.invokevirtual 54, 3) := by decide +kernel
theorem dX2_canBeCondition_5 : decode cX2_canBeCondition 5 = .ok (.ifCond .eq 25, 3) := by decide +kernel
theorem dX2_canBeCondition_8 : decode cX2_canBeCondition 8 = .ok (.aload_n 0, 1) := by decide +kernel
theorem dX2_canBeCondition_9 : decode cX2_canBeCondition 9 = .ok (.iload_n 1, 1) := by decide +kernel
theorem dX2_canBeCondition_10 : decode cX2_canBeCondition 10 = .ok (.iconst 3, 1) := by decide +kernel
theorem dX2_canBeCondition_11 : decode cX2_canBeCondition 11 = .ok (.invokevirtual 57, 3) := by decide +kernel
theorem dX2_canBeCondition_14 : decode cX2_canBeCondition 14 = .ok (.ifCond .eq 16, 3) := by decide +kernel
theorem dX2_canBeCondition_17 : decode cX2_canBeCondition 17 = .ok (.aload_n 0, 1) := by decide +kernel
theorem dX2_canBeCondition_18 : decode cX2_canBeCondition 18 = .ok (.getfield 30, 3) := by decide +kernel
theorem dX2_canBeCondition_21 : decode cX2_canBeCondition 21 = .ok (.iload_n 1, 1) := by decide +kernel
theorem dX2_canBeCondition_22 : decode cX2_canBeCondition 22 = .ok (.baload, 1) := by decide +kernel
theorem dX2_canBeCondition_23 : decode cX2_canBeCondition 23 = .ok (.ifCond .ne 7, 3) := by decide +kernel
theorem dX2_canBeCondition_26 : decode cX2_canBeCondition 26 = .ok (.iconst 1, 1) := by decide +kernel
theorem dX2_canBeCondition_27 : decode cX2_canBeCondition 27 = .ok (.goto 4, 3) := by decide +kernel
theorem dX2_canBeCondition_30 : decode cX2_canBeCondition 30 = .ok (.iconst 0, 1) := by decide +kernel
theorem dX2_canBeCondition_31 : decode cX2_canBeCondition 31 = .ok (.ireturn, 1) := by decide +kernel
theorem dX2_addColumn_0 : decode cX2_addColumn 0 = .ok (.aload_n 0, 1) := by decide +kernel
theorem dX2_addColumn_1 : decode cX2_addColumn 1 = .ok (.iconst 4, 1) := by decide +kernel
theorem dX2_addColumn_2 : decode cX2_addColumn 2 = .ok (.iload_n 3, 1) := by decide +kernel
theorem dX2_addColumn_3 : decode cX2_addColumn 3 = .ok (.iconst (-1), 1) := by decide +kernel
theorem dX2_addColumn_4 : decode cX2_addColumn 4 = .ok (.iconst (-1), 1) := by decide +kernel
theorem dX2_addColumn_5 : decode cX2_addColumn 5 = .ok (.invokevirtual 61, 3) := by decide +kernel
theorem dX2_addColumn_8 : decode cX2_addColumn 8 = .ok (.istore 4, 2) := by decide +kernel
theorem dX2_addColumn_10 : decode cX2_addColumn 10 = .ok (.aload_n 0, 1) := by decide +kernel
theorem dX2_addColumn_11 : decode cX2_addColumn 11 = .ok (.getfield 24, 3) := by decide +kernel
theorem dX2_addColumn_14 : decode cX2_addColumn 14 = .ok (.iload 4, 2) := by decide +kernel
theorem dX2_addColumn_16 : decode cX2_addColumn 16 = .ok (.iload_n 1, 1) := by decide +kernel
theorem dX2_addColumn_17 : decode cX2_addColumn 17 = .ok (.iastore, 1) := by decide +kernel
theorem dX2_addColumn_18 : decode cX2_addColumn 18 = .ok (.aload_n 0, 1) := by decide +kernel
theorem dX2_addColumn_19 : decode cX2_addColumn 19 = .ok (.getfield 27, 3) := by decide +kernel
theorem dX2_addColumn_22 : decode cX2_addColumn 22 = .ok (.iload 4, 2) := by decide +kernel
theorem dX2_addColumn_24 : decode cX2_addColumn 24 = .ok (.iload_n 2, 1) := by decide +kernel
theorem dX2_addColumn_25 : decode cX2_addColumn 25 = .ok (.iastore, 1) := by decide +kernel
theorem dX2_addColumn_26 : decode cX2_addColumn 26 = .ok (.iload 4, 2) := by decide +kernel
theorem dX2_addColumn_28 : decode cX2_addColumn 28 = .ok (.ireturn, 1) := by decide +kernel
theorem dX2_addConstant_0 : decode cX2_addConstant 0 = .ok (.aload_n 0, 1) := by decide +kernel
theorem dX2_addConstant_1 : decode cX2_addConstant 1 = .ok (.aload_n 1, 1) := by decide +kernel
theorem dX2_addConstant_2 : decode cX2_addConstant 2 = .ok (.getfield 65, 3) := by decide +kernel
theorem dX2_addConstant_5 : decode cX2_addConstant 5 = .ok (.iload_n 2, 1) := by decide +kernel
theorem dX2_addConstant_6 : decode cX2_addConstant 6 = .ok (.iaload, 1) := by decide +kernel
theorem dX2_addConstant_7 : decode cX2_addConstant 7 = .ok (.aload_n 1, 1) := by decide +kernel
theorem dX2_addConstant_8 : decode cX2_addConstant 8 = .ok (.getfield 65, 3) := by decide +kernel
theorem dX2_addConstant_11 : decode cX2_addConstant 11 = .ok (.iload_n 2, 1) := by decide +kernel
theorem dX2_addConstant_12 : decode cX2_addConstant 12 = .ok (.iaload, 1) := by decide +kernel
theorem dX2_addConstant_13 : decode cX2_addConstant 13 = .ok (.iconst (-1), 1) := by decide +kernel
theorem dX2_addConstant_14 : decode cX2_addConstant 14 = .ok (.iconst (-1), 1) := by decide +kernel
theorem dX2_addConstant_15 : decode cX2_addConstant 15 = .ok (.invokevirtual 61, 3) := by decide +kernel
theorem dX2_addConstant_18 : decode cX2_addConstant 18 = .ok (.istore_n 3, 1) := by decide +kernel
theorem dX2_addConstant_19 : decode cX2_addConstant 19 = .ok (.aload_n 0, 1) := by decide +kernel
theorem dX2_addConstant_20 : decode cX2_addConstant 20 = .ok (.getfield 42, 3) := by decide +kernel
theorem dX2_addConstant_23 : decode cX2_addConstant 23 = .ok (.iload_n 3, 1) := by decide +kernel
theorem dX2_addConstant_24 : decode cX2_addConstant 24 = .ok (.aload_n 1, 1) := by decide +kernel
theorem dX2_addConstant_25 : decode cX2_addConstant 25 = .ok (.iload_n 2, 1) := by decide +kernel
theorem dX2_addConstant_26 : decode cX2_addConstant 26 = .ok (.invokevirtual 66, 3) := by decide +kernel
theorem dX2_addConstant_29 : decode cX2_addConstant 29 = .ok (.iload_n 3, 1) := by decide +kernel
theorem dX2_addConstant_30 : decode cX2_addConstant 30 = .ok (.ireturn, 1) := by decide +kernel
theorem dX2_addComputed_0 : decode cX2_addComputed 0 = .ok (.iload_n 1, 1) := by decide +kernel
theorem dX2_addComputed_1 : decode cX2_addComputed 1 = .ok (.invokestatic 70, 3) := by decide +kernel
theorem dX2_addComputed_4 : decode cX2_addComputed 4 = .ok (.istore 4, 2) := by decide +kernel
theorem dX2_addComputed_6 : decode cX2_addComputed 6 = .ok (.iload 4, 2) := by decide +kernel
theorem dX2_addComputed_8 : decode cX2_addComputed 8 = .ok (.iconst 1, 1) := by decide +kernel
theorem dX2_addComputed_9 : decode cX2_addComputed 9 = .ok (.if_icmp .lt 13, 3) := by decide +kernel
theorem dX2_addComputed_12 : decode cX2_addComputed 12 = .ok (.aload_n 0, 1) := by decide +kernel
theorem dX2_addComputed_13 : decode cX2_addComputed 13 = .ok (.iload_n 2, 1) := by decide +kernel
theorem dX2_addComputed_14 : decode cX2_addComputed 14 = .ok (.invokevirtual 74, 3) := by decide +kernel
theorem dX2_addComputed_17 : decode cX2_addComputed 17 = .ok (.ifCond .ne 5, 3) := by decide +kernel
theorem dX2_addComputed_20 : decode cX2_addComputed 20 = .ok (.iconst (-1), 1) := by decide +kernel
theorem dX2_addComputed_21 : decode cX2_addComputed 21 = .ok (.ireturn, 1) := by decide +kernel
theorem dX2_addComputed_22 : decode cX2_addComputed 22 = .ok (.iload 4, 2) := by decide +kernel
theorem dX2_addComputed_24 : decode cX2_addComputed 24 = .ok (.iconst 2, 1) := by decide +kernel
theorem dX2_addComputed_25 : decode cX2_addComputed 25 = .ok (.if_icmp .ne 18, 3) := by decide +kernel
theorem dX2_addComputed_28 : decode cX2_addComputed 28 = .ok (.aload_n 0, 1) := by decide +kernel
theorem dX2_addComputed_29 : decode cX2_addComputed 29 = .ok (.iload_n 3, 1) := by decide +kernel
theorem dX2_addComputed_30 : decode cX2_addComputed 30 = .ok (.invokevirtual 74, 3) := by decide +kernel
theorem dX2_addComputed_33 : decode cX2_addComputed 33 = .ok (.ifCond .eq 8, 3) := by decide +kernel
theorem dX2_addComputed_36 : decode cX2_addComputed 36 = .ok (.iload_n 2, 1) := by decide +kernel
theorem dX2_addComputed_37 : decode cX2_addComputed 37 = .ok (.iload_n 3, 1) := by decide +kernel
theorem dX2_addComputed_38 : decode cX2_addComputed 38 = .ok (.if_icmp .ne 5, 3) := by decide +kernel
theorem dX2_addComputed_41 : decode cX2_addComputed 41 = .ok (.iconst (-1), 1) := by decide +kernel
theorem dX2_addComputed_42 : decode cX2_addComputed 42 = .ok (.ireturn, 1) := by decide +kernel
theorem dX2_addComputed_43 : decode cX2_addComputed 43 = .ok (.aload_n 0, 1) := by decide +kernel
theorem dX2_addComputed_44 : decode cX2_addComputed 44 = .ok (.iload_n 1, 1) := by decide +kernel
theorem dX2_addComputed_45 : decode cX2_addComputed 45 = .ok (.iload_n 2, 1) := by decide +kernel
theorem dX2_addComputed_46 : decode cX2_addComputed 46 = .ok (.iload_n 3, 1) := by decide +kernel
theorem dX2_addComputed_47 : decode cX2_addComputed 47 = .ok (.invokevirtual 77, 3) := by decide +kernel
theorem dX2_addComputed_50 : decode cX2_addComputed 50 = .ok (.ifCond .eq 18, 3) := by decide +kernel
theorem dX2_addComputed_53 : decode cX2_addComputed 53 = .ok (.iload_n 1, 1) := by decide +kernel
theorem dX2_addComputed_54 : decode cX2_addComputed 54 = .ok (.invokestatic 50, 3) := by decide +kernel
theorem dX2_addComputed_57 : decode cX2_addComputed 57 = .ok (.ifCond .eq 13, 3) := by decide +kernel
theorem dX2_addComputed_60 : decode cX2_addComputed 60 = .ok (.aload_n 0, 1) := by decide +kernel
theorem dX2_addComputed_61 : decode cX2_addComputed 61 = .ok (.iload_n 2, 1) := by decide +kernel
theorem dX2_addComputed_62 : decode cX2_addComputed 62 = .ok (.invokevirtual 81, 3) := by decide +kernel
theorem dX2_addComputed_65 : decode cX2_addComputed 65 = .ok (.ifCond .eq 5, 3) := by decide +kernel
theorem dX2_addComputed_68 : decode cX2_addComputed 68 = .ok (.iconst (-1), 1) := by decide +kernel
theorem dX2_addComputed_69 : decode cX2_addComputed 69 = .ok (.ireturn, 1) := by decide +kernel
theorem dX2_addComputed_70 : decode cX2_addComputed 70 = .ok (.aload_n 0, 1) := by decide +kernel
theorem dX2_addComputed_71 : decode cX2_addComputed 71 = .ok (.iload_n 1, 1) := by decide +kernel
theorem dX2_addComputed_72 : decode cX2_addComputed 72 = .ok (.aload_n 0, 1) := by decide +kernel
theorem dX2_addComputed_73 : decode cX2_addComputed 73 = .ok (.iload_n 1, 1) := by decide +kernel
theorem dX2_addComputed_74 : decode cX2_addComputed 74 = .ok (.iload_n 2, 1) := by decide +kernel
theorem dX2_addComputed_75 : decode cX2_addComputed 75 = .ok (.invokevirtual 84, 3) := by decide +kernel
theorem dX2_addComputed_78 : decode cX2_addComputed 78 = .ok (.iload_n 2, 1) := by decide +kernel
theorem dX2_addComputed_79 : decode cX2_addComputed 79 = .ok (.iload_n 3, 1) := by decide +kernel
theorem dX2_addComputed_80 : decode cX2_addComputed 80 = .ok (.invokevirtual 61, 3) := by decide +kernel
theorem dX2_addComputed_83 : decode cX2_addComputed 83 = .ok (.istore 5, 2) := by decide +kernel
theorem dX2_addComputed_85 : decode cX2_addComputed 85 = .ok (.aload_n 0, 1) := by decide +kernel
theorem dX2_addComputed_86 : decode cX2_addComputed 86 = .ok (.getfield 30, 3) := by decide +kernel
theorem dX2_addComputed_89 : decode cX2_addComputed 89 = .ok (.iload 5, 2) := by decide +kernel
theorem dX2_addComputed_91 : decode cX2_addComputed 91 = .ok (.iload_n 1, 1) := by decide +kernel
theorem dX2_addComputed_92 : decode cX2_addComputed 92 = .ok (.invokestatic 50, 3) := by decide +kernel
theorem dX2_addComputed_95 : decode cX2_addComputed 95 = .ok (.ifCond .ne 19, 3) := by decide +kernel
theorem dX2_addComputed_98 : decode cX2_addComputed 98 = .ok (.aload_n 0, 1) := by decide +kernel
theorem dX2_addComputed_99 : decode cX2_addComputed 99 = .ok (.iload_n 2, 1) := by decide +kernel
theorem dX2_addComputed_100 : decode cX2_addComputed 100 = .ok (.invokevirtual 81, 3) := by decide +kernel
theorem dX2_addComputed_103 : decode cX2_addComputed 103 = .ok (.ifCond .ne 11, 3) := by decide +kernel
theorem dX2_addComputed_106 : decode cX2_addComputed 106 = .ok (.aload_n 0, 1) := by decide +kernel
theorem dX2_addComputed_107 : decode cX2_addComputed 107 = .ok (.iload_n 3, 1) := by decide +kernel
theorem dX2_addComputed_108 : decode cX2_addComputed 108 = .ok (.invokevirtual 81, 3) := by decide +kernel
theorem dX2_addComputed_111 : decode cX2_addComputed 111 = .ok (.ifCond .eq 7, 3) := by decide +kernel
theorem dX2_addComputed_114 : decode cX2_addComputed 114 = .ok (.iconst 1, 1) := by decide +kernel
theorem dX2_addComputed_115 : decode cX2_addComputed 115 = .ok (.goto 4, 3) := by decide +kernel
theorem dX2_addComputed_118 : decode cX2_addComputed 118 = .ok (.iconst 0, 1) := by decide +kernel
theorem dX2_addComputed_119 : decode cX2_addComputed 119 = .ok (.bastore, 1) := by decide +kernel
theorem dX2_addComputed_120 : decode cX2_addComputed 120 = .ok (.aload_n 0, 1) := by decide +kernel
theorem dX2_addComputed_121 : decode cX2_addComputed 121 = .ok (.iload_n 2, 1) := by decide +kernel
theorem dX2_addComputed_122 : decode cX2_addComputed 122 = .ok (.invokevirtual 88, 3) := by decide +kernel
theorem dX2_addComputed_125 : decode cX2_addComputed 125 = .ok (.aload_n 0, 1) := by decide +kernel
theorem dX2_addComputed_126 : decode cX2_addComputed 126 = .ok (.iload_n 3, 1) := by decide +kernel
theorem dX2_addComputed_127 : decode cX2_addComputed 127 = .ok (.invokevirtual 88, 3) := by decide +kernel
theorem dX2_addComputed_130 : decode cX2_addComputed 130 = .ok (.iload 5, 2) := by decide +kernel
theorem dX2_addComputed_132 : decode cX2_addComputed 132 = .ok (.ireturn, 1) := by decide +kernel
theorem dX2_append_0 : decode cX2_append 0 = .ok (.aload_n 0, 1) := by decide +kernel
theorem dX2_append_1 : decode cX2_append 1 = .ok (.getfield 46, 3) := by decide +kernel
theorem dX2_append_4 : decode cX2_append 4 = .ok (.istore 5, 2) := by decide +kernel
theorem dX2_append_6 : decode cX2_append 6 = .ok (.aload_n 0, 1) := by decide +kernel
theorem dX2_append_7 : decode cX2_append 7 = .ok (.getfield 9, 3) := by decide +kernel
theorem dX2_append_10 : decode cX2_append 10 = .ok (.iload 5, 2) := by decide +kernel
theorem dX2_append_12 : decode cX2_append 12 = .ok (.iload_n 1, 1) := by decide +kernel
theorem dX2_append_13 : decode cX2_append 13 = .ok (.iastore, 1) := by decide +kernel
theorem dX2_append_14 : decode cX2_append 14 = .ok (.aload_n 0, 1) := by decide +kernel
theorem dX2_append_15 : decode cX2_append 15 = .ok (.getfield 15, 3) := by decide +kernel
theorem dX2_append_18 : decode cX2_append 18 = .ok (.iload 5, 2) := by decide +kernel
theorem dX2_append_20 : decode cX2_append 20 = .ok (.iload_n 2, 1) := by decide +kernel
theorem dX2_append_21 : decode cX2_append 21 = .ok (.iastore, 1) := by decide +kernel
theorem dX2_append_22 : decode cX2_append 22 = .ok (.aload_n 0, 1) := by decide +kernel
theorem dX2_append_23 : decode cX2_append 23 = .ok (.getfield 18, 3) := by decide +kernel
theorem dX2_append_26 : decode cX2_append 26 = .ok (.iload 5, 2) := by decide +kernel
theorem dX2_append_28 : decode cX2_append 28 = .ok (.iload_n 3, 1) := by decide +kernel
theorem dX2_append_29 : decode cX2_append 29 = .ok (.iastore, 1) := by decide +kernel
theorem dX2_append_30 : decode cX2_append 30 = .ok (.aload_n 0, 1) := by decide +kernel
theorem dX2_append_31 : decode cX2_append 31 = .ok (.getfield 21, 3) := by decide +kernel
theorem dX2_append_34 : decode cX2_append 34 = .ok (.iload 5, 2) := by decide +kernel
theorem dX2_append_36 : decode cX2_append 36 = .ok (.iload 4, 2) := by decide +kernel
theorem dX2_append_38 : decode cX2_append 38 = .ok (.iastore, 1) := by decide +kernel
theorem dX2_append_39 : decode cX2_append 39 = .ok (.aload_n 0, 1) := by decide +kernel
theorem dX2_append_40 : decode cX2_append 40 = .ok (.getfield 30, 3) := by decide +kernel
theorem dX2_append_43 : decode cX2_append 43 = .ok (.iload 5, 2) := by decide +kernel
theorem dX2_append_45 : decode cX2_append 45 = .ok (.iconst 0, 1) := by decide +kernel
theorem dX2_append_46 : decode cX2_append 46 = .ok (.bastore, 1) := by decide +kernel
theorem dX2_append_47 : decode cX2_append 47 = .ok (.aload_n 0, 1) := by decide +kernel
theorem dX2_append_48 : decode cX2_append 48 = .ok (.getfield 34, 3) := by decide +kernel
theorem dX2_append_51 : decode cX2_append 51 = .ok (.iload 5, 2) := by decide +kernel
theorem dX2_append_53 : decode cX2_append 53 = .ok (.iconst 0, 1) := by decide +kernel
theorem dX2_append_54 : decode cX2_append 54 = .ok (.bastore, 1) := by decide +kernel
theorem dX2_append_55 : decode cX2_append 55 = .ok (.aload_n 0, 1) := by decide +kernel
theorem dX2_append_56 : decode cX2_append 56 = .ok (.dup, 1) := by decide +kernel
theorem dX2_append_57 : decode cX2_append 57 = .ok (.getfield 46, 3) := by decide +kernel
theorem dX2_append_60 : decode cX2_append 60 = .ok (.iconst 1, 1) := by decide +kernel
theorem dX2_append_61 : decode cX2_append 61 = .ok (.iadd, 1) := by decide +kernel
theorem dX2_append_62 : decode cX2_append 62 = .ok (.putfield 46, 3) := by decide +kernel
theorem dX2_append_65 : decode cX2_append 65 = .ok (.iload 5, 2) := by decide +kernel
theorem dX2_append_67 : decode cX2_append 67 = .ok (.ireturn, 1) := by decide +kernel
theorem dX2_isFree_0 : decode cX2_isFree 0 = .ok (.aload_n 0, 1) := by decide +kernel
theorem dX2_isFree_1 : decode cX2_isFree 1 = .ok (.iload_n 1, 1) := by decide +kernel
theorem dX2_isFree_2 : decode cX2_isFree 2 = .ok (.invokevirtual 54, 3) := by decide +kernel
theorem dX2_isFree_5 : decode cX2_isFree 5 = .ok (.ifCond .eq 16, 3) := by decide +kernel
theorem dX2_isFree_8 : decode cX2_isFree 8 = .ok (.aload_n 0, 1) := by decide +kernel
theorem dX2_isFree_9 : decode cX2_isFree 9 = .ok (.getfield 34, 3) := by decide +kernel
theorem dX2_isFree_12 : decode cX2_isFree 12 = .ok (.iload_n 1, 1) := by decide +kernel
theorem dX2_isFree_13 : decode cX2_isFree 13 = .ok (.baload, 1) := by decide +kernel
theorem dX2_isFree_14 : decode cX2_isFree 14 = .ok (.ifCond .ne 7, 3) := by decide +kernel
theorem dX2_isFree_17 : decode cX2_isFree 17 = .ok (.iconst 1, 1) := by decide +kernel
theorem dX2_isFree_18 : decode cX2_isFree 18 = .ok (.goto 4, 3) := by decide +kernel
theorem dX2_isFree_21 : decode cX2_isFree 21 = .ok (.iconst 0, 1) := by decide +kernel
theorem dX2_isFree_22 : decode cX2_isFree 22 = .ok (.ireturn, 1) := by decide +kernel
theorem dX2_take_0 : decode cX2_take 0 = .ok (.aload_n 0, 1) := by decide +kernel
theorem dX2_take_1 : decode cX2_take 1 = .ok (.iload_n 1, 1) := by decide +kernel
theorem dX2_take_2 : decode cX2_take 2 = .ok (.invokevirtual 54, 3) := by decide +kernel
theorem dX2_take_5 : decode cX2_take 5 = .ok (.ifCond .eq 10, 3) := by decide +kernel
theorem dX2_take_8 : decode cX2_take 8 = .ok (.aload_n 0, 1) := by decide +kernel
theorem dX2_take_9 : decode cX2_take 9 = .ok (.getfield 34, 3) := by decide +kernel
theorem dX2_take_12 : decode cX2_take 12 = .ok (.iload_n 1, 1) := by decide +kernel
theorem dX2_take_13 : decode cX2_take 13 = .ok (.iconst 1, 1) := by decide +kernel
theorem dX2_take_14 : decode cX2_take 14 = .ok (.bastore, 1) := by decide +kernel
theorem dX2_take_15 : decode cX2_take 15 = .ok (.return_, 1) := by decide +kernel
theorem dX2_hasAggregate_0 : decode cX2_hasAggregate 0 = .ok (.aload_n 0, 1) := by decide +kernel
theorem dX2_hasAggregate_1 : decode cX2_hasAggregate 1 = .ok (.iload_n 1, 1) := by decide +kernel
theorem dX2_hasAggregate_2 : decode cX2_hasAggregate 2 = .ok (.invokevirtual 54, 3) := by decide +kernel
theorem dX2_hasAggregate_5 : decode cX2_hasAggregate 5 = .ok (.ifCond .eq 16, 3) := by decide +kernel
theorem dX2_hasAggregate_8 : decode cX2_hasAggregate 8 = .ok (.aload_n 0, 1) := by decide +kernel
theorem dX2_hasAggregate_9 : decode cX2_hasAggregate 9 = .ok (.getfield 30, 3) := by decide +kernel
theorem dX2_hasAggregate_12 : decode cX2_hasAggregate 12 = .ok (.iload_n 1, 1) := by decide +kernel
theorem dX2_hasAggregate_13 : decode cX2_hasAggregate 13 = .ok (.baload, 1) := by decide +kernel
theorem dX2_hasAggregate_14 : decode cX2_hasAggregate 14 = .ok (.ifCond .eq 7, 3) := by decide +kernel
theorem dX2_hasAggregate_17 : decode cX2_hasAggregate 17 = .ok (.iconst 1, 1) := by decide +kernel
theorem dX2_hasAggregate_18 : decode cX2_hasAggregate 18 = .ok (.goto 4, 3) := by decide +kernel
theorem dX2_hasAggregate_21 : decode cX2_hasAggregate 21 = .ok (.iconst 0, 1) := by decide +kernel
theorem dX2_hasAggregate_22 : decode cX2_hasAggregate 22 = .ok (.ireturn, 1) := by decide +kernel
theorem dX2_isOfType_0 : decode cX2_isOfType 0 = .ok (.aload_n 0, 1) := by decide +kernel
theorem dX2_isOfType_1 : decode cX2_isOfType 1 = .ok (.getfield 15, 3) := by decide +kernel
theorem dX2_isOfType_4 : decode cX2_isOfType 4 = .ok (.iload_n 1, 1) := by decide +kernel
theorem dX2_isOfType_5 : decode cX2_isOfType 5 = .ok (.iaload, 1) := by decide +kernel
theorem dX2_isOfType_6 : decode cX2_isOfType 6 = .ok (.iload_n 2, 1) := by decide +kernel
theorem dX2_isOfType_7 : decode cX2_isOfType 7 = .ok (.if_icmp .eq 12, 3) := by decide +kernel
theorem dX2_isOfType_10 : decode cX2_isOfType 10 = .ok (.aload_n 0, 1) := by decide +kernel
theorem dX2_isOfType_11 : decode cX2_isOfType 11 = .ok (.getfield 15, 3) := by decide +kernel
theorem dX2_isOfType_14 : decode cX2_isOfType 14 = .ok (.iload_n 1, 1) := by decide +kernel
theorem dX2_isOfType_15 : decode cX2_isOfType 15 = .ok (.iaload, 1) := by decide +kernel
theorem dX2_isOfType_16 : decode cX2_isOfType 16 = .ok (.ifCond .ne 7, 3) := by decide +kernel
theorem dX2_isOfType_19 : decode cX2_isOfType 19 = .ok (.iconst 1, 1) := by decide +kernel
theorem dX2_isOfType_20 : decode cX2_isOfType 20 = .ok (.goto 4, 3) := by decide +kernel
theorem dX2_isOfType_23 : decode cX2_isOfType 23 = .ok (.iconst 0, 1) := by decide +kernel
theorem dX2_isOfType_24 : decode cX2_isOfType 24 = .ok (.ireturn, 1) := by decide +kernel
theorem dX2_typesFit_0 : decode cX2_typesFit 0 = .ok (.iload_n 1, 1) := by decide +kernel
theorem dX2_typesFit_1 : decode cX2_typesFit 1 = .ok (.tableswitch 211 5 27 #[107, 107, 109, 116, 116, 109, 132, 132, 132, 132, 132, 156, 211, 211, 211, 211, 211, 211, 107, 107, 180, 187, 187], 107) := by decide +kernel
theorem dX2_typesFit_108 : decode cX2_typesFit 108 = .ok (.iconst 1, 1) := by decide +kernel
theorem dX2_typesFit_109 : decode cX2_typesFit 109 = .ok (.ireturn, 1) := by decide +kernel
theorem dX2_typesFit_110 : decode cX2_typesFit 110 = .ok (.aload_n 0, 1) := by decide +kernel
theorem dX2_typesFit_111 : decode cX2_typesFit 111 = .ok (.iload_n 2, 1) := by decide +kernel
theorem dX2_typesFit_112 : decode cX2_typesFit 112 = .ok (.iconst 1, 1) := by decide +kernel
theorem dX2_typesFit_113 : decode cX2_typesFit 113 = .ok (.invokevirtual 57, 3) := by decide +kernel
theorem dX2_typesFit_116 : decode cX2_typesFit 116 = .ok (.ireturn, 1) := by decide +kernel
theorem dX2_typesFit_117 : decode cX2_typesFit 117 = .ok (.aload_n 0, 1) := by decide +kernel
theorem dX2_typesFit_118 : decode cX2_typesFit 118 = .ok (.getfield 15, 3) := by decide +kernel
theorem dX2_typesFit_121 : decode cX2_typesFit 121 = .ok (.iload_n 2, 1) := by decide +kernel
theorem dX2_typesFit_122 : decode cX2_typesFit 122 = .ok (.iaload, 1) := by decide +kernel
theorem dX2_typesFit_123 : decode cX2_typesFit 123 = .ok (.iconst 3, 1) := by decide +kernel
theorem dX2_typesFit_124 : decode cX2_typesFit 124 = .ok (.if_icmp .eq 7, 3) := by decide +kernel
theorem dX2_typesFit_127 : decode cX2_typesFit 127 = .ok (.iconst 1, 1) := by decide +kernel
theorem dX2_typesFit_128 : decode cX2_typesFit 128 = .ok (.goto 4, 3) := by decide +kernel
theorem dX2_typesFit_131 : decode cX2_typesFit 131 = .ok (.iconst 0, 1) := by decide +kernel
theorem dX2_typesFit_132 : decode cX2_typesFit 132 = .ok (.ireturn, 1) := by decide +kernel
theorem dX2_typesFit_133 : decode cX2_typesFit 133 = .ok (.aload_n 0, 1) := by decide +kernel
theorem dX2_typesFit_134 : decode cX2_typesFit 134 = .ok (.iload_n 2, 1) := by decide +kernel
theorem dX2_typesFit_135 : decode cX2_typesFit 135 = .ok (.iconst 1, 1) := by decide +kernel
theorem dX2_typesFit_136 : decode cX2_typesFit 136 = .ok (.invokevirtual 57, 3) := by decide +kernel
theorem dX2_typesFit_139 : decode cX2_typesFit 139 = .ok (.ifCond .eq 16, 3) := by decide +kernel
theorem dX2_typesFit_142 : decode cX2_typesFit 142 = .ok (.aload_n 0, 1) := by decide +kernel
theorem dX2_typesFit_143 : decode cX2_typesFit 143 = .ok (.iload_n 3, 1) := by decide +kernel
theorem dX2_typesFit_144 : decode cX2_typesFit 144 = .ok (.iconst 1, 1) := by decide +kernel
theorem dX2_typesFit_145 : decode cX2_typesFit 145 = .ok (.invokevirtual 57, 3) := by decide +kernel
theorem dX2_typesFit_148 : decode cX2_typesFit 148 = .ok (.ifCond .eq 7, 3) := by decide +kernel
theorem dX2_typesFit_151 : decode cX2_typesFit 151 = .ok (.iconst 1, 1) := by decide +kernel
theorem dX2_typesFit_152 : decode cX2_typesFit 152 = .ok (.goto 4, 3) := by decide +kernel
theorem dX2_typesFit_155 : decode cX2_typesFit 155 = .ok (.iconst 0, 1) := by decide +kernel
theorem dX2_typesFit_156 : decode cX2_typesFit 156 = .ok (.ireturn, 1) := by decide +kernel
theorem dX2_typesFit_157 : decode cX2_typesFit 157 = .ok (.aload_n 0, 1) := by decide +kernel
theorem dX2_typesFit_158 : decode cX2_typesFit 158 = .ok (.iload_n 2, 1) := by decide +kernel
theorem dX2_typesFit_159 : decode cX2_typesFit 159 = .ok (.iconst 2, 1) := by decide +kernel
theorem dX2_typesFit_160 : decode cX2_typesFit 160 = .ok (.invokevirtual 57, 3) := by decide +kernel
theorem dX2_typesFit_163 : decode cX2_typesFit 163 = .ok (.ifCond .eq 16, 3) := by decide +kernel
theorem dX2_typesFit_166 : decode cX2_typesFit 166 = .ok (.aload_n 0, 1) := by decide +kernel
theorem dX2_typesFit_167 : decode cX2_typesFit 167 = .ok (.iload_n 3, 1) := by decide +kernel
theorem dX2_typesFit_168 : decode cX2_typesFit 168 = .ok (.iconst 2, 1) := by decide +kernel
theorem dX2_typesFit_169 : decode cX2_typesFit 169 = .ok (.invokevirtual 57, 3) := by decide +kernel
theorem dX2_typesFit_172 : decode cX2_typesFit 172 = .ok (.ifCond .eq 7, 3) := by decide +kernel
theorem dX2_typesFit_175 : decode cX2_typesFit 175 = .ok (.iconst 1, 1) := by decide +kernel
theorem dX2_typesFit_176 : decode cX2_typesFit 176 = .ok (.goto 4, 3) := by decide +kernel
theorem dX2_typesFit_179 : decode cX2_typesFit 179 = .ok (.iconst 0, 1) := by decide +kernel
theorem dX2_typesFit_180 : decode cX2_typesFit 180 = .ok (.ireturn, 1) := by decide +kernel
theorem dX2_typesFit_181 : decode cX2_typesFit 181 = .ok (.aload_n 0, 1) := by decide +kernel
theorem dX2_typesFit_182 : decode cX2_typesFit 182 = .ok (.iload_n 2, 1) := by decide +kernel
theorem dX2_typesFit_183 : decode cX2_typesFit 183 = .ok (.iconst 3, 1) := by decide +kernel
theorem dX2_typesFit_184 : decode cX2_typesFit 184 = .ok (.invokevirtual 57, 3) := by decide +kernel
theorem dX2_typesFit_187 : decode cX2_typesFit 187 = .ok (.ireturn, 1) := by decide +kernel
theorem dX2_typesFit_188 : decode cX2_typesFit 188 = .ok (.aload_n 0, 1) := by decide +kernel
theorem dX2_typesFit_189 : decode cX2_typesFit 189 = .ok (.iload_n 2, 1) := by decide +kernel
theorem dX2_typesFit_190 : decode cX2_typesFit 190 = .ok (.iconst 3, 1) := by decide +kernel
theorem dX2_typesFit_191 : decode cX2_typesFit 191 = .ok (.invokevirtual 57, 3) := by decide +kernel
theorem dX2_typesFit_194 : decode cX2_typesFit 194 = .ok (.ifCond .eq 16, 3) := by decide +kernel
theorem dX2_typesFit_197 : decode cX2_typesFit 197 = .ok (.aload_n 0, 1) := by decide +kernel
theorem dX2_typesFit_198 : decode cX2_typesFit 198 = .ok (.iload_n 3, 1) := by decide +kernel
theorem dX2_typesFit_199 : decode cX2_typesFit 199 = .ok (.iconst 3, 1) := by decide +kernel
theorem dX2_typesFit_200 : decode cX2_typesFit 200 = .ok (.invokevirtual 57, 3) := by decide +kernel
theorem dX2_typesFit_203 : decode cX2_typesFit 203 = .ok (.ifCond .eq 7, 3) := by decide +kernel
theorem dX2_typesFit_206 : decode cX2_typesFit 206 = .ok (.iconst 1, 1) := by decide +kernel
theorem dX2_typesFit_207 : decode cX2_typesFit 207 = .ok (.goto 4, 3) := by decide +kernel
theorem dX2_typesFit_210 : decode cX2_typesFit 210 = .ok (.iconst 0, 1) := by decide +kernel
theorem dX2_typesFit_211 : decode cX2_typesFit 211 = .ok (.ireturn, 1) := by decide +kernel
theorem dX2_typesFit_212 : decode cX2_typesFit 212 = .ok (.aload_n 0, 1) := by decide +kernel
theorem dX2_typesFit_213 : decode cX2_typesFit 213 = .ok (.getfield 15, 3) := by decide +kernel
theorem dX2_typesFit_216 : decode cX2_typesFit 216 = .ok (.iload_n 2, 1) := by decide +kernel
theorem dX2_typesFit_217 : decode cX2_typesFit 217 = .ok (.iaload, 1) := by decide +kernel
theorem dX2_typesFit_218 : decode cX2_typesFit 218 = .ok (.ifCond .eq 17, 3) := by decide +kernel
theorem dX2_typesFit_221 : decode cX2_typesFit 221 = .ok (.aload_n 0, 1) := by decide +kernel
theorem dX2_typesFit_222 : decode cX2_typesFit 222 = .ok (.iload_n 3, 1) := by decide +kernel
theorem dX2_typesFit_223 : decode cX2_typesFit 223 = .ok (.aload_n 0, 1) := by decide +kernel
theorem dX2_typesFit_224 : decode cX2_typesFit 224 = .ok (.getfield 15, 3) := by decide +kernel
theorem dX2_typesFit_227 : decode cX2_typesFit 227 = .ok (.iload_n 2, 1) := by decide +kernel
theorem dX2_typesFit_228 : decode cX2_typesFit 228 = .ok (.iaload, 1) := by decide +kernel
theorem dX2_typesFit_229 : decode cX2_typesFit 229 = .ok (.invokevirtual 57, 3) := by decide +kernel
theorem dX2_typesFit_232 : decode cX2_typesFit 232 = .ok (.ifCond .eq 7, 3) := by decide +kernel
theorem dX2_typesFit_235 : decode cX2_typesFit 235 = .ok (.iconst 1, 1) := by decide +kernel
theorem dX2_typesFit_236 : decode cX2_typesFit 236 = .ok (.goto 4, 3) := by decide +kernel
theorem dX2_typesFit_239 : decode cX2_typesFit 239 = .ok (.iconst 0, 1) := by decide +kernel
theorem dX2_typesFit_240 : decode cX2_typesFit 240 = .ok (.ireturn, 1) := by decide +kernel
theorem dX2_typeOfComputed_0 : decode cX2_typeOfComputed 0 = .ok (.iload_n 1, 1) := by decide +kernel
theorem dX2_typeOfComputed_1 : decode cX2_typeOfComputed 1 = .ok (.bipush 8, 2) := by decide +kernel
theorem dX2_typeOfComputed_3 : decode cX2_typeOfComputed 3 = .ok (.if_icmp .eq 9, 3) := by decide +kernel
theorem dX2_typeOfComputed_6 : decode cX2_typeOfComputed 6 = .ok (.iload_n 1, 1) := by decide +kernel
theorem dX2_typeOfComputed_7 : decode cX2_typeOfComputed 7 = .ok (.bipush 9, 2) := by decide +kernel
theorem dX2_typeOfComputed_9 : decode cX2_typeOfComputed 9 = .ok (.if_icmp .ne 10, 3) := by decide +kernel
theorem dX2_typeOfComputed_12 : decode cX2_typeOfComputed 12 = .ok (.aload_n 0, 1) := by decide +kernel
theorem dX2_typeOfComputed_13 : decode cX2_typeOfComputed 13 = .ok (.getfield 15, 3) := by decide +kernel
theorem dX2_typeOfComputed_16 : decode cX2_typeOfComputed 16 = .ok (.iload_n 2, 1) := by decide +kernel
theorem dX2_typeOfComputed_17 : decode cX2_typeOfComputed 17 = .ok (.iaload, 1) := by decide +kernel
theorem dX2_typeOfComputed_18 : decode cX2_typeOfComputed 18 = .ok (.ireturn, 1) := by decide +kernel
theorem dX2_typeOfComputed_19 : decode cX2_typeOfComputed 19 = .ok (.iload_n 1, 1) := by decide +kernel
theorem dX2_typeOfComputed_20 : decode cX2_typeOfComputed 20 = .ok (.bipush 16, 2) := by decide +kernel
theorem dX2_typeOfComputed_22 : decode cX2_typeOfComputed 22 = .ok (.if_icmp .ne 5, 3) := by decide +kernel
theorem dX2_typeOfComputed_25 : decode cX2_typeOfComputed 25 = .ok (.iconst 2, 1) := by decide +kernel
theorem dX2_typeOfComputed_26 : decode cX2_typeOfComputed 26 = .ok (.ireturn, 1) := by decide +kernel
theorem dX2_typeOfComputed_27 : decode cX2_typeOfComputed 27 = .ok (.iload_n 1, 1) := by decide +kernel
theorem dX2_typeOfComputed_28 : decode cX2_typeOfComputed 28 = .ok (.bipush 16, 2) := by decide +kernel
theorem dX2_typeOfComputed_30 : decode cX2_typeOfComputed 30 = .ok (.if_icmp .ge 7, 3) := by decide +kernel
theorem dX2_typeOfComputed_33 : decode cX2_typeOfComputed 33 = .ok (.iconst 1, 1) := by decide +kernel
theorem dX2_typeOfComputed_34 : decode cX2_typeOfComputed 34 = .ok (.goto 4, 3) := by decide +kernel
theorem dX2_typeOfComputed_37 : decode cX2_typeOfComputed 37 = .ok (.iconst 3, 1) := by decide +kernel
theorem dX2_typeOfComputed_38 : decode cX2_typeOfComputed 38 = .ok (.ireturn, 1) := by decide +kernel
theorem dX2_partsOf_0 : decode cX2_partsOf 0 = .ok (.iload_n 0, 1) := by decide +kernel
theorem dX2_partsOf_1 : decode cX2_partsOf 1 = .ok (.iconst 5, 1) := by decide +kernel
theorem dX2_partsOf_2 : decode cX2_partsOf 2 = .ok (.if_icmp .ne 5, 3) := by decide +kernel
theorem dX2_partsOf_5 : decode cX2_partsOf 5 = .ok (.iconst 0, 1) := by decide +kernel
theorem dX2_partsOf_6 : decode cX2_partsOf 6 = .ok (.ireturn, 1) := by decide +kernel
theorem dX2_partsOf_7 : decode cX2_partsOf 7 = .ok (.iload_n 0, 1) := by decide +kernel
theorem dX2_partsOf_8 : decode cX2_partsOf 8 = .ok (.bipush 10, 2) := by decide +kernel
theorem dX2_partsOf_10 : decode cX2_partsOf 10 = .ok (.if_icmp .le 15, 3) := by decide +kernel
theorem dX2_partsOf_13 : decode cX2_partsOf 13 = .ok (.iload_n 0, 1) := by decide +kernel
theorem dX2_partsOf_14 : decode cX2_partsOf 14 = .ok (.bipush 23, 2) := by decide +kernel
theorem dX2_partsOf_16 : decode cX2_partsOf 16 = .ok (.if_icmp .lt 13, 3) := by decide +kernel
theorem dX2_partsOf_19 : decode cX2_partsOf 19 = .ok (.iload_n 0, 1) := by decide +kernel
theorem dX2_partsOf_20 : decode cX2_partsOf 20 = .ok (.bipush 25, 2) := by decide +kernel
theorem dX2_partsOf_22 : decode cX2_partsOf 22 = .ok (.if_icmp .gt 7, 3) := by decide +kernel
theorem dX2_partsOf_25 : decode cX2_partsOf 25 = .ok (.iconst 1, 1) := by decide +kernel
theorem dX2_partsOf_26 : decode cX2_partsOf 26 = .ok (.goto 4, 3) := by decide +kernel
theorem dX2_partsOf_29 : decode cX2_partsOf 29 = .ok (.iconst 0, 1) := by decide +kernel
theorem dX2_partsOf_30 : decode cX2_partsOf 30 = .ok (.istore_n 1, 1) := by decide +kernel
theorem dX2_partsOf_31 : decode cX2_partsOf 31 = .ok (.iload_n 1, 1) := by decide +kernel
theorem dX2_partsOf_32 : decode cX2_partsOf 32 = .ok (.ifCond .eq 7, 3) := by decide +kernel
theorem dX2_partsOf_35 : decode cX2_partsOf 35 = .ok (.iconst 1, 1) := by decide +kernel
theorem dX2_partsOf_36 : decode cX2_partsOf 36 = .ok (.goto 4, 3) := by decide +kernel
theorem dX2_partsOf_39 : decode cX2_partsOf 39 = .ok (.iconst 2, 1) := by decide +kernel
theorem dX2_partsOf_40 : decode cX2_partsOf 40 = .ok (.ireturn, 1) := by decide +kernel
theorem dX2_isAggregateKind_0 : decode cX2_isAggregateKind 0 = .ok (.iload_n 0, 1) := by decide +kernel
theorem dX2_isAggregateKind_1 : decode cX2_isAggregateKind 1 = .ok (.iconst 5, 1) := by decide +kernel
theorem dX2_isAggregateKind_2 : decode cX2_isAggregateKind 2 = .ok (.if_icmp .lt 13, 3) := by decide +kernel
theorem dX2_isAggregateKind_5 : decode cX2_isAggregateKind 5 = .ok (.iload_n 0, 1) := by decide +kernel
theorem dX2_isAggregateKind_6 : decode cX2_isAggregateKind 6 = .ok (.bipush 9, 2) := by decide +kernel
theorem dX2_isAggregateKind_8 : decode cX2_isAggregateKind 8 = .ok (.if_icmp .gt 7, 3) := by decide +kernel
theorem dX2_isAggregateKind_11 : decode cX2_isAggregateKind 11 = .ok (.iconst 1, 1) := by decide +kernel
theorem dX2_isAggregateKind_12 : decode cX2_isAggregateKind 12 = .ok (.goto 4, 3) := by decide +kernel
theorem dX2_isAggregateKind_15 : decode cX2_isAggregateKind 15 = .ok (.iconst 0, 1) := by decide +kernel
theorem dX2_isAggregateKind_16 : decode cX2_isAggregateKind 16 = .ok (.ireturn, 1) := by decide +kernel
theorem dX3_init_0 : decode cX3_init 0 = .ok (.aload_n 0, 1) := by decide +kernel
theorem dX3_init_1 : decode cX3_init 1 = .ok (.invokespecial 3, 3) := by decide +kernel
theorem dX3_init_4 : decode cX3_init 4 = .ok (.aload_n 0, 1) := by decide +kernel
theorem dX3_init_5 : decode cX3_init 5 = .ok (.sipush 200, 3) := by decide +kernel
theorem dX3_init_8 : decode cX3_init 8 = .ok (.newarray .boolean, 2) := by decide +kernel
theorem dX3_init_10 : decode cX3_init 10 = .ok (.putfield 9, 3) := by decide +kernel
theorem dX3_init_13 : decode cX3_init 13 = .ok (.aload_n 0, 1) := by decide +kernel
theorem dX3_init_14 : decode cX3_init 14 = .ok (.sipush 200, 3) := by decide +kernel
theorem dX3_init_17 : decode cX3_init 17 = .ok (.newarray .int, 2) := by decide +kernel
theorem dX3_init_19 : decode cX3_init 19 = .ok (.putfield 15, 3) := by decide +kernel
theorem dX3_init_22 : decode cX3_init 22 = .ok (.return_, 1) := by decide +kernel
theorem dX3_begin_0 : decode cX3_begin 0 = .ok (.iconst 0, 1) := by decide +kernel
theorem dX3_begin_1 : decode cX3_begin 1 = .ok (.istore_n 1, 1) := by decide +kernel
theorem dX3_begin_2 : decode cX3_begin 2 = .ok (.iload_n 1, 1) := by decide +kernel
theorem dX3_begin_3 : decode cX3_begin 3 = .ok (.sipush 200, 3) := by decide +kernel
theorem dX3_begin_6 : decode cX3_begin 6 = .ok (.if_icmp .ge 16, 3) := by decide +kernel
theorem dX3_begin_9 : decode cX3_begin 9 = .ok (.aload_n 0, 1) := by decide +kernel
theorem dX3_begin_10 : decode cX3_begin 10 = .ok (.getfield 9, 3) := by decide +kernel
theorem dX3_begin_13 : decode cX3_begin 13 = .ok (.iload_n 1, 1) := by decide +kernel
theorem dX3_begin_14 : decode cX3_begin 14 = .ok (.iconst 0, 1) := by decide +kernel
theorem dX3_begin_15 : decode cX3_begin 15 = .ok (.bastore, 1) := by decide +kernel
theorem dX3_begin_16 : decode cX3_begin 16 = .ok (.iinc 1 1, 3) := by decide +kernel
theorem dX3_begin_19 : decode cX3_begin 19 = .ok (.goto (-17), 3) := by decide +kernel
theorem dX3_begin_22 : decode cX3_begin 22 = .ok (.return_, 1) := by decide +kernel
theorem dX3_need_0 : decode cX3_need 0 = .ok (.iload_n 1, 1) := by decide +kernel
theorem dX3_need_1 : decode cX3_need 1 = .ok (.ifCond .lt 17, 3) := by decide +kernel
theorem dX3_need_4 : decode cX3_need 4 = .ok (.iload_n 1, 1) := by decide +kernel
theorem dX3_need_5 : decode cX3_need 5 = .ok (.sipush 200, 3) := by decide +kernel
theorem dX3_need_8 : decode cX3_need 8 = .ok (.if_icmp .ge 10, 3) := by decide +kernel
theorem dX3_need_11 : decode cX3_need 11 = .ok (.aload_n 0, 1) := by decide +kernel
theorem dX3_need_12 : decode cX3_need 12 = .ok (.getfield 9, 3) := by decide +kernel
theorem dX3_need_15 : decode cX3_need 15 = .ok (.iload_n 1, 1) := by decide +kernel
theorem dX3_need_16 : decode cX3_need 16 = .ok (.iconst 1, 1) := by decide +kernel
theorem dX3_need_17 : decode cX3_need 17 = .ok (.bastore, 1) := by decide +kernel
theorem dX3_need_18 : decode cX3_need 18 = .ok (.return_, 1) := by decide +kernel
theorem dX3_complete_0 : decode cX3_complete 0 = .ok (.aload_n 1, 1) := by decide +kernel
theorem dX3_complete_1 : decode cX3_complete 1 = .ok (.getfield 19, 3) := by decide +kernel
theorem dX3_complete_4 : decode cX3_complete 4 = .ok (.iconst 1, 1) := by decide +kernel
theorem dX3_complete_5 : decode cX3_complete 5 = .ok (.isub, 1) := by decide +kernel
theorem dX3_complete_6 : decode cX3_complete 6 = .ok (.istore_n 2, 1) := by decide +kernel
theorem dX3_complete_7 : decode cX3_complete 7 = .ok (.iload_n 2, 1) := by decide +kernel
theorem dX3_complete_8 : decode cX3_complete 8 = .ok (.ifCond .lt 46, 3) := by decide +kernel
theorem dX3_complete_11 : decode cX3_complete 11 = .ok (.aload_n 0, 1) := by decide +kernel
theorem dX3_complete_12 : decode cX3_complete 12 = .ok (.getfield 9, 3) := by decide +kernel
theorem dX3_complete_15 : decode cX3_complete 15 = .ok (.iload_n 2, 1) := by decide +kernel
theorem dX3_complete_16 : decode cX3_complete 16 = .ok (.baload, 1) := by decide +kernel
theorem dX3_complete_17 : decode cX3_complete 17 = .ok (.ifCond .eq 31, 3) := by decide +kernel
theorem dX3_complete_20 : decode cX3_complete 20 = .ok (.aload_n 1, 1) := by decide +kernel
theorem dX3_complete_21 : decode cX3_complete 21 = .ok (.iload_n 2, 1) := by decide +kernel
theorem dX3_complete_22 : decode cX3_complete 22 = .ok (.invokevirtual 25, 3) := by decide +kernel
theorem dX3_complete_25 : decode cX3_complete 25 = .ok (.ifCond .ne 23, 3) := by decide +kernel
theorem dX3_complete_28 : decode cX3_complete 28 = .ok (.aload_n 0, 1) := by decide +kernel
theorem dX3_complete_29 : decode cX3_complete 29 = .ok (.aload_n 1, 1) := by decide +kernel
theorem dX3_complete_30 : decode cX3_complete 30 = .ok (.getfield 29, 3) := by decide +kernel
theorem dX3_complete_33 : decode cX3_complete 33 = .ok (.iload_n 2, 1) := by decide +kernel
theorem dX3_complete_34 : decode cX3_complete 34 = .ok (.iaload, 1) := by decide +kernel
theorem dX3_complete_35 : decode cX3_complete 35 = .ok (.invokevirtual 32, 3) := by decide +kernel
theorem dX3_complete_38 : decode cX3_complete 38 = .ok (.aload_n 0, 1) := by decide +kernel
theorem dX3_complete_39 : decode cX3_complete 39 = .ok (.aload_n 1, 1) := by decide +kernel
theorem dX3_complete_40 : decode cX3_complete 40 = .ok (.getfield 36, 3) := by decide +kernel
theorem dX3_complete_43 : decode cX3_complete 43 = .ok (.iload_n 2, 1) := by decide +kernel
theorem dX3_complete_44 : decode cX3_complete 44 = .ok (.iaload, 1) := by decide +kernel
theorem dX3_complete_45 : decode cX3_complete 45 = .ok (.invokevirtual 32, 3) := by decide +kernel
theorem dX3_complete_48 : decode cX3_complete 48 = .ok (.iinc 2 (-1), 3) := by decide +kernel
theorem dX3_complete_51 : decode cX3_complete 51 = .ok (.goto (-44), 3) := by decide +kernel
theorem dX3_complete_54 : decode cX3_complete 54 = .ok (.aload_n 0, 1) := by decide +kernel
theorem dX3_complete_55 : decode cX3_complete 55 = .ok (.iconst 0, 1) := by decide +kernel
theorem dX3_complete_56 : decode cX3_complete 56 = .ok (.putfield 39, 3) := by decide +kernel
theorem dX3_complete_59 : decode cX3_complete 59 = .ok (.iconst 0, 1) := by decide +kernel
theorem dX3_complete_60 : decode cX3_complete 60 = .ok (.istore_n 2, 1) := by decide +kernel
theorem dX3_complete_61 : decode cX3_complete 61 = .ok (.iload_n 2, 1) := by decide +kernel
theorem dX3_complete_62 : decode cX3_complete 62 = .ok (.aload_n 1, 1) := by decide +kernel
theorem dX3_complete_63 : decode cX3_complete 63 = .ok (.getfield 19, 3) := by decide +kernel
theorem dX3_complete_66 : decode cX3_complete 66 = .ok (.if_icmp .ge 38, 3) := by decide +kernel
theorem dX3_complete_69 : decode cX3_complete 69 = .ok (.aload_n 0, 1) := by decide +kernel
theorem dX3_complete_70 : decode cX3_complete 70 = .ok (.getfield 9, 3) := by decide +kernel
theorem dX3_complete_73 : decode cX3_complete 73 = .ok (.iload_n 2, 1) := by decide +kernel
theorem dX3_complete_74 : decode cX3_complete 74 = .ok (.baload, 1) := by decide +kernel
theorem dX3_complete_75 : decode cX3_complete 75 = .ok (.ifCond .eq 23, 3) := by decide +kernel
theorem dX3_complete_78 : decode cX3_complete 78 = .ok (.aload_n 0, 1) := by decide +kernel
theorem dX3_complete_79 : decode cX3_complete 79 = .ok (.getfield 15, 3) := by decide +kernel
theorem dX3_complete_82 : decode cX3_complete 82 = .ok (.aload_n 0, 1) := by decide +kernel
theorem dX3_complete_83 : decode cX3_complete 83 = .ok (.getfield 39, 3) := by decide +kernel
theorem dX3_complete_86 : decode cX3_complete 86 = .ok (.iload_n 2, 1) := by decide +kernel
theorem dX3_complete_87 : decode cX3_complete 87 = .ok (.iastore, 1) := by decide +kernel
theorem dX3_complete_88 : decode cX3_complete 88 = .ok (.aload_n 0, 1) := by decide +kernel
theorem dX3_complete_89 : decode cX3_complete 89 = .ok (.dup, 1) := by decide +kernel
theorem dX3_complete_90 : decode cX3_complete 90 = .ok (.getfield 39, 3) := by decide +kernel
theorem dX3_complete_93 : decode cX3_complete 93 = .ok (.iconst 1, 1) := by decide +kernel
theorem dX3_complete_94 : decode cX3_complete 94 = .ok (.iadd, 1) := by decide +kernel
theorem dX3_complete_95 : decode cX3_complete 95 = .ok (.putfield 39, 3) := by decide +kernel
theorem dX3_complete_98 : decode cX3_complete 98 = .ok (.iinc 2 1, 3) := by decide +kernel
theorem dX3_complete_101 : decode cX3_complete 101 = .ok (.goto (-40), 3) := by decide +kernel
theorem dX3_complete_104 : decode cX3_complete 104 = .ok (.return_, 1) := by decide +kernel
theorem dX4_init_0 : decode cX4_init 0 = .ok (.aload_n 0, 1) := by decide +kernel
theorem dX4_init_1 : decode cX4_init 1 = .ok (.invokespecial 3, 3) := by decide +kernel
theorem dX4_init_4 : decode cX4_init 4 = .ok (.aload_n 0, 1) := by decide +kernel
theorem dX4_init_5 : decode cX4_init 5 = .ok (.bipush 8, 2) := by decide +kernel
theorem dX4_init_7 : decode cX4_init 7 = .ok (.newarray .int, 2) := by decide +kernel
theorem dX4_init_9 : decode cX4_init 9 = .ok (.putfield 9, 3) := by decide +kernel
theorem dX4_init_12 : decode cX4_init 12 = .ok (.aload_n 0, 1) := by decide +kernel
theorem dX4_init_13 : decode cX4_init 13 = .ok (.iconst 4, 1) := by decide +kernel
theorem dX4_init_14 : decode cX4_init 14 = .ok (.newarray .int, 2) := by decide +kernel
theorem dX4_init_16 : decode cX4_init 16 = .ok (.putfield 15, 3) := by decide +kernel
theorem dX4_init_19 : decode cX4_init 19 = .ok (.aload_n 0, 1) := by decide +kernel
theorem dX4_init_20 : decode cX4_init 20 = .ok (.iconst 4, 1) := by decide +kernel
theorem dX4_init_21 : decode cX4_init 21 = .ok (.newarray .int, 2) := by decide +kernel
theorem dX4_init_23 : decode cX4_init 23 = .ok (.putfield 18, 3) := by decide +kernel
theorem dX4_init_26 : decode cX4_init 26 = .ok (.aload_n 0, 1) := by decide +kernel
theorem dX4_init_27 : decode cX4_init 27 = .ok (.iconst 4, 1) := by decide +kernel
theorem dX4_init_28 : decode cX4_init 28 = .ok (.newarray .int, 2) := by decide +kernel
theorem dX4_init_30 : decode cX4_init 30 = .ok (.putfield 21, 3) := by decide +kernel
theorem dX4_init_33 : decode cX4_init 33 = .ok (.aload_n 0, 1) := by decide +kernel
theorem dX4_init_34 : decode cX4_init 34 = .ok (.iconst 4, 1) := by decide +kernel
theorem dX4_init_35 : decode cX4_init 35 = .ok (.newarray .boolean, 2) := by decide +kernel
theorem dX4_init_37 : decode cX4_init 37 = .ok (.putfield 24, 3) := by decide +kernel
theorem dX4_init_40 : decode cX4_init 40 = .ok (.aload_n 0, 1) := by decide +kernel
theorem dX4_init_41 : decode cX4_init 41 = .ok (.iconst (-1), 1) := by decide +kernel
theorem dX4_init_42 : decode cX4_init 42 = .ok (.putfield 28, 3) := by decide +kernel
theorem dX4_init_45 : decode cX4_init 45 = .ok (.aload_n 0, 1) := by decide +kernel
theorem dX4_init_46 : decode cX4_init 46 = .ok (.iconst (-1), 1) := by decide +kernel
theorem dX4_init_47 : decode cX4_init 47 = .ok (.putfield 32, 3) := by decide +kernel
theorem dX4_init_50 : decode cX4_init 50 = .ok (.return_, 1) := by decide +kernel
theorem dX4_forget_0 : decode cX4_forget 0 = .ok (.aload_n 0, 1) := by decide +kernel
theorem dX4_forget_1 : decode cX4_forget 1 = .ok (.iconst 0, 1) := by decide +kernel
theorem dX4_forget_2 : decode cX4_forget 2 = .ok (.putfield 35, 3) := by decide +kernel
theorem dX4_forget_5 : decode cX4_forget 5 = .ok (.aload_n 0, 1) := by decide +kernel
theorem dX4_forget_6 : decode cX4_forget 6 = .ok (.iconst 0, 1) := by decide +kernel
theorem dX4_forget_7 : decode cX4_forget 7 = .ok (.putfield 38, 3) := by decide +kernel
theorem dX4_forget_10 : decode cX4_forget 10 = .ok (.aload_n 0, 1) := by decide +kernel
theorem dX4_forget_11 : decode cX4_forget 11 = .ok (.iconst 0, 1) := by decide +kernel
theorem dX4_forget_12 : decode cX4_forget 12 = .ok (.putfield 41, 3) := by decide +kernel
theorem dX4_forget_15 : decode cX4_forget 15 = .ok (.aload_n 0, 1) := by decide +kernel
theorem dX4_forget_16 : decode cX4_forget 16 = .ok (.iconst (-1), 1) := by decide +kernel
theorem dX4_forget_17 : decode cX4_forget 17 = .ok (.putfield 28, 3) := by decide +kernel
theorem dX4_forget_20 : decode cX4_forget 20 = .ok (.aload_n 0, 1) := by decide +kernel
theorem dX4_forget_21 : decode cX4_forget 21 = .ok (.iconst (-1), 1) := by decide +kernel
theorem dX4_forget_22 : decode cX4_forget 22 = .ok (.putfield 32, 3) := by decide +kernel
theorem dX4_forget_25 : decode cX4_forget 25 = .ok (.aload_n 0, 1) := by decide +kernel
theorem dX4_forget_26 : decode cX4_forget 26 = .ok (.iconst 0, 1) := by decide +kernel
theorem dX4_forget_27 : decode cX4_forget 27 = .ok (.putfield 44, 3) := by decide +kernel
theorem dX4_forget_30 : decode cX4_forget 30 = .ok (.return_, 1) := by decide +kernel
theorem dX4_addItem_0 : decode cX4_addItem 0 = .ok (.aload_n 0, 1) := by decide +kernel
theorem dX4_addItem_1 : decode cX4_addItem 1 = .ok (.getfield 35, 3) := by decide +kernel
theorem dX4_addItem_4 : decode cX4_addItem 4 = .ok (.bipush 8, 2) := by decide +kernel
theorem dX4_addItem_6 : decode cX4_addItem 6 = .ok (.if_icmp .lt 5, 3) := by decide +kernel
theorem dX4_addItem_9 : decode cX4_addItem 9 = .ok (.iconst (-1), 1) := by decide +kernel
theorem dX4_addItem_10 : decode cX4_addItem 10 = .ok (.ireturn, 1) := by decide +kernel
theorem dX4_addItem_11 : decode cX4_addItem 11 = .ok (.aload_n 0, 1) := by decide +kernel
theorem dX4_addItem_12 : decode cX4_addItem 12 = .ok (.getfield 9, 3) := by decide +kernel
theorem dX4_addItem_15 : decode cX4_addItem 15 = .ok (.aload_n 0, 1) := by decide +kernel
theorem dX4_addItem_16 : decode cX4_addItem 16 = .ok (.getfield 35, 3) := by decide +kernel
theorem dX4_addItem_19 : decode cX4_addItem 19 = .ok (.iload_n 1, 1) := by decide +kernel
theorem dX4_addItem_20 : decode cX4_addItem 20 = .ok (.iastore, 1) := by decide +kernel
theorem dX4_addItem_21 : decode cX4_addItem 21 = .ok (.aload_n 0, 1) := by decide +kernel
theorem dX4_addItem_22 : decode cX4_addItem 22 = .ok (.dup, 1) := by decide +kernel
theorem dX4_addItem_23 : decode cX4_addItem 23 = .ok (.getfield 35, 3) := by decide +kernel
theorem dX4_addItem_26 : decode cX4_addItem 26 = .ok (.dup_x1, 1) := by decide +kernel
theorem dX4_addItem_27 : decode cX4_addItem 27 = .ok (.iconst 1, 1) := by decide +kernel
theorem dX4_addItem_28 : decode cX4_addItem 28 = .ok (.iadd, 1) := by decide +kernel
theorem dX4_addItem_29 : decode cX4_addItem 29 = .ok (.putfield 35, 3) := by decide +kernel
theorem dX4_addItem_32 : decode cX4_addItem 32 = .ok (.ireturn, 1) := by decide +kernel
theorem dX4_addGroup_0 : decode cX4_addGroup 0 = .ok (.aload_n 0, 1) := by decide +kernel
theorem dX4_addGroup_1 : decode cX4_addGroup 1 = .ok (.getfield 38, 3) := by decide +kernel
theorem dX4_addGroup_4 : decode cX4_addGroup 4 = .ok (.iconst 4, 1) := by decide +kernel
theorem dX4_addGroup_5 : decode cX4_addGroup 5 = .ok (.if_icmp .lt 5, 3) := by decide +kernel
theorem dX4_addGroup_8 : decode cX4_addGroup 8 = .ok (.iconst 0, 1) := by decide +kernel
theorem dX4_addGroup_9 : decode cX4_addGroup 9 = .ok (.ireturn, 1) := by decide +kernel
theorem dX4_addGroup_10 : decode cX4_addGroup 10 = .ok (.aload_n 0, 1) := by decide +kernel
theorem dX4_addGroup_11 : decode cX4_addGroup 11 = .ok (.getfield 15, 3) := by decide +kernel
theorem dX4_addGroup_14 : decode cX4_addGroup 14 = .ok (.aload_n 0, 1) := by decide +kernel
theorem dX4_addGroup_15 : decode cX4_addGroup 15 = .ok (.getfield 38, 3) := by decide +kernel
theorem dX4_addGroup_18 : decode cX4_addGroup 18 = .ok (.iload_n 1, 1) := by decide +kernel
theorem dX4_addGroup_19 : decode cX4_addGroup 19 = .ok (.iastore, 1) := by decide +kernel
theorem dX4_addGroup_20 : decode cX4_addGroup 20 = .ok (.aload_n 0, 1) := by decide +kernel
theorem dX4_addGroup_21 : decode cX4_addGroup 21 = .ok (.getfield 18, 3) := by decide +kernel
theorem dX4_addGroup_24 : decode cX4_addGroup 24 = .ok (.aload_n 0, 1) := by decide +kernel
theorem dX4_addGroup_25 : decode cX4_addGroup 25 = .ok (.getfield 38, 3) := by decide +kernel
theorem dX4_addGroup_28 : decode cX4_addGroup 28 = .ok (.iload_n 2, 1) := by decide +kernel
theorem dX4_addGroup_29 : decode cX4_addGroup 29 = .ok (.iastore, 1) := by decide +kernel
theorem dX4_addGroup_30 : decode cX4_addGroup 30 = .ok (.aload_n 0, 1) := by decide +kernel
theorem dX4_addGroup_31 : decode cX4_addGroup 31 = .ok (.dup, 1) := by decide +kernel
theorem dX4_addGroup_32 : decode cX4_addGroup 32 = .ok (.getfield 38, 3) := by decide +kernel
theorem dX4_addGroup_35 : decode cX4_addGroup 35 = .ok (.iconst 1, 1) := by decide +kernel
theorem dX4_addGroup_36 : decode cX4_addGroup 36 = .ok (.iadd, 1) := by decide +kernel
theorem dX4_addGroup_37 : decode cX4_addGroup 37 = .ok (.putfield 38, 3) := by decide +kernel
theorem dX4_addGroup_40 : decode cX4_addGroup 40 = .ok (.iconst 1, 1) := by decide +kernel
theorem dX4_addGroup_41 : decode cX4_addGroup 41 = .ok (.ireturn, 1) := by decide +kernel
theorem dX4_addOrder_0 : decode cX4_addOrder 0 = .ok (.iload_n 1, 1) := by decide +kernel
theorem dX4_addOrder_1 : decode cX4_addOrder 1 = .ok (.ifCond .lt 19, 3) := by decide +kernel
theorem dX4_addOrder_4 : decode cX4_addOrder 4 = .ok (.iload_n 1, 1) := by decide +kernel
theorem dX4_addOrder_5 : decode cX4_addOrder 5 = .ok (.aload_n 0, 1) := by decide +kernel
theorem dX4_addOrder_6 : decode cX4_addOrder 6 = .ok (.getfield 35, 3) := by decide +kernel
theorem dX4_addOrder_9 : decode cX4_addOrder 9 = .ok (.if_icmp .ge 11, 3) := by decide +kernel
theorem dX4_addOrder_12 : decode cX4_addOrder 12 = .ok (.aload_n 0, 1) := by decide +kernel
theorem dX4_addOrder_13 : decode cX4_addOrder 13 = .ok (.getfield 41, 3) := by decide +kernel
theorem dX4_addOrder_16 : decode cX4_addOrder 16 = .ok (.iconst 4, 1) := by decide +kernel
theorem dX4_addOrder_17 : decode cX4_addOrder 17 = .ok (.if_icmp .lt 5, 3) := by decide +kernel
theorem dX4_addOrder_20 : decode cX4_addOrder 20 = .ok (.iconst 0, 1) := by decide +kernel
theorem dX4_addOrder_21 : decode cX4_addOrder 21 = .ok (.ireturn, 1) := by decide +kernel
theorem dX4_addOrder_22 : decode cX4_addOrder 22 = .ok (.aload_n 0, 1) := by decide +kernel
theorem dX4_addOrder_23 : decode cX4_addOrder 23 = .ok (.getfield 21, 3) := by decide +kernel
theorem dX4_addOrder_26 : decode cX4_addOrder 26 = .ok (.aload_n 0, 1) := by decide +kernel
theorem dX4_addOrder_27 : decode cX4_addOrder 27 = .ok (.getfield 41, 3) := by decide +kernel
theorem dX4_addOrder_30 : decode cX4_addOrder 30 = .ok (.iload_n 1, 1) := by decide +kernel
theorem dX4_addOrder_31 : decode cX4_addOrder 31 = .ok (.iastore, 1) := by decide +kernel
theorem dX4_addOrder_32 : decode cX4_addOrder 32 = .ok (.aload_n 0, 1) := by decide +kernel
theorem dX4_addOrder_33 : decode cX4_addOrder 33 = .ok (.getfield 24, 3) := by decide +kernel
theorem dX4_addOrder_36 : decode cX4_addOrder 36 = .ok (.aload_n 0, 1) := by decide +kernel
theorem dX4_addOrder_37 : decode cX4_addOrder 37 = .ok (.getfield 41, 3) := by decide +kernel
theorem dX4_addOrder_40 : decode cX4_addOrder 40 = .ok (.iload_n 2, 1) := by decide +kernel
theorem dX4_addOrder_41 : decode cX4_addOrder 41 = .ok (.bastore, 1) := by decide +kernel
theorem dX4_addOrder_42 : decode cX4_addOrder 42 = .ok (.aload_n 0, 1) := by decide +kernel
theorem dX4_addOrder_43 : decode cX4_addOrder 43 = .ok (.dup, 1) := by decide +kernel
theorem dX4_addOrder_44 : decode cX4_addOrder 44 = .ok (.getfield 41, 3) := by decide +kernel
theorem dX4_addOrder_47 : decode cX4_addOrder 47 = .ok (.iconst 1, 1) := by decide +kernel
theorem dX4_addOrder_48 : decode cX4_addOrder 48 = .ok (.iadd, 1) := by decide +kernel
theorem dX4_addOrder_49 : decode cX4_addOrder 49 = .ok (.putfield 41, 3) := by decide +kernel
theorem dX4_addOrder_52 : decode cX4_addOrder 52 = .ok (.iconst 1, 1) := by decide +kernel
theorem dX4_addOrder_53 : decode cX4_addOrder 53 = .ok (.ireturn, 1) := by decide +kernel
theorem dX4_groupsBy_0 : decode cX4_groupsBy 0 = .ok (.iconst 0, 1) := by decide +kernel
theorem dX4_groupsBy_1 : decode cX4_groupsBy 1 = .ok (.istore_n 3, 1) := by decide +kernel
theorem dX4_groupsBy_2 : decode cX4_groupsBy 2 = .ok (.iload_n 3, 1) := by decide +kernel
theorem dX4_groupsBy_3 : decode cX4_groupsBy 3 = .ok (.aload_n 0, 1) := by decide +kernel
theorem dX4_groupsBy_4 : decode cX4_groupsBy 4 = .ok (.getfield 38, 3) := by decide +kernel
theorem dX4_groupsBy_7 : decode cX4_groupsBy 7 = .ok (.if_icmp .ge 31, 3) := by decide +kernel
theorem dX4_groupsBy_10 : decode cX4_groupsBy 10 = .ok (.aload_n 0, 1) := by decide +kernel
theorem dX4_groupsBy_11 : decode cX4_groupsBy 11 = .ok (.getfield 15, 3) := by decide +kernel
theorem dX4_groupsBy_14 : decode cX4_groupsBy 14 = .ok (.iload_n 3, 1) := by decide +kernel
theorem dX4_groupsBy_15 : decode cX4_groupsBy 15 = .ok (.iaload, 1) := by decide +kernel
theorem dX4_groupsBy_16 : decode cX4_groupsBy 16 = .ok (.iload_n 1, 1) := by decide +kernel
theorem dX4_groupsBy_17 : decode cX4_groupsBy 17 = .ok (.if_icmp .ne 15, 3) := by decide +kernel
theorem dX4_groupsBy_20 : decode cX4_groupsBy 20 = .ok (.aload_n 0, 1) := by decide +kernel
theorem dX4_groupsBy_21 : decode cX4_groupsBy 21 = .ok (.getfield 18, 3) := by decide +kernel
theorem dX4_groupsBy_24 : decode cX4_groupsBy 24 = .ok (.iload_n 3, 1) := by decide +kernel
theorem dX4_groupsBy_25 : decode cX4_groupsBy 25 = .ok (.iaload, 1) := by decide +kernel
theorem dX4_groupsBy_26 : decode cX4_groupsBy 26 = .ok (.iload_n 2, 1) := by decide +kernel
theorem dX4_groupsBy_27 : decode cX4_groupsBy 27 = .ok (.if_icmp .ne 5, 3) := by decide +kernel
theorem dX4_groupsBy_30 : decode cX4_groupsBy 30 = .ok (.iconst 1, 1) := by decide +kernel
theorem dX4_groupsBy_31 : decode cX4_groupsBy 31 = .ok (.ireturn, 1) := by decide +kernel
theorem dX4_groupsBy_32 : decode cX4_groupsBy 32 = .ok (.iinc 3 1, 3) := by decide +kernel
theorem dX4_groupsBy_35 : decode cX4_groupsBy 35 = .ok (.goto (-33), 3) := by decide +kernel
theorem dX4_groupsBy_38 : decode cX4_groupsBy 38 = .ok (.iconst 0, 1) := by decide +kernel
theorem dX4_groupsBy_39 : decode cX4_groupsBy 39 = .ok (.ireturn, 1) := by decide +kernel
theorem dX4_cutToLimit_0 : decode cX4_cutToLimit 0 = .ok (.aload_n 0, 1) := by decide +kernel
theorem dX4_cutToLimit_1 : decode cX4_cutToLimit 1 = .ok (.getfield 32, 3) := by decide +kernel
theorem dX4_cutToLimit_4 : decode cX4_cutToLimit 4 = .ok (.iconst (-1), 1) := by decide +kernel
theorem dX4_cutToLimit_5 : decode cX4_cutToLimit 5 = .ok (.if_icmp .ne 7, 3) := by decide +kernel
theorem dX4_cutToLimit_8 : decode cX4_cutToLimit 8 = .ok (.iload_n 1, 1) := by decide +kernel
theorem dX4_cutToLimit_9 : decode cX4_cutToLimit 9 = .ok (.goto 11, 3) := by decide +kernel
theorem dX4_cutToLimit_12 : decode cX4_cutToLimit 12 = .ok (.iload_n 1, 1) := by decide +kernel
theorem dX4_cutToLimit_13 : decode cX4_cutToLimit 13 = .ok (.aload_n 0, 1) := by decide +kernel
theorem dX4_cutToLimit_14 : decode cX4_cutToLimit 14 = .ok (.getfield 32, 3) := by decide +kernel
theorem dX4_cutToLimit_17 : decode cX4_cutToLimit 17 = .ok (.invokestatic 48, 3) := by decide +kernel
theorem dX4_cutToLimit_20 : decode cX4_cutToLimit 20 = .ok (.ireturn, 1) := by decide +kernel
theorem dX5_init_0 : decode cX5_init 0 = .ok (.aload_n 0, 1) := by decide +kernel
theorem dX5_init_1 : decode cX5_init 1 = .ok (.invokespecial 3, 3) := by decide +kernel
theorem dX5_init_4 : decode cX5_init 4 = .ok (.aload_n 0, 1) := by decide +kernel
theorem dX5_init_5 : decode cX5_init 5 = .ok (.iload_n 1, 1) := by decide +kernel
theorem dX5_init_6 : decode cX5_init 6 = .ok (.putfield 9, 3) := by decide +kernel
theorem dX5_init_9 : decode cX5_init 9 = .ok (.aload_n 0, 1) := by decide +kernel
theorem dX5_init_10 : decode cX5_init 10 = .ok (.iload_n 1, 1) := by decide +kernel
theorem dX5_init_11 : decode cX5_init 11 = .ok (.newarray .int, 2) := by decide +kernel
theorem dX5_init_13 : decode cX5_init 13 = .ok (.putfield 15, 3) := by decide +kernel
theorem dX5_init_16 : decode cX5_init 16 = .ok (.aload_n 0, 1) := by decide +kernel
theorem dX5_init_17 : decode cX5_init 17 = .ok (.iload_n 1, 1) := by decide +kernel
theorem dX5_init_18 : decode cX5_init 18 = .ok (.newarray .int, 2) := by decide +kernel
theorem dX5_init_20 : decode cX5_init 20 = .ok (.putfield 19, 3) := by decide +kernel
theorem dX5_init_23 : decode cX5_init 23 = .ok (.aload_n 0, 1) := by decide +kernel
theorem dX5_init_24 : decode cX5_init 24 = .ok (.iload_n 1, 1) := by decide +kernel
theorem dX5_init_25 : decode cX5_init 25 = .ok (.newarray .int, 2) := by decide +kernel
theorem dX5_init_27 : decode cX5_init 27 = .ok (.putfield 22, 3) := by decide +kernel
theorem dX5_init_30 : decode cX5_init 30 = .ok (.aload_n 0, 1) := by decide +kernel
theorem dX5_init_31 : decode cX5_init 31 = .ok (.iload_n 1, 1) := by decide +kernel
theorem dX5_init_32 : decode cX5_init 32 = .ok (.newarray .int, 2) := by decide +kernel
theorem dX5_init_34 : decode cX5_init 34 = .ok (.putfield 25, 3) := by decide +kernel
theorem dX5_init_37 : decode cX5_init 37 = .ok (.aload_n 0, 1) := by decide +kernel
theorem dX5_init_38 : decode cX5_init 38 = .ok (.iload_n 1, 1) := by decide +kernel
theorem dX5_init_39 : decode cX5_init 39 = .ok (.newarray .int, 2) := by decide +kernel
theorem dX5_init_41 : decode cX5_init 41 = .ok (.putfield 28, 3) := by decide +kernel
theorem dX5_init_44 : decode cX5_init 44 = .ok (.aload_n 0, 1) := by decide +kernel
theorem dX5_init_45 : decode cX5_init 45 = .ok (.iload_n 1, 1) := by decide +kernel
theorem dX5_init_46 : decode cX5_init 46 = .ok (.newarray .int, 2) := by decide +kernel
theorem dX5_init_48 : decode cX5_init 48 = .ok (.putfield 31, 3) := by decide +kernel
theorem dX5_init_51 : decode cX5_init 51 = .ok (.aload_n 0, 1) := by decide +kernel
theorem dX5_init_52 : decode cX5_init 52 = .ok (.iload_n 1, 1) := by decide +kernel
theorem dX5_init_53 : decode cX5_init 53 = .ok (.newarray .int, 2) := by decide +kernel
theorem dX5_init_55 : decode cX5_init 55 = .ok (.putfield 34, 3) := by decide +kernel
theorem dX5_init_58 : decode cX5_init 58 = .ok (.aload_n 0, 1) := by decide +kernel
theorem dX5_init_59 : decode cX5_init 59 = .ok (.iload_n 1, 1) := by decide +kernel
theorem dX5_init_60 : decode cX5_init 60 = .ok (.newarray .int, 2) := by decide +kernel
theorem dX5_init_62 : decode cX5_init 62 = .ok (.putfield 37, 3) := by decide +kernel
theorem dX5_init_65 : decode cX5_init 65 = .ok (.aload_n 0, 1) := by decide +kernel
theorem dX5_init_66 : decode cX5_init 66 = .ok (.new 40, 3) := by decide +kernel
theorem dX5_init_69 : decode cX5_init 69 = .ok (.dup, 1) := by decide +kernel
theorem dX5_init_70 : decode cX5_init 70 = .ok (.iload_n 1, 1) := by decide +kernel
theorem dX5_init_71 : decode cX5_init 71 = .ok (.bipush 8, 2) := by decide +kernel
theorem dX5_init_73 : decode cX5_init 73 = .ok (.imul, 1) := by decide +kernel
theorem dX5_init_74 : decode cX5_init 74 = .ok (.invokespecial 42, 3) := by decide +kernel
theorem dX5_init_77 : decode cX5_init 77 = .ok (.putfield 45, 3) := by decide +kernel
theorem dX5_init_80 : decode cX5_init 80 = .ok (.return_, 1) := by decide +kernel
theorem dX5_placeOf_0 : decode cX5_placeOf 0 = .ok (.iload_n 0, 1) := by decide +kernel
theorem dX5_placeOf_1 : decode cX5_placeOf 1 = .ok (.bipush 8, 2) := by decide +kernel
theorem dX5_placeOf_3 : decode cX5_placeOf 3 = .ok (.imul, 1) := by decide +kernel
theorem dX5_placeOf_4 : decode cX5_placeOf 4 = .ok (.iload_n 1, 1) := by decide +kernel
theorem dX5_placeOf_5 : decode cX5_placeOf 5 = .ok (.iadd, 1) := by decide +kernel
theorem dX5_placeOf_6 : decode cX5_placeOf 6 = .ok (.ireturn, 1) := by decide +kernel
theorem dX5_combine_0 : decode cX5_combine 0 = .ok (.iload_n 0, 1) := by decide +kernel
theorem dX5_combine_1 : decode cX5_combine 1 = .ok (.bipush 40, 2) := by decide +kernel
theorem dX5_combine_3 : decode cX5_combine 3 = .ok (.imul, 1) := by decide +kernel
theorem dX5_combine_4 : decode cX5_combine 4 = .ok (.iload_n 1, 1) := by decide +kernel
theorem dX5_combine_5 : decode cX5_combine 5 = .ok (.iadd, 1) := by decide +kernel
theorem dX5_combine_6 : decode cX5_combine 6 = .ok (.bipush 40, 2) := by decide +kernel
theorem dX5_combine_8 : decode cX5_combine 8 = .ok (.imul, 1) := by decide +kernel
theorem dX5_combine_9 : decode cX5_combine 9 = .ok (.iload_n 2, 1) := by decide +kernel
theorem dX5_combine_10 : decode cX5_combine 10 = .ok (.iadd, 1) := by decide +kernel
theorem dX5_combine_11 : decode cX5_combine 11 = .ok (.ireturn, 1) := by decide +kernel
theorem dX5_rowIn_0 : decode cX5_rowIn 0 = .ok (.iload_n 1, 1) := by decide +kernel
theorem dX5_rowIn_1 : decode cX5_rowIn 1 = .ok (.ifCond .ne 9, 3) := by decide +kernel
theorem dX5_rowIn_4 : decode cX5_rowIn 4 = .ok (.iload_n 0, 1) := by decide +kernel
theorem dX5_rowIn_5 : decode cX5_rowIn 5 = .ok (.sipush 1600, 3) := by decide +kernel
theorem dX5_rowIn_8 : decode cX5_rowIn 8 = .ok (.idiv, 1) := by decide +kernel
theorem dX5_rowIn_9 : decode cX5_rowIn 9 = .ok (.ireturn, 1) := by decide +kernel
theorem dX5_rowIn_10 : decode cX5_rowIn 10 = .ok (.iload_n 1, 1) := by decide +kernel
theorem dX5_rowIn_11 : decode cX5_rowIn 11 = .ok (.iconst 1, 1) := by decide +kernel
theorem dX5_rowIn_12 : decode cX5_rowIn 12 = .ok (.if_icmp .ne 10, 3) := by decide +kernel
theorem dX5_rowIn_15 : decode cX5_rowIn 15 = .ok (.iload_n 0, 1) := by decide +kernel
theorem dX5_rowIn_16 : decode cX5_rowIn 16 = .ok (.bipush 40, 2) := by decide +kernel
theorem dX5_rowIn_18 : decode cX5_rowIn 18 = .ok (.idiv, 1) := by decide +kernel
theorem dX5_rowIn_19 : decode cX5_rowIn 19 = .ok (.goto 4, 3) := by decide +kernel
theorem dX5_rowIn_22 : decode cX5_rowIn 22 = .ok (.iload_n 0, 1) := by decide +kernel
theorem dX5_rowIn_23 : decode cX5_rowIn 23 = .ok (.bipush 40, 2) := by decide +kernel
theorem dX5_rowIn_25 : decode cX5_rowIn 25 = .ok (.irem, 1) := by decide +kernel
theorem dX5_rowIn_26 : decode cX5_rowIn 26 = .ok (.ireturn, 1) := by decide +kernel
theorem dX5_emptyBuckets_0 : decode cX5_emptyBuckets 0 = .ok (.aload_n 0, 1) := by decide +kernel
theorem dX5_emptyBuckets_1 : decode cX5_emptyBuckets 1 = .ok (.getfield 34, 3) := by decide +kernel
theorem dX5_emptyBuckets_4 : decode cX5_emptyBuckets 4 = .ok (.iconst (-1), 1) := by decide +kernel
theorem dX5_emptyBuckets_5 : decode cX5_emptyBuckets 5 = .ok (.invokestatic 49, 3) := by decide +kernel
theorem dX5_emptyBuckets_8 : decode cX5_emptyBuckets 8 = .ok (.return_, 1) := by decide +kernel
theorem dX5_bucketOf_0 : decode cX5_bucketOf 0 = .ok (.lload_n 1, 1) := by decide +kernel
theorem dX5_bucketOf_1 : decode cX5_bucketOf 1 = .ok (.aload_n 0, 1) := by decide +kernel
theorem dX5_bucketOf_2 : decode cX5_bucketOf 2 = .ok (.getfield 9, 3) := by decide +kernel
theorem dX5_bucketOf_5 : decode cX5_bucketOf 5 = .ok (.i2l, 1) := by decide +kernel
theorem dX5_bucketOf_6 : decode cX5_bucketOf 6 = .ok (.invokestatic 55, 3) := by decide +kernel
theorem dX5_bucketOf_9 : decode cX5_bucketOf 9 = .ok (.l2i, 1) := by decide +kernel
theorem dX5_bucketOf_10 : decode cX5_bucketOf 10 = .ok (.ireturn, 1) := by decide +kernel
theorem dX5_putInBucket_0 : decode cX5_putInBucket 0 = .ok (.aload_n 0, 1) := by decide +kernel
theorem dX5_putInBucket_1 : decode cX5_putInBucket 1 = .ok (.getfield 37, 3) := by decide +kernel
theorem dX5_putInBucket_4 : decode cX5_putInBucket 4 = .ok (.iload_n 1, 1) := by decide +kernel
theorem dX5_putInBucket_5 : decode cX5_putInBucket 5 = .ok (.aload_n 0, 1) := by decide +kernel
theorem dX5_putInBucket_6 : decode cX5_putInBucket 6 = .ok (.getfield 34, 3) := by decide +kernel
theorem dX5_putInBucket_9 : decode cX5_putInBucket 9 = .ok (.iload_n 2, 1) := by decide +kernel
theorem dX5_putInBucket_10 : decode cX5_putInBucket 10 = .ok (.iaload, 1) := by decide +kernel
theorem dX5_putInBucket_11 : decode cX5_putInBucket 11 = .ok (.iastore, 1) := by decide +kernel
theorem dX5_putInBucket_12 : decode cX5_putInBucket 12 = .ok (.aload_n 0, 1) := by decide +kernel
theorem dX5_putInBucket_13 : decode cX5_putInBucket 13 = .ok (.getfield 34, 3) := by decide +kernel
theorem dX5_putInBucket_16 : decode cX5_putInBucket 16 = .ok (.iload_n 2, 1) := by decide +kernel
theorem dX5_putInBucket_17 : decode cX5_putInBucket 17 = .ok (.iload_n 1, 1) := by decide +kernel
theorem dX5_putInBucket_18 : decode cX5_putInBucket 18 = .ok (.iastore, 1) := by decide +kernel
theorem dX5_putInBucket_19 : decode cX5_putInBucket 19 = .ok (.return_, 1) := by decide +kernel
theorem dX5_startRow_0 : decode cX5_startRow 0 = .ok (.aload_n 0, 1) := by decide +kernel
theorem dX5_startRow_1 : decode cX5_startRow 1 = .ok (.getfield 22, 3) := by decide +kernel
theorem dX5_startRow_4 : decode cX5_startRow 4 = .ok (.iload_n 1, 1) := by decide +kernel
theorem dX5_startRow_5 : decode cX5_startRow 5 = .ok (.iload_n 2, 1) := by decide +kernel
theorem dX5_startRow_6 : decode cX5_startRow 6 = .ok (.iastore, 1) := by decide +kernel
theorem dX5_startRow_7 : decode cX5_startRow 7 = .ok (.aload_n 0, 1) := by decide +kernel
theorem dX5_startRow_8 : decode cX5_startRow 8 = .ok (.getfield 25, 3) := by decide +kernel
theorem dX5_startRow_11 : decode cX5_startRow 11 = .ok (.iload_n 1, 1) := by decide +kernel
theorem dX5_startRow_12 : decode cX5_startRow 12 = .ok (.iload_n 2, 1) := by decide +kernel
theorem dX5_startRow_13 : decode cX5_startRow 13 = .ok (.iastore, 1) := by decide +kernel
theorem dX5_startRow_14 : decode cX5_startRow 14 = .ok (.iload_n 2, 1) := by decide +kernel
theorem dX5_startRow_15 : decode cX5_startRow 15 = .ok (.iconst (-1), 1) := by decide +kernel
theorem dX5_startRow_16 : decode cX5_startRow 16 = .ok (.if_icmp .eq 10, 3) := by decide +kernel
theorem dX5_startRow_19 : decode cX5_startRow 19 = .ok (.aload_n 0, 1) := by decide +kernel
theorem dX5_startRow_20 : decode cX5_startRow 20 = .ok (.getfield 19, 3) := by decide +kernel
theorem dX5_startRow_23 : decode cX5_startRow 23 = .ok (.iload_n 2, 1) := by decide +kernel
theorem dX5_startRow_24 : decode cX5_startRow 24 = .ok (.iconst (-1), 1) := by decide +kernel
theorem dX5_startRow_25 : decode cX5_startRow 25 = .ok (.iastore, 1) := by decide +kernel
theorem dX5_startRow_26 : decode cX5_startRow 26 = .ok (.return_, 1) := by decide +kernel
theorem dX5_extendRow_0 : decode cX5_extendRow 0 = .ok (.aload_n 0, 1) := by decide +kernel
theorem dX5_extendRow_1 : decode cX5_extendRow 1 = .ok (.getfield 19, 3) := by decide +kernel
theorem dX5_extendRow_4 : decode cX5_extendRow 4 = .ok (.iload_n 2, 1) := by decide +kernel
theorem dX5_extendRow_5 : decode cX5_extendRow 5 = .ok (.iconst (-1), 1) := by decide +kernel
theorem dX5_extendRow_6 : decode cX5_extendRow 6 = .ok (.iastore, 1) := by decide +kernel
theorem dX5_extendRow_7 : decode cX5_extendRow 7 = .ok (.aload_n 0, 1) := by decide +kernel
theorem dX5_extendRow_8 : decode cX5_extendRow 8 = .ok (.getfield 19, 3) := by decide +kernel
theorem dX5_extendRow_11 : decode cX5_extendRow 11 = .ok (.aload_n 0, 1) := by decide +kernel
theorem dX5_extendRow_12 : decode cX5_extendRow 12 = .ok (.getfield 25, 3) := by decide +kernel
theorem dX5_extendRow_15 : decode cX5_extendRow 15 = .ok (.iload_n 1, 1) := by decide +kernel
theorem dX5_extendRow_16 : decode cX5_extendRow 16 = .ok (.iaload, 1) := by decide +kernel
theorem dX5_extendRow_17 : decode cX5_extendRow 17 = .ok (.iload_n 2, 1) := by decide +kernel
theorem dX5_extendRow_18 : decode cX5_extendRow 18 = .ok (.iastore, 1) := by decide +kernel
theorem dX5_extendRow_19 : decode cX5_extendRow 19 = .ok (.aload_n 0, 1) := by decide +kernel
theorem dX5_extendRow_20 : decode cX5_extendRow 20 = .ok (.getfield 25, 3) := by decide +kernel
theorem dX5_extendRow_23 : decode cX5_extendRow 23 = .ok (.iload_n 1, 1) := by decide +kernel
theorem dX5_extendRow_24 : decode cX5_extendRow 24 = .ok (.iload_n 2, 1) := by decide +kernel
theorem dX5_extendRow_25 : decode cX5_extendRow 25 = .ok (.iastore, 1) := by decide +kernel
theorem dX5_extendRow_26 : decode cX5_extendRow 26 = .ok (.return_, 1) := by decide +kernel
theorem dX6_init_0 : decode cX6_init 0 = .ok (.aload_n 0, 1) := by decide +kernel
theorem dX6_init_1 : decode cX6_init 1 = .ok (.invokespecial 3, 3) := by decide +kernel
theorem dX6_init_4 : decode cX6_init 4 = .ok (.aload_n 0, 1) := by decide +kernel
theorem dX6_init_5 : decode cX6_init 5 = .ok (.new 9, 3) := by decide +kernel
theorem dX6_init_8 : decode cX6_init 8 = .ok (.dup, 1) := by decide +kernel
theorem dX6_init_9 : decode cX6_init 9 = .ok (.invokespecial 11, 3) := by decide +kernel
theorem dX6_init_12 : decode cX6_init 12 = .ok (.putfield 12, 3) := by decide +kernel
theorem dX6_init_15 : decode cX6_init 15 = .ok (.aload_n 0, 1) := by decide +kernel
theorem dX6_init_16 : decode cX6_init 16 = .ok (.new 9, 3) := by decide +kernel
theorem dX6_init_19 : decode cX6_init 19 = .ok (.dup, 1) := by decide +kernel
theorem dX6_init_20 : decode cX6_init 20 = .ok (.invokespecial 11, 3) := by decide +kernel
theorem dX6_init_23 : decode cX6_init 23 = .ok (.putfield 18, 3) := by decide +kernel
theorem dX6_init_26 : decode cX6_init 26 = .ok (.aload_n 0, 1) := by decide +kernel
theorem dX6_init_27 : decode cX6_init 27 = .ok (.new 9, 3) := by decide +kernel
theorem dX6_init_30 : decode cX6_init 30 = .ok (.dup, 1) := by decide +kernel
theorem dX6_init_31 : decode cX6_init 31 = .ok (.invokespecial 11, 3) := by decide +kernel
theorem dX6_init_34 : decode cX6_init 34 = .ok (.putfield 21, 3) := by decide +kernel
theorem dX6_init_37 : decode cX6_init 37 = .ok (.aload_n 0, 1) := by decide +kernel
theorem dX6_init_38 : decode cX6_init 38 = .ok (.sipush 200, 3) := by decide +kernel
theorem dX6_init_41 : decode cX6_init 41 = .ok (.newarray .int, 2) := by decide +kernel
theorem dX6_init_43 : decode cX6_init 43 = .ok (.putfield 24, 3) := by decide +kernel
theorem dX6_init_46 : decode cX6_init 46 = .ok (.aload_n 0, 1) := by decide +kernel
theorem dX6_init_47 : decode cX6_init 47 = .ok (.aload_n 1, 1) := by decide +kernel
theorem dX6_init_48 : decode cX6_init 48 = .ok (.putfield 28, 3) := by decide +kernel
theorem dX6_init_51 : decode cX6_init 51 = .ok (.aload_n 0, 1) := by decide +kernel
theorem dX6_init_52 : decode cX6_init 52 = .ok (.aload_n 2, 1) := by decide +kernel
theorem dX6_init_53 : decode cX6_init 53 = .ok (.putfield 32, 3) := by decide +kernel
theorem dX6_init_56 : decode cX6_init 56 = .ok (.aload_n 0, 1) := by decide +kernel
theorem dX6_init_57 : decode cX6_init 57 = .ok (.aload_n 3, 1) := by decide +kernel
theorem dX6_init_58 : decode cX6_init 58 = .ok (.putfield 36, 3) := by decide +kernel
theorem dX6_init_61 : decode cX6_init 61 = .ok (.aload_n 0, 1) := by decide +kernel
theorem dX6_init_62 : decode cX6_init 62 = .ok (.new 40, 3) := by decide +kernel
theorem dX6_init_65 : decode cX6_init 65 = .ok (.dup, 1) := by decide +kernel
theorem dX6_init_66 : decode cX6_init 66 = .ok (.aload_n 1, 1) := by decide +kernel
theorem dX6_init_67 : decode cX6_init 67 = .ok (.aload_n 2, 1) := by decide +kernel
theorem dX6_init_68 : decode cX6_init 68 = .ok (.invokespecial 42, 3) := by decide +kernel
theorem dX6_init_71 : decode cX6_init 71 = .ok (.putfield 45, 3) := by decide +kernel
theorem dX6_init_74 : decode cX6_init 74 = .ok (.aload_n 0, 1) := by decide +kernel
theorem dX6_init_75 : decode cX6_init 75 = .ok (.new 49, 3) := by decide +kernel
theorem dX6_init_78 : decode cX6_init 78 = .ok (.dup, 1) := by decide +kernel
theorem dX6_init_79 : decode cX6_init 79 = .ok (.bipush 16, 2) := by decide +kernel
theorem dX6_init_81 : decode cX6_init 81 = .ok (.invokespecial 51, 3) := by decide +kernel
theorem dX6_init_84 : decode cX6_init 84 = .ok (.putfield 54, 3) := by decide +kernel
theorem dX6_init_87 : decode cX6_init 87 = .ok (.return_, 1) := by decide +kernel
theorem dX6_plan_0 : decode cX6_plan 0 = .ok (.aload_n 0, 1) := by decide +kernel
theorem dX6_plan_1 : decode cX6_plan 1 = .ok (.invokevirtual 58, 3) := by decide +kernel
theorem dX6_plan_4 : decode cX6_plan 4 = .ok (.aload_n 0, 1) := by decide +kernel
theorem dX6_plan_5 : decode cX6_plan 5 = .ok (.getfield 12, 3) := by decide +kernel
theorem dX6_plan_8 : decode cX6_plan 8 = .ok (.invokevirtual 61, 3) := by decide +kernel
theorem dX6_plan_11 : decode cX6_plan 11 = .ok (.aload_n 0, 1) := by decide +kernel
theorem dX6_plan_12 : decode cX6_plan 12 = .ok (.getfield 12, 3) := by decide +kernel
theorem dX6_plan_15 : decode cX6_plan 15 = .ok (.aload_n 0, 1) := by decide +kernel
theorem dX6_plan_16 : decode cX6_plan 16 = .ok (.getfield 36, 3) := by decide +kernel
theorem dX6_plan_19 : decode cX6_plan 19 = .ok (.getfield 64, 3) := by decide +kernel
theorem dX6_plan_22 : decode cX6_plan 22 = .ok (.invokevirtual 70, 3) := by decide +kernel
theorem dX6_plan_25 : decode cX6_plan 25 = .ok (.aload_n 0, 1) := by decide +kernel
theorem dX6_plan_26 : decode cX6_plan 26 = .ok (.getfield 12, 3) := by decide +kernel
theorem dX6_plan_29 : decode cX6_plan 29 = .ok (.aload_n 0, 1) := by decide +kernel
theorem dX6_plan_30 : decode cX6_plan 30 = .ok (.getfield 32, 3) := by decide +kernel
theorem dX6_plan_33 : decode cX6_plan 33 = .ok (.invokevirtual 73, 3) := by decide +kernel
theorem dX6_plan_36 : decode cX6_plan 36 = .ok (.return_, 1) := by decide +kernel
theorem dX6_planItems_0 : decode cX6_planItems 0 = .ok (.aload_n 0, 1) := by decide +kernel
theorem dX6_planItems_1 : decode cX6_planItems 1 = .ok (.getfield 21, 3) := by decide +kernel
theorem dX6_planItems_4 : decode cX6_planItems 4 = .ok (.invokevirtual 61, 3) := by decide +kernel
theorem dX6_planItems_7 : decode cX6_planItems 7 = .ok (.iconst 0, 1) := by decide +kernel
theorem dX6_planItems_8 : decode cX6_planItems 8 = .ok (.istore_n 1, 1) := by decide +kernel
theorem dX6_planItems_9 : decode cX6_planItems 9 = .ok (.iload_n 1, 1) := by decide +kernel
theorem dX6_planItems_10 : decode cX6_planItems 10 = .ok (.aload_n 0, 1) := by decide +kernel
theorem dX6_planItems_11 : decode cX6_planItems 11 = .ok (.getfield 36, 3) := by decide +kernel
theorem dX6_planItems_14 : decode cX6_planItems 14 = .ok (.getfield 77, 3) := by decide +kernel
theorem dX6_planItems_17 : decode cX6_planItems 17 = .ok (.if_icmp .ge 25, 3) := by decide +kernel
theorem dX6_planItems_20 : decode cX6_planItems 20 = .ok (.aload_n 0, 1) := by decide +kernel
theorem dX6_planItems_21 : decode cX6_planItems 21 = .ok (.getfield 21, 3) := by decide +kernel
theorem dX6_planItems_24 : decode cX6_planItems 24 = .ok (.aload_n 0, 1) := by decide +kernel
theorem dX6_planItems_25 : decode cX6_planItems 25 = .ok (.getfield 36, 3) := by decide +kernel
theorem dX6_planItems_28 : decode cX6_planItems 28 = .ok (.getfield 80, 3) := by decide +kernel
theorem dX6_planItems_31 : decode cX6_planItems 31 = .ok (.iload_n 1, 1) := by decide +kernel
theorem dX6_planItems_32 : decode cX6_planItems 32 = .ok (.iaload, 1) := by decide +kernel
theorem dX6_planItems_33 : decode cX6_planItems 33 = .ok (.invokevirtual 70, 3) := by decide +kernel
theorem dX6_planItems_36 : decode cX6_planItems 36 = .ok (.iinc 1 1, 3) := by decide +kernel
theorem dX6_planItems_39 : decode cX6_planItems 39 = .ok (.goto (-30), 3) := by decide +kernel
theorem dX6_planItems_42 : decode cX6_planItems 42 = .ok (.aload_n 0, 1) := by decide +kernel
theorem dX6_planItems_43 : decode cX6_planItems 43 = .ok (.getfield 21, 3) := by decide +kernel
theorem dX6_planItems_46 : decode cX6_planItems 46 = .ok (.aload_n 0, 1) := by decide +kernel
theorem dX6_planItems_47 : decode cX6_planItems 47 = .ok (.getfield 32, 3) := by decide +kernel
theorem dX6_planItems_50 : decode cX6_planItems 50 = .ok (.invokevirtual 73, 3) := by decide +kernel
theorem dX6_planItems_53 : decode cX6_planItems 53 = .ok (.aload_n 0, 1) := by decide +kernel
theorem dX6_planItems_54 : decode cX6_planItems 54 = .ok (.getfield 18, 3) := by decide +kernel
theorem dX6_planItems_57 : decode cX6_planItems 57 = .ok (.invokevirtual 61, 3) := by decide +kernel
theorem dX6_planItems_60 : decode cX6_planItems 60 = .ok (.aload_n 0, 1) := by decide +kernel
theorem dX6_planItems_61 : decode cX6_planItems 61 = .ok (.iconst 0, 1) := by decide +kernel
theorem dX6_planItems_62 : decode cX6_planItems 62 = .ok (.putfield 83, 3) := by decide +kernel
theorem dX6_planItems_65 : decode cX6_planItems 65 = .ok (.iconst 0, 1) := by decide +kernel
theorem dX6_planItems_66 : decode cX6_planItems 66 = .ok (.istore_n 1, 1) := by decide +kernel
theorem dX6_planItems_67 : decode cX6_planItems 67 = .ok (.iload_n 1, 1) := by decide +kernel
theorem dX6_planItems_68 : decode cX6_planItems 68 = .ok (.aload_n 0, 1) := by decide +kernel
theorem dX6_planItems_69 : decode cX6_planItems 69 = .ok (.getfield 21, 3) := by decide +kernel
theorem dX6_planItems_72 : decode cX6_planItems 72 = .ok (.getfield 86, 3) := by decide +kernel
theorem dX6_planItems_75 : decode cX6_planItems 75 = .ok (.if_icmp .ge 66, 3) := by decide +kernel
theorem dX6_planItems_78 : decode cX6_planItems 78 = .ok (.aload_n 0, 1) := by decide +kernel
theorem dX6_planItems_79 : decode cX6_planItems 79 = .ok (.getfield 21, 3) := by decide +kernel
theorem dX6_planItems_82 : decode cX6_planItems 82 = .ok (.getfield 89, 3) := by decide +kernel
theorem dX6_planItems_85 : decode cX6_planItems 85 = .ok (.iload_n 1, 1) := by decide +kernel
theorem dX6_planItems_86 : decode cX6_planItems 86 = .ok (.iaload, 1) := by decide +kernel
theorem dX6_planItems_87 : decode cX6_planItems 87 = .ok (.istore_n 2, 1) := by decide +kernel
theorem dX6_planItems_88 : decode cX6_planItems 88 = .ok (.aload_n 0, 1) := by decide +kernel
theorem dX6_planItems_89 : decode cX6_planItems 89 = .ok (.getfield 32, 3) := by decide +kernel
theorem dX6_planItems_92 : decode cX6_planItems 92 = .ok (.iload_n 2, 1) := by decide +kernel
theorem dX6_planItems_93 : decode cX6_planItems 93 = .ok (.invokevirtual 92, 3) := by decide +kernel
theorem dX6_planItems_96 : decode cX6_planItems 96 = .ok (.ifCond .eq 39, 3) := by decide +kernel
theorem dX6_planItems_99 : decode cX6_planItems 99 = .ok (.aload_n 0, 1) := by decide +kernel
theorem dX6_planItems_100 : decode cX6_planItems 100 = .ok (.getfield 24, 3) := by decide +kernel
theorem dX6_planItems_103 : decode cX6_planItems 103 = .ok (.aload_n 0, 1) := by decide +kernel
theorem dX6_planItems_104 : decode cX6_planItems 104 = .ok (.getfield 83, 3) := by decide +kernel
theorem dX6_planItems_107 : decode cX6_planItems 107 = .ok (.iload_n 2, 1) := by decide +kernel
theorem dX6_planItems_108 : decode cX6_planItems 108 = .ok (.iastore, 1) := by decide +kernel
theorem dX6_planItems_109 : decode cX6_planItems 109 = .ok (.aload_n 0, 1) := by decide +kernel
theorem dX6_planItems_110 : decode cX6_planItems 110 = .ok (.dup, 1) := by decide +kernel
theorem dX6_planItems_111 : decode cX6_planItems 111 = .ok (.getfield 83, 3) := by decide +kernel
theorem dX6_planItems_114 : decode cX6_planItems 114 = .ok (.iconst 1, 1) := by decide +kernel
theorem dX6_planItems_115 : decode cX6_planItems 115 = .ok (.iadd, 1) := by decide +kernel
theorem dX6_planItems_116 : decode cX6_planItems 116 = .ok (.putfield 83, 3) := by decide +kernel
theorem dX6_planItems_119 : decode cX6_planItems 119 = .ok (.aload_n 0, 1) := by decide +kernel
theorem dX6_planItems_120 : decode cX6_planItems 120 = .ok (.getfield 18, 3) := by decide +kernel
theorem dX6_planItems_123 : decode cX6_planItems 123 = .ok (.aload_n 0, 1) := by decide +kernel
theorem dX6_planItems_124 : decode cX6_planItems 124 = .ok (.getfield 32, 3) := by decide +kernel
theorem dX6_planItems_127 : decode cX6_planItems 127 = .ok (.getfield 98, 3) := by decide +kernel
theorem dX6_planItems_130 : decode cX6_planItems 130 = .ok (.iload_n 2, 1) := by decide +kernel
theorem dX6_planItems_131 : decode cX6_planItems 131 = .ok (.iaload, 1) := by decide +kernel
theorem dX6_planItems_132 : decode cX6_planItems 132 = .ok (.invokevirtual 70, 3) := by decide +kernel
theorem dX6_planItems_135 : decode cX6_planItems 135 = .ok (.iinc 1 1, 3) := by decide +kernel
theorem dX6_planItems_138 : decode cX6_planItems 138 = .ok (.goto (-71), 3) := by decide +kernel
theorem dX6_planItems_141 : decode cX6_planItems 141 = .ok (.aload_n 0, 1) := by decide +kernel
theorem dX6_planItems_142 : decode cX6_planItems 142 = .ok (.getfield 18, 3) := by decide +kernel
theorem dX6_planItems_145 : decode cX6_planItems 145 = .ok (.aload_n 0, 1) := by decide +kernel
theorem dX6_planItems_146 : decode cX6_planItems 146 = .ok (.getfield 32, 3) := by decide +kernel
theorem dX6_planItems_149 : decode cX6_planItems 149 = .ok (.invokevirtual 73, 3) := by decide +kernel
theorem dX6_planItems_152 : decode cX6_planItems 152 = .ok (.return_, 1) := by decide +kernel
theorem dX6_isGrouped_0 : decode cX6_isGrouped 0 = .ok (.aload_n 0, 1) := by decide +kernel
theorem dX6_isGrouped_1 : decode cX6_isGrouped 1 = .ok (.getfield 36, 3) := by decide +kernel
theorem dX6_isGrouped_4 : decode cX6_isGrouped 4 = .ok (.getfield 101, 3) := by decide +kernel
theorem dX6_isGrouped_7 : decode cX6_isGrouped 7 = .ok (.ifCond .gt 10, 3) := by decide +kernel
theorem dX6_isGrouped_10 : decode cX6_isGrouped 10 = .ok (.aload_n 0, 1) := by decide +kernel
theorem dX6_isGrouped_11 : decode cX6_isGrouped 11 = .ok (.getfield 83, 3) := by decide +kernel
theorem dX6_isGrouped_14 : decode cX6_isGrouped 14 = .ok (.ifCond .le 7, 3) := by decide +kernel
theorem dX6_isGrouped_17 : decode cX6_isGrouped 17 = .ok (.iconst 1, 1) := by decide +kernel
theorem dX6_isGrouped_18 : decode cX6_isGrouped 18 = .ok (.goto 4, 3) := by decide +kernel
theorem dX6_isGrouped_21 : decode cX6_isGrouped 21 = .ok (.iconst 0, 1) := by decide +kernel
theorem dX6_isGrouped_22 : decode cX6_isGrouped 22 = .ok (.ireturn, 1) := by decide +kernel
theorem dX6_hasLooseColumn_0 : decode cX6_hasLooseColumn 0 = .ok (.aload_n 0, 1) := by decide +kernel
theorem dX6_hasLooseColumn_1 : decode cX6_hasLooseColumn 1 = .ok (.invokevirtual 104, 3) := by decide +kernel
theorem dX6_hasLooseColumn_4 : decode cX6_hasLooseColumn 4 = .ok (.ifCond .ne 5, 3) := by decide +kernel
theorem dX6_hasLooseColumn_7 : decode cX6_hasLooseColumn 7 = .ok (.iconst 0, 1) := by decide +kernel
theorem dX6_hasLooseColumn_8 : decode cX6_hasLooseColumn 8 = .ok (.ireturn, 1) := by decide +kernel
theorem dX6_hasLooseColumn_9 : decode cX6_hasLooseColumn 9 = .ok (.iconst 0, 1) := by decide +kernel
theorem dX6_hasLooseColumn_10 : decode cX6_hasLooseColumn 10 = .ok (.istore_n 1, 1) := by decide +kernel
theorem dX6_hasLooseColumn_11 : decode cX6_hasLooseColumn 11 = .ok (.iload_n 1, 1) := by decide +kernel
theorem dX6_hasLooseColumn_12 : decode cX6_hasLooseColumn 12 = .ok (.aload_n 0, 1) := by decide +kernel
theorem dX6_hasLooseColumn_13 : decode cX6_hasLooseColumn 13 = .ok (.getfield 21, 3) := by decide +kernel
theorem dX6_hasLooseColumn_16 : decode cX6_hasLooseColumn 16 = .ok (.getfield 86, 3) := by decide +kernel
theorem dX6_hasLooseColumn_19 : decode cX6_hasLooseColumn 19 = .ok (.if_icmp .ge 62, 3) := by decide +kernel
theorem dX6_hasLooseColumn_22 : decode cX6_hasLooseColumn 22 = .ok (.aload_n 0, 1) := by decide +kernel
theorem dX6_hasLooseColumn_23 : decode cX6_hasLooseColumn 23 = .ok (.getfield 21, 3) := by decide +kernel
theorem dX6_hasLooseColumn_26 : decode cX6_hasLooseColumn 26 = .ok (.getfield 89, 3) := by decide +kernel
theorem dX6_hasLooseColumn_29 : decode cX6_hasLooseColumn 29 = .ok (.iload_n 1, 1) := by decide +kernel
theorem dX6_hasLooseColumn_30 : decode cX6_hasLooseColumn 30 = .ok (.iaload, 1) := by decide +kernel
theorem dX6_hasLooseColumn_31 : decode cX6_hasLooseColumn 31 = .ok (.istore_n 2, 1) := by decide +kernel
theorem dX6_hasLooseColumn_32 : decode cX6_hasLooseColumn 32 = .ok (.aload_n 0, 1) := by decide +kernel
theorem dX6_hasLooseColumn_33 : decode cX6_hasLooseColumn 33 = .ok (.getfield 32, 3) := by decide +kernel
theorem dX6_hasLooseColumn_36 : decode cX6_hasLooseColumn 36 = .ok (.getfield 108, 3) := by decide +kernel
theorem dX6_hasLooseColumn_39 : decode cX6_hasLooseColumn 39 = .ok (.iload_n 2, 1) := by decide +kernel
theorem dX6_hasLooseColumn_40 : decode cX6_hasLooseColumn 40 = .ok (.iaload, 1) := by decide +kernel
theorem dX6_hasLooseColumn_41 : decode cX6_hasLooseColumn 41 = .ok (.iconst 4, 1) := by decide +kernel
theorem dX6_hasLooseColumn_42 : decode cX6_hasLooseColumn 42 = .ok (.if_icmp .ne 33, 3) := by decide +kernel
theorem dX6_hasLooseColumn_45 : decode cX6_hasLooseColumn 45 = .ok (.aload_n 0, 1) := by decide +kernel
theorem dX6_hasLooseColumn_46 : decode cX6_hasLooseColumn 46 = .ok (.getfield 36, 3) := by decide +kernel
theorem dX6_hasLooseColumn_49 : decode cX6_hasLooseColumn 49 = .ok (.aload_n 0, 1) := by decide +kernel
theorem dX6_hasLooseColumn_50 : decode cX6_hasLooseColumn 50 = .ok (.getfield 32, 3) := by decide +kernel
theorem dX6_hasLooseColumn_53 : decode cX6_hasLooseColumn 53 = .ok (.getfield 111, 3) := by decide +kernel
theorem dX6_hasLooseColumn_56 : decode cX6_hasLooseColumn 56 = .ok (.iload_n 2, 1) := by decide +kernel
theorem dX6_hasLooseColumn_57 : decode cX6_hasLooseColumn 57 = .ok (.iaload, 1) := by decide +kernel
theorem dX6_hasLooseColumn_58 : decode cX6_hasLooseColumn 58 = .ok (.aload_n 0, 1) := by decide +kernel
theorem dX6_hasLooseColumn_59 : decode cX6_hasLooseColumn 59 = .ok (.getfield 32, 3) := by decide +kernel
theorem dX6_hasLooseColumn_62 : decode cX6_hasLooseColumn 62 = .ok (.getfield 114, 3) := by decide +kernel
theorem dX6_hasLooseColumn_65 : decode cX6_hasLooseColumn 65 = .ok (.iload_n 2, 1) := by decide +kernel
theorem dX6_hasLooseColumn_66 : decode cX6_hasLooseColumn 66 = .ok (.iaload, 1) := by decide +kernel
theorem dX6_hasLooseColumn_67 : decode cX6_hasLooseColumn 67 = .ok (.invokevirtual 117, 3) := by decide +kernel
theorem dX6_hasLooseColumn_70 : decode cX6_hasLooseColumn 70 = .ok (.ifCond .ne 5, 3) := by decide +kernel
theorem dX6_hasLooseColumn_73 : decode cX6_hasLooseColumn 73 = .ok (.iconst 1, 1) := by decide +kernel
theorem dX6_hasLooseColumn_74 : decode cX6_hasLooseColumn 74 = .ok (.ireturn, 1) := by decide +kernel
theorem dX6_hasLooseColumn_75 : decode cX6_hasLooseColumn 75 = .ok (.iinc 1 1, 3) := by decide +kernel
theorem dX6_hasLooseColumn_78 : decode cX6_hasLooseColumn 78 = .ok (.goto (-67), 3) := by decide +kernel
theorem dX6_hasLooseColumn_81 : decode cX6_hasLooseColumn 81 = .ok (.iconst 0, 1) := by decide +kernel
theorem dX6_hasLooseColumn_82 : decode cX6_hasLooseColumn 82 = .ok (.ireturn, 1) := by decide +kernel
theorem dX6_makeRoomFor_0 : decode cX6_makeRoomFor 0 = .ok (.iload_n 1, 1) := by decide +kernel
theorem dX6_makeRoomFor_1 : decode cX6_makeRoomFor 1 = .ok (.aload_n 0, 1) := by decide +kernel
theorem dX6_makeRoomFor_2 : decode cX6_makeRoomFor 2 = .ok (.getfield 54, 3) := by decide +kernel
theorem dX6_makeRoomFor_5 : decode cX6_makeRoomFor 5 = .ok (.getfield 121, 3) := by decide +kernel
theorem dX6_makeRoomFor_8 : decode cX6_makeRoomFor 8 = .ok (.if_icmp .le 33, 3) := by decide +kernel
theorem dX6_makeRoomFor_11 : decode cX6_makeRoomFor 11 = .ok (.aload_n 0, 1) := by decide +kernel
theorem dX6_makeRoomFor_12 : decode cX6_makeRoomFor 12 = .ok (.new 49, 3) := by decide +kernel
theorem dX6_makeRoomFor_15 : decode cX6_makeRoomFor 15 = .ok (.dup, 1) := by decide +kernel
theorem dX6_makeRoomFor_16 : decode cX6_makeRoomFor 16 = .ok (.iload_n 1, 1) := by decide +kernel
theorem dX6_makeRoomFor_17 : decode cX6_makeRoomFor 17 = .ok (.sipush 2000, 3) := by decide +kernel
theorem dX6_makeRoomFor_20 : decode cX6_makeRoomFor 20 = .ok (.iconst 2, 1) := by decide +kernel
theorem dX6_makeRoomFor_21 : decode cX6_makeRoomFor 21 = .ok (.aload_n 0, 1) := by decide +kernel
theorem dX6_makeRoomFor_22 : decode cX6_makeRoomFor 22 = .ok (.getfield 54, 3) := by decide +kernel
theorem dX6_makeRoomFor_25 : decode cX6_makeRoomFor 25 = .ok (.getfield 121, 3) := by decide +kernel
theorem dX6_makeRoomFor_28 : decode cX6_makeRoomFor 28 = .ok (.imul, 1) := by decide +kernel
theorem dX6_makeRoomFor_29 : decode cX6_makeRoomFor 29 = .ok (.invokestatic 124, 3) := by decide +kernel
theorem dX6_makeRoomFor_32 : decode cX6_makeRoomFor 32 = .ok (.invokestatic 130, 3) := by decide +kernel
theorem dX6_makeRoomFor_35 : decode cX6_makeRoomFor 35 = .ok (.invokespecial 51, 3) := by decide +kernel
theorem dX6_makeRoomFor_38 : decode cX6_makeRoomFor 38 = .ok (.putfield 54, 3) := by decide +kernel
theorem dX6_makeRoomFor_41 : decode cX6_makeRoomFor 41 = .ok (.return_, 1) := by decide +kernel
theorem dX6_gather_0 : decode cX6_gather 0 = .ok (.aload_n 0, 1) := by decide +kernel
theorem dX6_gather_1 : decode cX6_gather 1 = .ok (.aload_n 0, 1) := by decide +kernel
theorem dX6_gather_2 : decode cX6_gather 2 = .ok (.getfield 28, 3) := by decide +kernel
theorem dX6_gather_5 : decode cX6_gather 5 = .ok (.invokevirtual 133, 3) := by decide +kernel
theorem dX6_gather_8 : decode cX6_gather 8 = .ok (.sipush 2000, 3) := by decide +kernel
theorem dX6_gather_11 : decode cX6_gather 11 = .ok (.invokestatic 124, 3) := by decide +kernel
theorem dX6_gather_14 : decode cX6_gather 14 = .ok (.invokevirtual 139, 3) := by decide +kernel
theorem dX6_gather_17 : decode cX6_gather 17 = .ok (.iconst 0, 1) := by decide +kernel
theorem dX6_gather_18 : decode cX6_gather 18 = .ok (.istore_n 1, 1) := by decide +kernel
theorem dX6_gather_19 : decode cX6_gather 19 = .ok (.iconst 0, 1) := by decide +kernel
theorem dX6_gather_20 : decode cX6_gather 20 = .ok (.istore_n 2, 1) := by decide +kernel
theorem dX6_gather_21 : decode cX6_gather 21 = .ok (.iload_n 2, 1) := by decide +kernel
theorem dX6_gather_22 : decode cX6_gather 22 = .ok (.aload_n 0, 1) := by decide +kernel
theorem dX6_gather_23 : decode cX6_gather 23 = .ok (.getfield 28, 3) := by decide +kernel
theorem dX6_gather_26 : decode cX6_gather 26 = .ok (.iconst 0, 1) := by decide +kernel
theorem dX6_gather_27 : decode cX6_gather 27 = .ok (.invokevirtual 142, 3) := by decide +kernel
theorem dX6_gather_30 : decode cX6_gather 30 = .ok (.if_icmp .ge 101, 3) := by decide +kernel
theorem dX6_gather_33 : decode cX6_gather 33 = .ok (.iconst 0, 1) := by decide +kernel
theorem dX6_gather_34 : decode cX6_gather 34 = .ok (.istore_n 3, 1) := by decide +kernel
theorem dX6_gather_35 : decode cX6_gather 35 = .ok (.iload_n 3, 1) := by decide +kernel
theorem dX6_gather_36 : decode cX6_gather 36 = .ok (.aload_n 0, 1) := by decide +kernel
theorem dX6_gather_37 : decode cX6_gather 37 = .ok (.getfield 28, 3) := by decide +kernel
theorem dX6_gather_40 : decode cX6_gather 40 = .ok (.iconst 1, 1) := by decide +kernel
theorem dX6_gather_41 : decode cX6_gather 41 = .ok (.invokevirtual 142, 3) := by decide +kernel
theorem dX6_gather_44 : decode cX6_gather 44 = .ok (.if_icmp .ge 81, 3) := by decide +kernel
theorem dX6_gather_47 : decode cX6_gather 47 = .ok (.iconst 0, 1) := by decide +kernel
theorem dX6_gather_48 : decode cX6_gather 48 = .ok (.istore 4, 2) := by decide +kernel
theorem dX6_gather_50 : decode cX6_gather 50 = .ok (.iload 4, 2) := by decide +kernel
theorem dX6_gather_52 : decode cX6_gather 52 = .ok (.aload_n 0, 1) := by decide +kernel
theorem dX6_gather_53 : decode cX6_gather 53 = .ok (.getfield 28, 3) := by decide +kernel
theorem dX6_gather_56 : decode cX6_gather 56 = .ok (.iconst 2, 1) := by decide +kernel
theorem dX6_gather_57 : decode cX6_gather 57 = .ok (.invokevirtual 142, 3) := by decide +kernel
theorem dX6_gather_60 : decode cX6_gather 60 = .ok (.if_icmp .ge 59, 3) := by decide +kernel
theorem dX6_gather_63 : decode cX6_gather 63 = .ok (.iload_n 2, 1) := by decide +kernel
theorem dX6_gather_64 : decode cX6_gather 64 = .ok (.iload_n 3, 1) := by decide +kernel
theorem dX6_gather_65 : decode cX6_gather 65 = .ok (.iload 4, 2) := by decide +kernel
theorem dX6_gather_67 : decode cX6_gather 67 = .ok (.invokestatic 146, 3) := by decide +kernel
theorem dX6_gather_70 : decode cX6_gather 70 = .ok (.istore 5, 2) := by decide +kernel
theorem dX6_gather_72 : decode cX6_gather 72 = .ok (.aload_n 0, 1) := by decide +kernel
theorem dX6_gather_73 : decode cX6_gather 73 = .ok (.iload 5, 2) := by decide +kernel
theorem dX6_gather_75 : decode cX6_gather 75 = .ok (.invokevirtual 150, 3) := by decide +kernel
theorem dX6_gather_78 : decode cX6_gather 78 = .ok (.ifCond .ne 6, 3) := by decide +kernel
theorem dX6_gather_81 : decode cX6_gather 81 = .ok (.goto 32, 3) := by decide +kernel
theorem dX6_gather_84 : decode cX6_gather 84 = .ok (.iload_n 1, 1) := by decide +kernel
theorem dX6_gather_85 : decode cX6_gather 85 = .ok (.aload_n 0, 1) := by decide +kernel
theorem dX6_gather_86 : decode cX6_gather 86 = .ok (.getfield 54, 3) := by decide +kernel
theorem dX6_gather_89 : decode cX6_gather 89 = .ok (.getfield 121, 3) := by decide +kernel
theorem dX6_gather_92 : decode cX6_gather 92 = .ok (.if_icmp .lt 7, 3) := by decide +kernel
theorem dX6_gather_95 : decode cX6_gather 95 = .ok (.sipush 2001, 3) := by decide +kernel
theorem dX6_gather_98 : decode cX6_gather 98 = .ok (.ireturn, 1) := by decide +kernel
theorem dX6_gather_99 : decode cX6_gather 99 = .ok (.aload_n 0, 1) := by decide +kernel
theorem dX6_gather_100 : decode cX6_gather 100 = .ok (.getfield 54, 3) := by decide +kernel
theorem dX6_gather_103 : decode cX6_gather 103 = .ok (.getfield 153, 3) := by decide +kernel
theorem dX6_gather_106 : decode cX6_gather 106 = .ok (.iload_n 1, 1) := by decide +kernel
theorem dX6_gather_107 : decode cX6_gather 107 = .ok (.iload 5, 2) := by decide +kernel
theorem dX6_gather_109 : decode cX6_gather 109 = .ok (.iastore, 1) := by decide +kernel
theorem dX6_gather_110 : decode cX6_gather 110 = .ok (.iinc 1 1, 3) := by decide +kernel
theorem dX6_gather_113 : decode cX6_gather 113 = .ok (.iinc 4 1, 3) := by decide +kernel
theorem dX6_gather_116 : decode cX6_gather 116 = .ok (.goto (-66), 3) := by decide +kernel
theorem dX6_gather_119 : decode cX6_gather 119 = .ok (.iinc 3 1, 3) := by decide +kernel
theorem dX6_gather_122 : decode cX6_gather 122 = .ok (.goto (-87), 3) := by decide +kernel
theorem dX6_gather_125 : decode cX6_gather 125 = .ok (.iinc 2 1, 3) := by decide +kernel
theorem dX6_gather_128 : decode cX6_gather 128 = .ok (.goto (-107), 3) := by decide +kernel
theorem dX6_gather_131 : decode cX6_gather 131 = .ok (.iload_n 1, 1) := by decide +kernel
theorem dX6_gather_132 : decode cX6_gather 132 = .ok (.ireturn, 1) := by decide +kernel
theorem dX6_meetsCondition_0 : decode cX6_meetsCondition 0 = .ok (.aload_n 0, 1) := by decide +kernel
theorem dX6_meetsCondition_1 : decode cX6_meetsCondition 1 = .ok (.getfield 36, 3) := by decide +kernel
theorem dX6_meetsCondition_4 : decode cX6_meetsCondition 4 = .ok (.getfield 64, 3) := by decide +kernel
theorem dX6_meetsCondition_7 : decode cX6_meetsCondition 7 = .ok (.iconst (-1), 1) := by decide +kernel
theorem dX6_meetsCondition_8 : decode cX6_meetsCondition 8 = .ok (.if_icmp .ne 5, 3) := by decide +kernel
theorem dX6_meetsCondition_11 : decode cX6_meetsCondition 11 = .ok (.iconst 1, 1) := by decide +kernel
theorem dX6_meetsCondition_12 : decode cX6_meetsCondition 12 = .ok (.ireturn, 1) := by decide +kernel
theorem dX6_meetsCondition_13 : decode cX6_meetsCondition 13 = .ok (.aload_n 0, 1) := by decide +kernel
theorem dX6_meetsCondition_14 : decode cX6_meetsCondition 14 = .ok (.getfield 45, 3) := by decide +kernel
theorem dX6_meetsCondition_17 : decode cX6_meetsCondition 17 = .ok (.iload_n 1, 1) := by decide +kernel
theorem dX6_meetsCondition_18 : decode cX6_meetsCondition 18 = .ok (.invokevirtual 156, 3) := by decide +kernel
theorem dX6_meetsCondition_21 : decode cX6_meetsCondition 21 = .ok (.aload_n 0, 1) := by decide +kernel
theorem dX6_meetsCondition_22 : decode cX6_meetsCondition 22 = .ok (.getfield 45, 3) := by decide +kernel
theorem dX6_meetsCondition_25 : decode cX6_meetsCondition 25 = .ok (.aload_n 0, 1) := by decide +kernel
theorem dX6_meetsCondition_26 : decode cX6_meetsCondition 26 = .ok (.getfield 12, 3) := by decide +kernel
theorem dX6_meetsCondition_29 : decode cX6_meetsCondition 29 = .ok (.invokevirtual 159, 3) := by decide +kernel
theorem dX6_meetsCondition_32 : decode cX6_meetsCondition 32 = .ok (.aload_n 0, 1) := by decide +kernel
theorem dX6_meetsCondition_33 : decode cX6_meetsCondition 33 = .ok (.getfield 32, 3) := by decide +kernel
theorem dX6_meetsCondition_36 : decode cX6_meetsCondition 36 = .ok (.getfield 163, 3) := by decide +kernel
theorem dX6_meetsCondition_39 : decode cX6_meetsCondition 39 = .ok (.aload_n 0, 1) := by decide +kernel
theorem dX6_meetsCondition_40 : decode cX6_meetsCondition 40 = .ok (.getfield 36, 3) := by decide +kernel
theorem dX6_meetsCondition_43 : decode cX6_meetsCondition 43 = .ok (.getfield 64, 3) := by decide +kernel
theorem dX6_meetsCondition_46 : decode cX6_meetsCondition 46 = .ok (.iconst 1, 1) := by decide +kernel
theorem dX6_meetsCondition_47 : decode cX6_meetsCondition 47 = .ok (.invokevirtual 167, 3) := by decide +kernel
theorem dX6_meetsCondition_50 : decode cX6_meetsCondition 50 = .ok (.ireturn, 1) := by decide +kernel
theorem dX6_makeRows_0 : decode cX6_makeRows 0 = .ok (.aload_n 0, 1) := by decide +kernel
theorem dX6_makeRows_1 : decode cX6_makeRows 1 = .ok (.invokevirtual 104, 3) := by decide +kernel
theorem dX6_makeRows_4 : decode cX6_makeRows 4 = .ok (.ifCond .ne 9, 3) := by decide +kernel
theorem dX6_makeRows_7 : decode cX6_makeRows 7 = .ok (.aload_n 0, 1) := by decide +kernel
theorem dX6_makeRows_8 : decode cX6_makeRows 8 = .ok (.iload_n 1, 1) := by decide +kernel
theorem dX6_makeRows_9 : decode cX6_makeRows 9 = .ok (.invokevirtual 173, 3) := by decide +kernel
theorem dX6_makeRows_12 : decode cX6_makeRows 12 = .ok (.ireturn, 1) := by decide +kernel
theorem dX6_makeRows_13 : decode cX6_makeRows 13 = .ok (.aload_n 0, 1) := by decide +kernel
theorem dX6_makeRows_14 : decode cX6_makeRows 14 = .ok (.getfield 36, 3) := by decide +kernel
theorem dX6_makeRows_17 : decode cX6_makeRows 17 = .ok (.getfield 101, 3) := by decide +kernel
theorem dX6_makeRows_20 : decode cX6_makeRows 20 = .ok (.ifCond .ne 11, 3) := by decide +kernel
theorem dX6_makeRows_23 : decode cX6_makeRows 23 = .ok (.aload_n 0, 1) := by decide +kernel
theorem dX6_makeRows_24 : decode cX6_makeRows 24 = .ok (.iload_n 1, 1) := by decide +kernel
theorem dX6_makeRows_25 : decode cX6_makeRows 25 = .ok (.invokevirtual 176, 3) := by decide +kernel
theorem dX6_makeRows_28 : decode cX6_makeRows 28 = .ok (.goto 8, 3) := by decide +kernel
theorem dX6_makeRows_31 : decode cX6_makeRows 31 = .ok (.aload_n 0, 1) := by decide +kernel
theorem dX6_makeRows_32 : decode cX6_makeRows 32 = .ok (.iload_n 1, 1) := by decide +kernel
theorem dX6_makeRows_33 : decode cX6_makeRows 33 = .ok (.invokevirtual 179, 3) := by decide +kernel
theorem dX6_makeRows_36 : decode cX6_makeRows 36 = .ok (.ireturn, 1) := by decide +kernel
theorem dX6_makeRowForEach_0 : decode cX6_makeRowForEach 0 = .ok (.iconst 0, 1) := by decide +kernel
theorem dX6_makeRowForEach_1 : decode cX6_makeRowForEach 1 = .ok (.istore_n 2, 1) := by decide +kernel
theorem dX6_makeRowForEach_2 : decode cX6_makeRowForEach 2 = .ok (.iload_n 2, 1) := by decide +kernel
theorem dX6_makeRowForEach_3 : decode cX6_makeRowForEach 3 = .ok (.iload_n 1, 1) := by decide +kernel
theorem dX6_makeRowForEach_4 : decode cX6_makeRowForEach 4 = .ok (.if_icmp .ge 18, 3) := by decide +kernel
theorem dX6_makeRowForEach_7 : decode cX6_makeRowForEach 7 = .ok (.aload_n 0, 1) := by decide +kernel
theorem dX6_makeRowForEach_8 : decode cX6_makeRowForEach 8 = .ok (.getfield 54, 3) := by decide +kernel
theorem dX6_makeRowForEach_11 : decode cX6_makeRowForEach 11 = .ok (.iload_n 2, 1) := by decide +kernel
theorem dX6_makeRowForEach_12 : decode cX6_makeRowForEach 12 = .ok (.iload_n 2, 1) := by decide +kernel
theorem dX6_makeRowForEach_13 : decode cX6_makeRowForEach 13 = .ok (.invokevirtual 182, 3) := by decide +kernel
theorem dX6_makeRowForEach_16 : decode cX6_makeRowForEach 16 = .ok (.iinc 2 1, 3) := by decide +kernel
theorem dX6_makeRowForEach_19 : decode cX6_makeRowForEach 19 = .ok (.goto (-17), 3) := by decide +kernel
theorem dX6_makeRowForEach_22 : decode cX6_makeRowForEach 22 = .ok (.iload_n 1, 1) := by decide +kernel
theorem dX6_makeRowForEach_23 : decode cX6_makeRowForEach 23 = .ok (.ireturn, 1) := by decide +kernel
theorem dX6_makeOneRow_0 : decode cX6_makeOneRow 0 = .ok (.aload_n 0, 1) := by decide +kernel
theorem dX6_makeOneRow_1 : decode cX6_makeOneRow 1 = .ok (.getfield 54, 3) := by decide +kernel
theorem dX6_makeOneRow_4 : decode cX6_makeOneRow 4 = .ok (.iconst 0, 1) := by decide +kernel
theorem dX6_makeOneRow_5 : decode cX6_makeOneRow 5 = .ok (.iload_n 1, 1) := by decide +kernel
theorem dX6_makeOneRow_6 : decode cX6_makeOneRow 6 = .ok (.ifCond .ne 7, 3) := by decide +kernel
theorem dX6_makeOneRow_9 : decode cX6_makeOneRow 9 = .ok (.iconst (-1), 1) := by decide +kernel
theorem dX6_makeOneRow_10 : decode cX6_makeOneRow 10 = .ok (.goto 4, 3) := by decide +kernel
theorem dX6_makeOneRow_13 : decode cX6_makeOneRow 13 = .ok (.iconst 0, 1) := by decide +kernel
theorem dX6_makeOneRow_14 : decode cX6_makeOneRow 14 = .ok (.invokevirtual 182, 3) := by decide +kernel
theorem dX6_makeOneRow_17 : decode cX6_makeOneRow 17 = .ok (.iconst 1, 1) := by decide +kernel
theorem dX6_makeOneRow_18 : decode cX6_makeOneRow 18 = .ok (.istore_n 2, 1) := by decide +kernel
theorem dX6_makeOneRow_19 : decode cX6_makeOneRow 19 = .ok (.iload_n 2, 1) := by decide +kernel
theorem dX6_makeOneRow_20 : decode cX6_makeOneRow 20 = .ok (.iload_n 1, 1) := by decide +kernel
theorem dX6_makeOneRow_21 : decode cX6_makeOneRow 21 = .ok (.if_icmp .ge 18, 3) := by decide +kernel
theorem dX6_makeOneRow_24 : decode cX6_makeOneRow 24 = .ok (.aload_n 0, 1) := by decide +kernel
theorem dX6_makeOneRow_25 : decode cX6_makeOneRow 25 = .ok (.getfield 54, 3) := by decide +kernel
theorem dX6_makeOneRow_28 : decode cX6_makeOneRow 28 = .ok (.iconst 0, 1) := by decide +kernel
theorem dX6_makeOneRow_29 : decode cX6_makeOneRow 29 = .ok (.iload_n 2, 1) := by decide +kernel
theorem dX6_makeOneRow_30 : decode cX6_makeOneRow 30 = .ok (.invokevirtual 186, 3) := by decide +kernel
theorem dX6_makeOneRow_33 : decode cX6_makeOneRow 33 = .ok (.iinc 2 1, 3) := by decide +kernel
theorem dX6_makeOneRow_36 : decode cX6_makeOneRow 36 = .ok (.goto (-17), 3) := by decide +kernel
theorem dX6_makeOneRow_39 : decode cX6_makeOneRow 39 = .ok (.iconst 1, 1) := by decide +kernel
theorem dX6_makeOneRow_40 : decode cX6_makeOneRow 40 = .ok (.ireturn, 1) := by decide +kernel
theorem dX6_makeRowForEachGroup_0 : decode cX6_makeRowForEachGroup 0 = .ok (.aload_n 0, 1) := by decide +kernel
theorem dX6_makeRowForEachGroup_1 : decode cX6_makeRowForEachGroup 1 = .ok (.getfield 54, 3) := by decide +kernel
theorem dX6_makeRowForEachGroup_4 : decode cX6_makeRowForEachGroup 4 = .ok (.invokevirtual 189, 3) := by decide +kernel
theorem dX6_makeRowForEachGroup_7 : decode cX6_makeRowForEachGroup 7 = .ok (.iconst 0, 1) := by decide +kernel
theorem dX6_makeRowForEachGroup_8 : decode cX6_makeRowForEachGroup 8 = .ok (.istore_n 2, 1) := by decide +kernel
theorem dX6_makeRowForEachGroup_9 : decode cX6_makeRowForEachGroup 9 = .ok (.iconst 0, 1) := by decide +kernel
theorem dX6_makeRowForEachGroup_10 : decode cX6_makeRowForEachGroup 10 = .ok (.istore_n 3, 1) := by decide +kernel
theorem dX6_makeRowForEachGroup_11 : decode cX6_makeRowForEachGroup 11 = .ok (.iload_n 3, 1) := by decide +kernel
theorem dX6_makeRowForEachGroup_12 : decode cX6_makeRowForEachGroup 12 = .ok (.iload_n 1, 1) := by decide +kernel
theorem dX6_makeRowForEachGroup_13 : decode cX6_makeRowForEachGroup 13 = .ok (.if_icmp .ge 73, 3) := by decide +kernel
theorem dX6_makeRowForEachGroup_16 : decode cX6_makeRowForEachGroup 16 = .ok (.aload_n 0, 1) := by decide +kernel
theorem dX6_makeRowForEachGroup_17 : decode cX6_makeRowForEachGroup 17 = .ok (.getfield 54, 3) := by decide +kernel
theorem dX6_makeRowForEachGroup_20 : decode cX6_makeRowForEachGroup 20 = .ok (.aload_n 0, 1) := by decide +kernel
theorem dX6_makeRowForEachGroup_21 : decode cX6_makeRowForEachGroup 21 = .ok (.iload_n 3, 1) := by decide +kernel
theorem dX6_makeRowForEachGroup_22 : decode cX6_makeRowForEachGroup 22 = .ok (.invokevirtual 192, 3) := by decide +kernel
theorem dX6_makeRowForEachGroup_25 : decode cX6_makeRowForEachGroup 25 = .ok (.invokevirtual 196, 3) := by decide +kernel
theorem dX6_makeRowForEachGroup_28 : decode cX6_makeRowForEachGroup 28 = .ok (.istore 4, 2) := by decide +kernel
theorem dX6_makeRowForEachGroup_30 : decode cX6_makeRowForEachGroup 30 = .ok (.aload_n 0, 1) := by decide +kernel
theorem dX6_makeRowForEachGroup_31 : decode cX6_makeRowForEachGroup 31 = .ok (.iload_n 3, 1) := by decide +kernel
theorem dX6_makeRowForEachGroup_32 : decode cX6_makeRowForEachGroup 32 = .ok (.iload 4, 2) := by decide +kernel
theorem dX6_makeRowForEachGroup_34 : decode cX6_makeRowForEachGroup 34 = .ok (.invokevirtual 200, 3) := by decide +kernel
theorem dX6_makeRowForEachGroup_37 : decode cX6_makeRowForEachGroup 37 = .ok (.istore 5, 2) := by decide +kernel
theorem dX6_makeRowForEachGroup_39 : decode cX6_makeRowForEachGroup 39 = .ok (.iload 5, 2) := by decide +kernel
theorem dX6_makeRowForEachGroup_41 : decode cX6_makeRowForEachGroup 41 = .ok (.iconst (-1), 1) := by decide +kernel
theorem dX6_makeRowForEachGroup_42 : decode cX6_makeRowForEachGroup 42 = .ok (.if_icmp .ne 28, 3) := by decide +kernel
theorem dX6_makeRowForEachGroup_45 : decode cX6_makeRowForEachGroup 45 = .ok (.aload_n 0, 1) := by decide +kernel
theorem dX6_makeRowForEachGroup_46 : decode cX6_makeRowForEachGroup 46 = .ok (.getfield 54, 3) := by decide +kernel
theorem dX6_makeRowForEachGroup_49 : decode cX6_makeRowForEachGroup 49 = .ok (.iload_n 2, 1) := by decide +kernel
theorem dX6_makeRowForEachGroup_50 : decode cX6_makeRowForEachGroup 50 = .ok (.iload_n 3, 1) := by decide +kernel
theorem dX6_makeRowForEachGroup_51 : decode cX6_makeRowForEachGroup 51 = .ok (.invokevirtual 182, 3) := by decide +kernel
theorem dX6_makeRowForEachGroup_54 : decode cX6_makeRowForEachGroup 54 = .ok (.aload_n 0, 1) := by decide +kernel
theorem dX6_makeRowForEachGroup_55 : decode cX6_makeRowForEachGroup 55 = .ok (.getfield 54, 3) := by decide +kernel
theorem dX6_makeRowForEachGroup_58 : decode cX6_makeRowForEachGroup 58 = .ok (.iload_n 2, 1) := by decide +kernel
theorem dX6_makeRowForEachGroup_59 : decode cX6_makeRowForEachGroup 59 = .ok (.iload 4, 2) := by decide +kernel
theorem dX6_makeRowForEachGroup_61 : decode cX6_makeRowForEachGroup 61 = .ok (.invokevirtual 203, 3) := by decide +kernel
theorem dX6_makeRowForEachGroup_64 : decode cX6_makeRowForEachGroup 64 = .ok (.iinc 2 1, 3) := by decide +kernel
theorem dX6_makeRowForEachGroup_67 : decode cX6_makeRowForEachGroup 67 = .ok (.goto 13, 3) := by decide +kernel
theorem dX6_makeRowForEachGroup_70 : decode cX6_makeRowForEachGroup 70 = .ok (.aload_n 0, 1) := by decide +kernel
theorem dX6_makeRowForEachGroup_71 : decode cX6_makeRowForEachGroup 71 = .ok (.getfield 54, 3) := by decide +kernel
theorem dX6_makeRowForEachGroup_74 : decode cX6_makeRowForEachGroup 74 = .ok (.iload 5, 2) := by decide +kernel
theorem dX6_makeRowForEachGroup_76 : decode cX6_makeRowForEachGroup 76 = .ok (.iload_n 3, 1) := by decide +kernel
theorem dX6_makeRowForEachGroup_77 : decode cX6_makeRowForEachGroup 77 = .ok (.invokevirtual 186, 3) := by decide +kernel
theorem dX6_makeRowForEachGroup_80 : decode cX6_makeRowForEachGroup 80 = .ok (.iinc 3 1, 3) := by decide +kernel
theorem dX6_makeRowForEachGroup_83 : decode cX6_makeRowForEachGroup 83 = .ok (.goto (-72), 3) := by decide +kernel
theorem dX6_makeRowForEachGroup_86 : decode cX6_makeRowForEachGroup 86 = .ok (.iload_n 2, 1) := by decide +kernel
theorem dX6_makeRowForEachGroup_87 : decode cX6_makeRowForEachGroup 87 = .ok (.ireturn, 1) := by decide +kernel
theorem dX6_findGroup_0 : decode cX6_findGroup 0 = .ok (.aload_n 0, 1) := by decide +kernel
theorem dX6_findGroup_1 : decode cX6_findGroup 1 = .ok (.getfield 54, 3) := by decide +kernel
theorem dX6_findGroup_4 : decode cX6_findGroup 4 = .ok (.getfield 206, 3) := by decide +kernel
theorem dX6_findGroup_7 : decode cX6_findGroup 7 = .ok (.iload_n 2, 1) := by decide +kernel
theorem dX6_findGroup_8 : decode cX6_findGroup 8 = .ok (.iaload, 1) := by decide +kernel
theorem dX6_findGroup_9 : decode cX6_findGroup 9 = .ok (.istore_n 3, 1) := by decide +kernel
theorem dX6_findGroup_10 : decode cX6_findGroup 10 = .ok (.iconst 0, 1) := by decide +kernel
theorem dX6_findGroup_11 : decode cX6_findGroup 11 = .ok (.istore 4, 2) := by decide +kernel
theorem dX6_findGroup_13 : decode cX6_findGroup 13 = .ok (.iload 4, 2) := by decide +kernel
theorem dX6_findGroup_15 : decode cX6_findGroup 15 = .ok (.aload_n 0, 1) := by decide +kernel
theorem dX6_findGroup_16 : decode cX6_findGroup 16 = .ok (.getfield 54, 3) := by decide +kernel
theorem dX6_findGroup_19 : decode cX6_findGroup 19 = .ok (.getfield 121, 3) := by decide +kernel
theorem dX6_findGroup_22 : decode cX6_findGroup 22 = .ok (.if_icmp .ge 43, 3) := by decide +kernel
theorem dX6_findGroup_25 : decode cX6_findGroup 25 = .ok (.iload_n 3, 1) := by decide +kernel
theorem dX6_findGroup_26 : decode cX6_findGroup 26 = .ok (.iconst (-1), 1) := by decide +kernel
theorem dX6_findGroup_27 : decode cX6_findGroup 27 = .ok (.if_icmp .eq 38, 3) := by decide +kernel
theorem dX6_findGroup_30 : decode cX6_findGroup 30 = .ok (.aload_n 0, 1) := by decide +kernel
theorem dX6_findGroup_31 : decode cX6_findGroup 31 = .ok (.aload_n 0, 1) := by decide +kernel
theorem dX6_findGroup_32 : decode cX6_findGroup 32 = .ok (.getfield 54, 3) := by decide +kernel
theorem dX6_findGroup_35 : decode cX6_findGroup 35 = .ok (.getfield 209, 3) := by decide +kernel
theorem dX6_findGroup_38 : decode cX6_findGroup 38 = .ok (.iload_n 3, 1) := by decide +kernel
theorem dX6_findGroup_39 : decode cX6_findGroup 39 = .ok (.iaload, 1) := by decide +kernel
theorem dX6_findGroup_40 : decode cX6_findGroup 40 = .ok (.iload_n 1, 1) := by decide +kernel
theorem dX6_findGroup_41 : decode cX6_findGroup 41 = .ok (.invokevirtual 212, 3) := by decide +kernel
theorem dX6_findGroup_44 : decode cX6_findGroup 44 = .ok (.ifCond .eq 5, 3) := by decide +kernel
theorem dX6_findGroup_47 : decode cX6_findGroup 47 = .ok (.iload_n 3, 1) := by decide +kernel
theorem dX6_findGroup_48 : decode cX6_findGroup 48 = .ok (.ireturn, 1) := by decide +kernel
theorem dX6_findGroup_49 : decode cX6_findGroup 49 = .ok (.aload_n 0, 1) := by decide +kernel
theorem dX6_findGroup_50 : decode cX6_findGroup 50 = .ok (.getfield 54, 3) := by decide +kernel
theorem dX6_findGroup_53 : decode cX6_findGroup 53 = .ok (.getfield 215, 3) := by decide +kernel
theorem dX6_findGroup_56 : decode cX6_findGroup 56 = .ok (.iload_n 3, 1) := by decide +kernel
theorem dX6_findGroup_57 : decode cX6_findGroup 57 = .ok (.iaload, 1) := by decide +kernel
theorem dX6_findGroup_58 : decode cX6_findGroup 58 = .ok (.istore_n 3, 1) := by decide +kernel
theorem dX6_findGroup_59 : decode cX6_findGroup 59 = .ok (.iinc 4 1, 3) := by decide +kernel
theorem dX6_findGroup_62 : decode cX6_findGroup 62 = .ok (.goto (-49), 3) := by decide +kernel
theorem dX6_findGroup_65 : decode cX6_findGroup 65 = .ok (.iconst (-1), 1) := by decide +kernel
theorem dX6_findGroup_66 : decode cX6_findGroup 66 = .ok (.ireturn, 1) := by decide +kernel
theorem dX6_areOfOneGroup_0 : decode cX6_areOfOneGroup 0 = .ok (.iconst 0, 1) := by decide +kernel
theorem dX6_areOfOneGroup_1 : decode cX6_areOfOneGroup 1 = .ok (.istore_n 3, 1) := by decide +kernel
theorem dX6_areOfOneGroup_2 : decode cX6_areOfOneGroup 2 = .ok (.iload_n 3, 1) := by decide +kernel
theorem dX6_areOfOneGroup_3 : decode cX6_areOfOneGroup 3 = .ok (.aload_n 0, 1) := by decide +kernel
theorem dX6_areOfOneGroup_4 : decode cX6_areOfOneGroup 4 = .ok (.getfield 36, 3) := by decide +kernel
theorem dX6_areOfOneGroup_7 : decode cX6_areOfOneGroup 7 = .ok (.getfield 101, 3) := by decide +kernel
theorem dX6_areOfOneGroup_10 : decode cX6_areOfOneGroup 10 = .ok (.if_icmp .ge 36, 3) := by decide +kernel
theorem dX6_areOfOneGroup_13 : decode cX6_areOfOneGroup 13 = .ok (.aload_n 0, 1) := by decide +kernel
theorem dX6_areOfOneGroup_14 : decode cX6_areOfOneGroup 14 = .ok (.getfield 28, 3) := by decide +kernel
theorem dX6_areOfOneGroup_17 : decode cX6_areOfOneGroup 17 = .ok (.getfield 218, 3) := by decide +kernel
theorem dX6_areOfOneGroup_20 : decode cX6_areOfOneGroup 20 = .ok (.aload_n 0, 1) := by decide +kernel
theorem dX6_areOfOneGroup_21 : decode cX6_areOfOneGroup 21 = .ok (.iload_n 1, 1) := by decide +kernel
theorem dX6_areOfOneGroup_22 : decode cX6_areOfOneGroup 22 = .ok (.iload_n 3, 1) := by decide +kernel
theorem dX6_areOfOneGroup_23 : decode cX6_areOfOneGroup 23 = .ok (.invokevirtual 221, 3) := by decide +kernel
theorem dX6_areOfOneGroup_26 : decode cX6_areOfOneGroup 26 = .ok (.aload_n 0, 1) := by decide +kernel
theorem dX6_areOfOneGroup_27 : decode cX6_areOfOneGroup 27 = .ok (.iload_n 2, 1) := by decide +kernel
theorem dX6_areOfOneGroup_28 : decode cX6_areOfOneGroup 28 = .ok (.iload_n 3, 1) := by decide +kernel
theorem dX6_areOfOneGroup_29 : decode cX6_areOfOneGroup 29 = .ok (.invokevirtual 221, 3) := by decide +kernel
theorem dX6_areOfOneGroup_32 : decode cX6_areOfOneGroup 32 = .ok (.invokevirtual 224, 3) := by decide +kernel
theorem dX6_areOfOneGroup_35 : decode cX6_areOfOneGroup 35 = .ok (.ifCond .ne 5, 3) := by decide +kernel
theorem dX6_areOfOneGroup_38 : decode cX6_areOfOneGroup 38 = .ok (.iconst 0, 1) := by decide +kernel
theorem dX6_areOfOneGroup_39 : decode cX6_areOfOneGroup 39 = .ok (.ireturn, 1) := by decide +kernel
theorem dX6_areOfOneGroup_40 : decode cX6_areOfOneGroup 40 = .ok (.iinc 3 1, 3) := by decide +kernel
theorem dX6_areOfOneGroup_43 : decode cX6_areOfOneGroup 43 = .ok (.goto (-41), 3) := by decide +kernel
theorem dX6_areOfOneGroup_46 : decode cX6_areOfOneGroup 46 = .ok (.iconst 1, 1) := by decide +kernel
theorem dX6_areOfOneGroup_47 : decode cX6_areOfOneGroup 47 = .ok (.ireturn, 1) := by decide +kernel
theorem dX6_hashOfGroup_0 : decode cX6_hashOfGroup 0 = .ok (.lconst 0, 1) := by decide +kernel
theorem dX6_hashOfGroup_1 : decode cX6_hashOfGroup 1 = .ok (.lstore_n 2, 1) := by decide +kernel
theorem dX6_hashOfGroup_2 : decode cX6_hashOfGroup 2 = .ok (.iconst 0, 1) := by decide +kernel
theorem dX6_hashOfGroup_3 : decode cX6_hashOfGroup 3 = .ok (.istore 4, 2) := by decide +kernel
theorem dX6_hashOfGroup_5 : decode cX6_hashOfGroup 5 = .ok (.iload 4, 2) := by decide +kernel
theorem dX6_hashOfGroup_7 : decode cX6_hashOfGroup 7 = .ok (.aload_n 0, 1) := by decide +kernel
theorem dX6_hashOfGroup_8 : decode cX6_hashOfGroup 8 = .ok (.getfield 36, 3) := by decide +kernel
theorem dX6_hashOfGroup_11 : decode cX6_hashOfGroup 11 = .ok (.getfield 101, 3) := by decide +kernel
theorem dX6_hashOfGroup_14 : decode cX6_hashOfGroup 14 = .ok (.if_icmp .ge 28, 3) := by decide +kernel
theorem dX6_hashOfGroup_17 : decode cX6_hashOfGroup 17 = .ok (.aload_n 0, 1) := by decide +kernel
theorem dX6_hashOfGroup_18 : decode cX6_hashOfGroup 18 = .ok (.getfield 28, 3) := by decide +kernel
theorem dX6_hashOfGroup_21 : decode cX6_hashOfGroup 21 = .ok (.getfield 218, 3) := by decide +kernel
theorem dX6_hashOfGroup_24 : decode cX6_hashOfGroup 24 = .ok (.lload_n 2, 1) := by decide +kernel
theorem dX6_hashOfGroup_25 : decode cX6_hashOfGroup 25 = .ok (.aload_n 0, 1) := by decide +kernel
theorem dX6_hashOfGroup_26 : decode cX6_hashOfGroup 26 = .ok (.iload_n 1, 1) := by decide +kernel
theorem dX6_hashOfGroup_27 : decode cX6_hashOfGroup 27 = .ok (.iload 4, 2) := by decide +kernel
theorem dX6_hashOfGroup_29 : decode cX6_hashOfGroup 29 = .ok (.invokevirtual 221, 3) := by decide +kernel
theorem dX6_hashOfGroup_32 : decode cX6_hashOfGroup 32 = .ok (.invokevirtual 227, 3) := by decide +kernel
theorem dX6_hashOfGroup_35 : decode cX6_hashOfGroup 35 = .ok (.lstore_n 2, 1) := by decide +kernel
theorem dX6_hashOfGroup_36 : decode cX6_hashOfGroup 36 = .ok (.iinc 4 1, 3) := by decide +kernel
theorem dX6_hashOfGroup_39 : decode cX6_hashOfGroup 39 = .ok (.goto (-34), 3) := by decide +kernel
theorem dX6_hashOfGroup_42 : decode cX6_hashOfGroup 42 = .ok (.lload_n 2, 1) := by decide +kernel
theorem dX6_hashOfGroup_43 : decode cX6_hashOfGroup 43 = .ok (.lreturn, 1) := by decide +kernel
theorem dX6_groupPlace_0 : decode cX6_groupPlace 0 = .ok (.aload_n 0, 1) := by decide +kernel
theorem dX6_groupPlace_1 : decode cX6_groupPlace 1 = .ok (.getfield 36, 3) := by decide +kernel
theorem dX6_groupPlace_4 : decode cX6_groupPlace 4 = .ok (.getfield 231, 3) := by decide +kernel
theorem dX6_groupPlace_7 : decode cX6_groupPlace 7 = .ok (.iload_n 2, 1) := by decide +kernel
theorem dX6_groupPlace_8 : decode cX6_groupPlace 8 = .ok (.iaload, 1) := by decide +kernel
theorem dX6_groupPlace_9 : decode cX6_groupPlace 9 = .ok (.istore_n 3, 1) := by decide +kernel
theorem dX6_groupPlace_10 : decode cX6_groupPlace 10 = .ok (.aload_n 0, 1) := by decide +kernel
theorem dX6_groupPlace_11 : decode cX6_groupPlace 11 = .ok (.getfield 54, 3) := by decide +kernel
theorem dX6_groupPlace_14 : decode cX6_groupPlace 14 = .ok (.getfield 153, 3) := by decide +kernel
theorem dX6_groupPlace_17 : decode cX6_groupPlace 17 = .ok (.iload_n 1, 1) := by decide +kernel
theorem dX6_groupPlace_18 : decode cX6_groupPlace 18 = .ok (.iaload, 1) := by decide +kernel
theorem dX6_groupPlace_19 : decode cX6_groupPlace 19 = .ok (.iload_n 3, 1) := by decide +kernel
theorem dX6_groupPlace_20 : decode cX6_groupPlace 20 = .ok (.invokestatic 234, 3) := by decide +kernel
theorem dX6_groupPlace_23 : decode cX6_groupPlace 23 = .ok (.istore 4, 2) := by decide +kernel
theorem dX6_groupPlace_25 : decode cX6_groupPlace 25 = .ok (.aload_n 0, 1) := by decide +kernel
theorem dX6_groupPlace_26 : decode cX6_groupPlace 26 = .ok (.getfield 28, 3) := by decide +kernel
theorem dX6_groupPlace_29 : decode cX6_groupPlace 29 = .ok (.iload_n 3, 1) := by decide +kernel
theorem dX6_groupPlace_30 : decode cX6_groupPlace 30 = .ok (.iload 4, 2) := by decide +kernel
theorem dX6_groupPlace_32 : decode cX6_groupPlace 32 = .ok (.aload_n 0, 1) := by decide +kernel
theorem dX6_groupPlace_33 : decode cX6_groupPlace 33 = .ok (.getfield 36, 3) := by decide +kernel
theorem dX6_groupPlace_36 : decode cX6_groupPlace 36 = .ok (.getfield 237, 3) := by decide +kernel
theorem dX6_groupPlace_39 : decode cX6_groupPlace 39 = .ok (.iload_n 2, 1) := by decide +kernel
theorem dX6_groupPlace_40 : decode cX6_groupPlace 40 = .ok (.iaload, 1) := by decide +kernel
theorem dX6_groupPlace_41 : decode cX6_groupPlace 41 = .ok (.invokevirtual 240, 3) := by decide +kernel
theorem dX6_groupPlace_44 : decode cX6_groupPlace 44 = .ok (.ireturn, 1) := by decide +kernel
theorem dX6_workOutRow_0 : decode cX6_workOutRow 0 = .ok (.aload_n 0, 1) := by decide +kernel
theorem dX6_workOutRow_1 : decode cX6_workOutRow 1 = .ok (.getfield 54, 3) := by decide +kernel
theorem dX6_workOutRow_4 : decode cX6_workOutRow 4 = .ok (.getfield 209, 3) := by decide +kernel
theorem dX6_workOutRow_7 : decode cX6_workOutRow 7 = .ok (.iload_n 1, 1) := by decide +kernel
theorem dX6_workOutRow_8 : decode cX6_workOutRow 8 = .ok (.iaload, 1) := by decide +kernel
theorem dX6_workOutRow_9 : decode cX6_workOutRow 9 = .ok (.istore_n 2, 1) := by decide +kernel
theorem dX6_workOutRow_10 : decode cX6_workOutRow 10 = .ok (.aload_n 0, 1) := by decide +kernel
theorem dX6_workOutRow_11 : decode cX6_workOutRow 11 = .ok (.getfield 83, 3) := by decide +kernel
theorem dX6_workOutRow_14 : decode cX6_workOutRow 14 = .ok (.ifCond .le 8, 3) := by decide +kernel
theorem dX6_workOutRow_17 : decode cX6_workOutRow 17 = .ok (.aload_n 0, 1) := by decide +kernel
theorem dX6_workOutRow_18 : decode cX6_workOutRow 18 = .ok (.iload_n 2, 1) := by decide +kernel
theorem dX6_workOutRow_19 : decode cX6_workOutRow 19 = .ok (.invokevirtual 243, 3) := by decide +kernel
theorem dX6_workOutRow_22 : decode cX6_workOutRow 22 = .ok (.iload_n 2, 1) := by decide +kernel
theorem dX6_workOutRow_23 : decode cX6_workOutRow 23 = .ok (.iconst (-1), 1) := by decide +kernel
theorem dX6_workOutRow_24 : decode cX6_workOutRow 24 = .ok (.if_icmp .eq 19, 3) := by decide +kernel
theorem dX6_workOutRow_27 : decode cX6_workOutRow 27 = .ok (.aload_n 0, 1) := by decide +kernel
theorem dX6_workOutRow_28 : decode cX6_workOutRow 28 = .ok (.getfield 45, 3) := by decide +kernel
theorem dX6_workOutRow_31 : decode cX6_workOutRow 31 = .ok (.aload_n 0, 1) := by decide +kernel
theorem dX6_workOutRow_32 : decode cX6_workOutRow 32 = .ok (.getfield 54, 3) := by decide +kernel
theorem dX6_workOutRow_35 : decode cX6_workOutRow 35 = .ok (.getfield 153, 3) := by decide +kernel
theorem dX6_workOutRow_38 : decode cX6_workOutRow 38 = .ok (.iload_n 2, 1) := by decide +kernel
theorem dX6_workOutRow_39 : decode cX6_workOutRow 39 = .ok (.iaload, 1) := by decide +kernel
theorem dX6_workOutRow_40 : decode cX6_workOutRow 40 = .ok (.invokevirtual 156, 3) := by decide +kernel
theorem dX6_workOutRow_43 : decode cX6_workOutRow 43 = .ok (.aload_n 0, 1) := by decide +kernel
theorem dX6_workOutRow_44 : decode cX6_workOutRow 44 = .ok (.getfield 45, 3) := by decide +kernel
theorem dX6_workOutRow_47 : decode cX6_workOutRow 47 = .ok (.aload_n 0, 1) := by decide +kernel
theorem dX6_workOutRow_48 : decode cX6_workOutRow 48 = .ok (.getfield 21, 3) := by decide +kernel
theorem dX6_workOutRow_51 : decode cX6_workOutRow 51 = .ok (.invokevirtual 159, 3) := by decide +kernel
theorem dX6_workOutRow_54 : decode cX6_workOutRow 54 = .ok (.iconst 0, 1) := by decide +kernel
theorem dX6_workOutRow_55 : decode cX6_workOutRow 55 = .ok (.istore_n 3, 1) := by decide +kernel
theorem dX6_workOutRow_56 : decode cX6_workOutRow 56 = .ok (.iload_n 3, 1) := by decide +kernel
theorem dX6_workOutRow_57 : decode cX6_workOutRow 57 = .ok (.aload_n 0, 1) := by decide +kernel
theorem dX6_workOutRow_58 : decode cX6_workOutRow 58 = .ok (.getfield 36, 3) := by decide +kernel
theorem dX6_workOutRow_61 : decode cX6_workOutRow 61 = .ok (.getfield 77, 3) := by decide +kernel
theorem dX6_workOutRow_64 : decode cX6_workOutRow 64 = .ok (.if_icmp .ge 40, 3) := by decide +kernel
theorem dX6_workOutRow_67 : decode cX6_workOutRow 67 = .ok (.aload_n 0, 1) := by decide +kernel
theorem dX6_workOutRow_68 : decode cX6_workOutRow 68 = .ok (.getfield 54, 3) := by decide +kernel
theorem dX6_workOutRow_71 : decode cX6_workOutRow 71 = .ok (.getfield 246, 3) := by decide +kernel
theorem dX6_workOutRow_74 : decode cX6_workOutRow 74 = .ok (.iload_n 1, 1) := by decide +kernel
theorem dX6_workOutRow_75 : decode cX6_workOutRow 75 = .ok (.iload_n 3, 1) := by decide +kernel
theorem dX6_workOutRow_76 : decode cX6_workOutRow 76 = .ok (.invokestatic 247, 3) := by decide +kernel
theorem dX6_workOutRow_79 : decode cX6_workOutRow 79 = .ok (.aload_n 0, 1) := by decide +kernel
theorem dX6_workOutRow_80 : decode cX6_workOutRow 80 = .ok (.getfield 32, 3) := by decide +kernel
theorem dX6_workOutRow_83 : decode cX6_workOutRow 83 = .ok (.getfield 163, 3) := by decide +kernel
theorem dX6_workOutRow_86 : decode cX6_workOutRow 86 = .ok (.aload_n 0, 1) := by decide +kernel
theorem dX6_workOutRow_87 : decode cX6_workOutRow 87 = .ok (.getfield 36, 3) := by decide +kernel
theorem dX6_workOutRow_90 : decode cX6_workOutRow 90 = .ok (.getfield 80, 3) := by decide +kernel
theorem dX6_workOutRow_93 : decode cX6_workOutRow 93 = .ok (.iload_n 3, 1) := by decide +kernel
theorem dX6_workOutRow_94 : decode cX6_workOutRow 94 = .ok (.iaload, 1) := by decide +kernel
theorem dX6_workOutRow_95 : decode cX6_workOutRow 95 = .ok (.invokevirtual 249, 3) := by decide +kernel
theorem dX6_workOutRow_98 : decode cX6_workOutRow 98 = .ok (.iinc 3 1, 3) := by decide +kernel
theorem dX6_workOutRow_101 : decode cX6_workOutRow 101 = .ok (.goto (-45), 3) := by decide +kernel
theorem dX6_workOutRow_104 : decode cX6_workOutRow 104 = .ok (.return_, 1) := by decide +kernel
theorem dX6_workOutAggregates_0 : decode cX6_workOutAggregates 0 = .ok (.iconst 0, 1) := by decide +kernel
theorem dX6_workOutAggregates_1 : decode cX6_workOutAggregates 1 = .ok (.istore_n 2, 1) := by decide +kernel
theorem dX6_workOutAggregates_2 : decode cX6_workOutAggregates 2 = .ok (.iload_n 2, 1) := by decide +kernel
theorem dX6_workOutAggregates_3 : decode cX6_workOutAggregates 3 = .ok (.aload_n 0, 1) := by decide +kernel
theorem dX6_workOutAggregates_4 : decode cX6_workOutAggregates 4 = .ok (.getfield 83, 3) := by decide +kernel
theorem dX6_workOutAggregates_7 : decode cX6_workOutAggregates 7 = .ok (.if_icmp .ge 22, 3) := by decide +kernel
theorem dX6_workOutAggregates_10 : decode cX6_workOutAggregates 10 = .ok (.aload_n 0, 1) := by decide +kernel
theorem dX6_workOutAggregates_11 : decode cX6_workOutAggregates 11 = .ok (.getfield 45, 3) := by decide +kernel
theorem dX6_workOutAggregates_14 : decode cX6_workOutAggregates 14 = .ok (.aload_n 0, 1) := by decide +kernel
theorem dX6_workOutAggregates_15 : decode cX6_workOutAggregates 15 = .ok (.getfield 24, 3) := by decide +kernel
theorem dX6_workOutAggregates_18 : decode cX6_workOutAggregates 18 = .ok (.iload_n 2, 1) := by decide +kernel
theorem dX6_workOutAggregates_19 : decode cX6_workOutAggregates 19 = .ok (.iaload, 1) := by decide +kernel
theorem dX6_workOutAggregates_20 : decode cX6_workOutAggregates 20 = .ok (.invokevirtual 253, 3) := by decide +kernel
theorem dX6_workOutAggregates_23 : decode cX6_workOutAggregates 23 = .ok (.iinc 2 1, 3) := by decide +kernel
theorem dX6_workOutAggregates_26 : decode cX6_workOutAggregates 26 = .ok (.goto (-24), 3) := by decide +kernel
theorem dX6_workOutAggregates_29 : decode cX6_workOutAggregates 29 = .ok (.iload_n 1, 1) := by decide +kernel
theorem dX6_workOutAggregates_30 : decode cX6_workOutAggregates 30 = .ok (.istore_n 2, 1) := by decide +kernel
theorem dX6_workOutAggregates_31 : decode cX6_workOutAggregates 31 = .ok (.iconst 0, 1) := by decide +kernel
theorem dX6_workOutAggregates_32 : decode cX6_workOutAggregates 32 = .ok (.istore_n 3, 1) := by decide +kernel
theorem dX6_workOutAggregates_33 : decode cX6_workOutAggregates 33 = .ok (.iload_n 3, 1) := by decide +kernel
theorem dX6_workOutAggregates_34 : decode cX6_workOutAggregates 34 = .ok (.aload_n 0, 1) := by decide +kernel
theorem dX6_workOutAggregates_35 : decode cX6_workOutAggregates 35 = .ok (.getfield 54, 3) := by decide +kernel
theorem dX6_workOutAggregates_38 : decode cX6_workOutAggregates 38 = .ok (.getfield 121, 3) := by decide +kernel
theorem dX6_workOutAggregates_41 : decode cX6_workOutAggregates 41 = .ok (.if_icmp .ge 83, 3) := by decide +kernel
theorem dX6_workOutAggregates_44 : decode cX6_workOutAggregates 44 = .ok (.iload_n 2, 1) := by decide +kernel
theorem dX6_workOutAggregates_45 : decode cX6_workOutAggregates 45 = .ok (.iconst (-1), 1) := by decide +kernel
theorem dX6_workOutAggregates_46 : decode cX6_workOutAggregates 46 = .ok (.if_icmp .eq 78, 3) := by decide +kernel
theorem dX6_workOutAggregates_49 : decode cX6_workOutAggregates 49 = .ok (.aload_n 0, 1) := by decide +kernel
theorem dX6_workOutAggregates_50 : decode cX6_workOutAggregates 50 = .ok (.getfield 45, 3) := by decide +kernel
theorem dX6_workOutAggregates_53 : decode cX6_workOutAggregates 53 = .ok (.aload_n 0, 1) := by decide +kernel
theorem dX6_workOutAggregates_54 : decode cX6_workOutAggregates 54 = .ok (.getfield 54, 3) := by decide +kernel
theorem dX6_workOutAggregates_57 : decode cX6_workOutAggregates 57 = .ok (.getfield 153, 3) := by decide +kernel
theorem dX6_workOutAggregates_60 : decode cX6_workOutAggregates 60 = .ok (.iload_n 2, 1) := by decide +kernel
theorem dX6_workOutAggregates_61 : decode cX6_workOutAggregates 61 = .ok (.iaload, 1) := by decide +kernel
theorem dX6_workOutAggregates_62 : decode cX6_workOutAggregates 62 = .ok (.invokevirtual 156, 3) := by decide +kernel
theorem dX6_workOutAggregates_65 : decode cX6_workOutAggregates 65 = .ok (.aload_n 0, 1) := by decide +kernel
theorem dX6_workOutAggregates_66 : decode cX6_workOutAggregates 66 = .ok (.getfield 45, 3) := by decide +kernel
theorem dX6_workOutAggregates_69 : decode cX6_workOutAggregates 69 = .ok (.aload_n 0, 1) := by decide +kernel
theorem dX6_workOutAggregates_70 : decode cX6_workOutAggregates 70 = .ok (.getfield 18, 3) := by decide +kernel
theorem dX6_workOutAggregates_73 : decode cX6_workOutAggregates 73 = .ok (.invokevirtual 159, 3) := by decide +kernel
theorem dX6_workOutAggregates_76 : decode cX6_workOutAggregates 76 = .ok (.iconst 0, 1) := by decide +kernel
theorem dX6_workOutAggregates_77 : decode cX6_workOutAggregates 77 = .ok (.istore 4, 2) := by decide +kernel
theorem dX6_workOutAggregates_79 : decode cX6_workOutAggregates 79 = .ok (.iload 4, 2) := by decide +kernel
theorem dX6_workOutAggregates_81 : decode cX6_workOutAggregates 81 = .ok (.aload_n 0, 1) := by decide +kernel
theorem dX6_workOutAggregates_82 : decode cX6_workOutAggregates 82 = .ok (.getfield 83, 3) := by decide +kernel
theorem dX6_workOutAggregates_85 : decode cX6_workOutAggregates 85 = .ok (.if_icmp .ge 23, 3) := by decide +kernel
theorem dX6_workOutAggregates_88 : decode cX6_workOutAggregates 88 = .ok (.aload_n 0, 1) := by decide +kernel
theorem dX6_workOutAggregates_89 : decode cX6_workOutAggregates 89 = .ok (.getfield 45, 3) := by decide +kernel
theorem dX6_workOutAggregates_92 : decode cX6_workOutAggregates 92 = .ok (.aload_n 0, 1) := by decide +kernel
theorem dX6_workOutAggregates_93 : decode cX6_workOutAggregates 93 = .ok (.getfield 24, 3) := by decide +kernel
theorem dX6_workOutAggregates_96 : decode cX6_workOutAggregates 96 = .ok (.iload 4, 2) := by decide +kernel
theorem dX6_workOutAggregates_98 : decode cX6_workOutAggregates 98 = .ok (.iaload, 1) := by decide +kernel
theorem dX6_workOutAggregates_99 : decode cX6_workOutAggregates 99 = .ok (.invokevirtual 256, 3) := by decide +kernel
theorem dX6_workOutAggregates_102 : decode cX6_workOutAggregates 102 = .ok (.iinc 4 1, 3) := by decide +kernel
theorem dX6_workOutAggregates_105 : decode cX6_workOutAggregates 105 = .ok (.goto (-26), 3) := by decide +kernel
theorem dX6_workOutAggregates_108 : decode cX6_workOutAggregates 108 = .ok (.aload_n 0, 1) := by decide +kernel
theorem dX6_workOutAggregates_109 : decode cX6_workOutAggregates 109 = .ok (.getfield 54, 3) := by decide +kernel
theorem dX6_workOutAggregates_112 : decode cX6_workOutAggregates 112 = .ok (.getfield 259, 3) := by decide +kernel
theorem dX6_workOutAggregates_115 : decode cX6_workOutAggregates 115 = .ok (.iload_n 2, 1) := by decide +kernel
theorem dX6_workOutAggregates_116 : decode cX6_workOutAggregates 116 = .ok (.iaload, 1) := by decide +kernel
theorem dX6_workOutAggregates_117 : decode cX6_workOutAggregates 117 = .ok (.istore_n 2, 1) := by decide +kernel
theorem dX6_workOutAggregates_118 : decode cX6_workOutAggregates 118 = .ok (.iinc 3 1, 3) := by decide +kernel
theorem dX6_workOutAggregates_121 : decode cX6_workOutAggregates 121 = .ok (.goto (-88), 3) := by decide +kernel
theorem dX6_workOutAggregates_124 : decode cX6_workOutAggregates 124 = .ok (.return_, 1) := by decide +kernel
theorem dX6_rankRows_0 : decode cX6_rankRows 0 = .ok (.aload_n 0, 1) := by decide +kernel
theorem dX6_rankRows_1 : decode cX6_rankRows 1 = .ok (.getfield 36, 3) := by decide +kernel
theorem dX6_rankRows_4 : decode cX6_rankRows 4 = .ok (.getfield 262, 3) := by decide +kernel
theorem dX6_rankRows_7 : decode cX6_rankRows 7 = .ok (.ifCond .eq 10, 3) := by decide +kernel
theorem dX6_rankRows_10 : decode cX6_rankRows 10 = .ok (.aload_n 0, 1) := by decide +kernel
theorem dX6_rankRows_11 : decode cX6_rankRows 11 = .ok (.getfield 54, 3) := by decide +kernel
theorem dX6_rankRows_14 : decode cX6_rankRows 14 = .ok (.invokevirtual 189, 3) := by decide +kernel
theorem dX6_rankRows_17 : decode cX6_rankRows 17 = .ok (.iconst 0, 1) := by decide +kernel
theorem dX6_rankRows_18 : decode cX6_rankRows 18 = .ok (.istore_n 2, 1) := by decide +kernel
theorem dX6_rankRows_19 : decode cX6_rankRows 19 = .ok (.iconst 0, 1) := by decide +kernel
theorem dX6_rankRows_20 : decode cX6_rankRows 20 = .ok (.istore_n 3, 1) := by decide +kernel
theorem dX6_rankRows_21 : decode cX6_rankRows 21 = .ok (.iload_n 3, 1) := by decide +kernel
theorem dX6_rankRows_22 : decode cX6_rankRows 22 = .ok (.iload_n 1, 1) := by decide +kernel
theorem dX6_rankRows_23 : decode cX6_rankRows 23 = .ok (.if_icmp .ge 40, 3) := by decide +kernel
theorem dX6_rankRows_26 : decode cX6_rankRows 26 = .ok (.aload_n 0, 1) := by decide +kernel
theorem dX6_rankRows_27 : decode cX6_rankRows 27 = .ok (.getfield 36, 3) := by decide +kernel
theorem dX6_rankRows_30 : decode cX6_rankRows 30 = .ok (.getfield 262, 3) := by decide +kernel
theorem dX6_rankRows_33 : decode cX6_rankRows 33 = .ok (.ifCond .eq 11, 3) := by decide +kernel
theorem dX6_rankRows_36 : decode cX6_rankRows 36 = .ok (.aload_n 0, 1) := by decide +kernel
theorem dX6_rankRows_37 : decode cX6_rankRows 37 = .ok (.iload_n 3, 1) := by decide +kernel
theorem dX6_rankRows_38 : decode cX6_rankRows 38 = .ok (.invokevirtual 266, 3) := by decide +kernel
theorem dX6_rankRows_41 : decode cX6_rankRows 41 = .ok (.ifCond .eq 16, 3) := by decide +kernel
theorem dX6_rankRows_44 : decode cX6_rankRows 44 = .ok (.aload_n 0, 1) := by decide +kernel
theorem dX6_rankRows_45 : decode cX6_rankRows 45 = .ok (.getfield 54, 3) := by decide +kernel
theorem dX6_rankRows_48 : decode cX6_rankRows 48 = .ok (.getfield 269, 3) := by decide +kernel
theorem dX6_rankRows_51 : decode cX6_rankRows 51 = .ok (.iload_n 2, 1) := by decide +kernel
theorem dX6_rankRows_52 : decode cX6_rankRows 52 = .ok (.iload_n 3, 1) := by decide +kernel
theorem dX6_rankRows_53 : decode cX6_rankRows 53 = .ok (.iastore, 1) := by decide +kernel
theorem dX6_rankRows_54 : decode cX6_rankRows 54 = .ok (.iinc 2 1, 3) := by decide +kernel
theorem dX6_rankRows_57 : decode cX6_rankRows 57 = .ok (.iinc 3 1, 3) := by decide +kernel
theorem dX6_rankRows_60 : decode cX6_rankRows 60 = .ok (.goto (-39), 3) := by decide +kernel
theorem dX6_rankRows_63 : decode cX6_rankRows 63 = .ok (.iload_n 2, 1) := by decide +kernel
theorem dX6_rankRows_64 : decode cX6_rankRows 64 = .ok (.ireturn, 1) := by decide +kernel
theorem dX6_isNewRow_0 : decode cX6_isNewRow 0 = .ok (.aload_n 0, 1) := by decide +kernel
theorem dX6_isNewRow_1 : decode cX6_isNewRow 1 = .ok (.getfield 54, 3) := by decide +kernel
theorem dX6_isNewRow_4 : decode cX6_isNewRow 4 = .ok (.aload_n 0, 1) := by decide +kernel
theorem dX6_isNewRow_5 : decode cX6_isNewRow 5 = .ok (.iload_n 1, 1) := by decide +kernel
theorem dX6_isNewRow_6 : decode cX6_isNewRow 6 = .ok (.invokevirtual 272, 3) := by decide +kernel
theorem dX6_isNewRow_9 : decode cX6_isNewRow 9 = .ok (.invokevirtual 196, 3) := by decide +kernel
theorem dX6_isNewRow_12 : decode cX6_isNewRow 12 = .ok (.istore_n 2, 1) := by decide +kernel
theorem dX6_isNewRow_13 : decode cX6_isNewRow 13 = .ok (.aload_n 0, 1) := by decide +kernel
theorem dX6_isNewRow_14 : decode cX6_isNewRow 14 = .ok (.getfield 54, 3) := by decide +kernel
theorem dX6_isNewRow_17 : decode cX6_isNewRow 17 = .ok (.getfield 206, 3) := by decide +kernel
theorem dX6_isNewRow_20 : decode cX6_isNewRow 20 = .ok (.iload_n 2, 1) := by decide +kernel
theorem dX6_isNewRow_21 : decode cX6_isNewRow 21 = .ok (.iaload, 1) := by decide +kernel
theorem dX6_isNewRow_22 : decode cX6_isNewRow 22 = .ok (.istore_n 3, 1) := by decide +kernel
theorem dX6_isNewRow_23 : decode cX6_isNewRow 23 = .ok (.iconst 0, 1) := by decide +kernel
theorem dX6_isNewRow_24 : decode cX6_isNewRow 24 = .ok (.istore 4, 2) := by decide +kernel
theorem dX6_isNewRow_26 : decode cX6_isNewRow 26 = .ok (.iload 4, 2) := by decide +kernel
theorem dX6_isNewRow_28 : decode cX6_isNewRow 28 = .ok (.aload_n 0, 1) := by decide +kernel
theorem dX6_isNewRow_29 : decode cX6_isNewRow 29 = .ok (.getfield 54, 3) := by decide +kernel
theorem dX6_isNewRow_32 : decode cX6_isNewRow 32 = .ok (.getfield 121, 3) := by decide +kernel
theorem dX6_isNewRow_35 : decode cX6_isNewRow 35 = .ok (.if_icmp .ge 35, 3) := by decide +kernel
theorem dX6_isNewRow_38 : decode cX6_isNewRow 38 = .ok (.iload_n 3, 1) := by decide +kernel
theorem dX6_isNewRow_39 : decode cX6_isNewRow 39 = .ok (.iconst (-1), 1) := by decide +kernel
theorem dX6_isNewRow_40 : decode cX6_isNewRow 40 = .ok (.if_icmp .eq 30, 3) := by decide +kernel
theorem dX6_isNewRow_43 : decode cX6_isNewRow 43 = .ok (.aload_n 0, 1) := by decide +kernel
theorem dX6_isNewRow_44 : decode cX6_isNewRow 44 = .ok (.iload_n 1, 1) := by decide +kernel
theorem dX6_isNewRow_45 : decode cX6_isNewRow 45 = .ok (.iload_n 3, 1) := by decide +kernel
theorem dX6_isNewRow_46 : decode cX6_isNewRow 46 = .ok (.invokevirtual 275, 3) := by decide +kernel
theorem dX6_isNewRow_49 : decode cX6_isNewRow 49 = .ok (.ifCond .eq 5, 3) := by decide +kernel
theorem dX6_isNewRow_52 : decode cX6_isNewRow 52 = .ok (.iconst 0, 1) := by decide +kernel
theorem dX6_isNewRow_53 : decode cX6_isNewRow 53 = .ok (.ireturn, 1) := by decide +kernel
theorem dX6_isNewRow_54 : decode cX6_isNewRow 54 = .ok (.aload_n 0, 1) := by decide +kernel
theorem dX6_isNewRow_55 : decode cX6_isNewRow 55 = .ok (.getfield 54, 3) := by decide +kernel
theorem dX6_isNewRow_58 : decode cX6_isNewRow 58 = .ok (.getfield 215, 3) := by decide +kernel
theorem dX6_isNewRow_61 : decode cX6_isNewRow 61 = .ok (.iload_n 3, 1) := by decide +kernel
theorem dX6_isNewRow_62 : decode cX6_isNewRow 62 = .ok (.iaload, 1) := by decide +kernel
theorem dX6_isNewRow_63 : decode cX6_isNewRow 63 = .ok (.istore_n 3, 1) := by decide +kernel
theorem dX6_isNewRow_64 : decode cX6_isNewRow 64 = .ok (.iinc 4 1, 3) := by decide +kernel
theorem dX6_isNewRow_67 : decode cX6_isNewRow 67 = .ok (.goto (-41), 3) := by decide +kernel
theorem dX6_isNewRow_70 : decode cX6_isNewRow 70 = .ok (.aload_n 0, 1) := by decide +kernel
theorem dX6_isNewRow_71 : decode cX6_isNewRow 71 = .ok (.getfield 54, 3) := by decide +kernel
theorem dX6_isNewRow_74 : decode cX6_isNewRow 74 = .ok (.iload_n 1, 1) := by decide +kernel
theorem dX6_isNewRow_75 : decode cX6_isNewRow 75 = .ok (.iload_n 2, 1) := by decide +kernel
theorem dX6_isNewRow_76 : decode cX6_isNewRow 76 = .ok (.invokevirtual 203, 3) := by decide +kernel
theorem dX6_isNewRow_79 : decode cX6_isNewRow 79 = .ok (.iconst 1, 1) := by decide +kernel
theorem dX6_isNewRow_80 : decode cX6_isNewRow 80 = .ok (.ireturn, 1) := by decide +kernel
theorem dX6_hashOfRow_0 : decode cX6_hashOfRow 0 = .ok (.lconst 0, 1) := by decide +kernel
theorem dX6_hashOfRow_1 : decode cX6_hashOfRow 1 = .ok (.lstore_n 2, 1) := by decide +kernel
theorem dX6_hashOfRow_2 : decode cX6_hashOfRow 2 = .ok (.iconst 0, 1) := by decide +kernel
theorem dX6_hashOfRow_3 : decode cX6_hashOfRow 3 = .ok (.istore 4, 2) := by decide +kernel
theorem dX6_hashOfRow_5 : decode cX6_hashOfRow 5 = .ok (.iload 4, 2) := by decide +kernel
theorem dX6_hashOfRow_7 : decode cX6_hashOfRow 7 = .ok (.aload_n 0, 1) := by decide +kernel
theorem dX6_hashOfRow_8 : decode cX6_hashOfRow 8 = .ok (.getfield 36, 3) := by decide +kernel
theorem dX6_hashOfRow_11 : decode cX6_hashOfRow 11 = .ok (.getfield 77, 3) := by decide +kernel
theorem dX6_hashOfRow_14 : decode cX6_hashOfRow 14 = .ok (.if_icmp .ge 27, 3) := by decide +kernel
theorem dX6_hashOfRow_17 : decode cX6_hashOfRow 17 = .ok (.aload_n 0, 1) := by decide +kernel
theorem dX6_hashOfRow_18 : decode cX6_hashOfRow 18 = .ok (.getfield 54, 3) := by decide +kernel
theorem dX6_hashOfRow_21 : decode cX6_hashOfRow 21 = .ok (.getfield 246, 3) := by decide +kernel
theorem dX6_hashOfRow_24 : decode cX6_hashOfRow 24 = .ok (.lload_n 2, 1) := by decide +kernel
theorem dX6_hashOfRow_25 : decode cX6_hashOfRow 25 = .ok (.iload_n 1, 1) := by decide +kernel
theorem dX6_hashOfRow_26 : decode cX6_hashOfRow 26 = .ok (.iload 4, 2) := by decide +kernel
theorem dX6_hashOfRow_28 : decode cX6_hashOfRow 28 = .ok (.invokestatic 247, 3) := by decide +kernel
theorem dX6_hashOfRow_31 : decode cX6_hashOfRow 31 = .ok (.invokevirtual 227, 3) := by decide +kernel
theorem dX6_hashOfRow_34 : decode cX6_hashOfRow 34 = .ok (.lstore_n 2, 1) := by decide +kernel
theorem dX6_hashOfRow_35 : decode cX6_hashOfRow 35 = .ok (.iinc 4 1, 3) := by decide +kernel
theorem dX6_hashOfRow_38 : decode cX6_hashOfRow 38 = .ok (.goto (-33), 3) := by decide +kernel
theorem dX6_hashOfRow_41 : decode cX6_hashOfRow 41 = .ok (.lload_n 2, 1) := by decide +kernel
theorem dX6_hashOfRow_42 : decode cX6_hashOfRow 42 = .ok (.lreturn, 1) := by decide +kernel
theorem dX6_areLikeRows_0 : decode cX6_areLikeRows 0 = .ok (.iconst 0, 1) := by decide +kernel
theorem dX6_areLikeRows_1 : decode cX6_areLikeRows 1 = .ok (.istore_n 3, 1) := by decide +kernel
theorem dX6_areLikeRows_2 : decode cX6_areLikeRows 2 = .ok (.iload_n 3, 1) := by decide +kernel
theorem dX6_areLikeRows_3 : decode cX6_areLikeRows 3 = .ok (.aload_n 0, 1) := by decide +kernel
theorem dX6_areLikeRows_4 : decode cX6_areLikeRows 4 = .ok (.getfield 36, 3) := by decide +kernel
theorem dX6_areLikeRows_7 : decode cX6_areLikeRows 7 = .ok (.getfield 77, 3) := by decide +kernel
theorem dX6_areLikeRows_10 : decode cX6_areLikeRows 10 = .ok (.if_icmp .ge 34, 3) := by decide +kernel
theorem dX6_areLikeRows_13 : decode cX6_areLikeRows 13 = .ok (.aload_n 0, 1) := by decide +kernel
theorem dX6_areLikeRows_14 : decode cX6_areLikeRows 14 = .ok (.getfield 54, 3) := by decide +kernel
theorem dX6_areLikeRows_17 : decode cX6_areLikeRows 17 = .ok (.getfield 246, 3) := by decide +kernel
theorem dX6_areLikeRows_20 : decode cX6_areLikeRows 20 = .ok (.iload_n 1, 1) := by decide +kernel
theorem dX6_areLikeRows_21 : decode cX6_areLikeRows 21 = .ok (.iload_n 3, 1) := by decide +kernel
theorem dX6_areLikeRows_22 : decode cX6_areLikeRows 22 = .ok (.invokestatic 247, 3) := by decide +kernel
theorem dX6_areLikeRows_25 : decode cX6_areLikeRows 25 = .ok (.iload_n 2, 1) := by decide +kernel
theorem dX6_areLikeRows_26 : decode cX6_areLikeRows 26 = .ok (.iload_n 3, 1) := by decide +kernel
theorem dX6_areLikeRows_27 : decode cX6_areLikeRows 27 = .ok (.invokestatic 247, 3) := by decide +kernel
theorem dX6_areLikeRows_30 : decode cX6_areLikeRows 30 = .ok (.invokevirtual 224, 3) := by decide +kernel
theorem dX6_areLikeRows_33 : decode cX6_areLikeRows 33 = .ok (.ifCond .ne 5, 3) := by decide +kernel
theorem dX6_areLikeRows_36 : decode cX6_areLikeRows 36 = .ok (.iconst 0, 1) := by decide +kernel
theorem dX6_areLikeRows_37 : decode cX6_areLikeRows 37 = .ok (.ireturn, 1) := by decide +kernel
theorem dX6_areLikeRows_38 : decode cX6_areLikeRows 38 = .ok (.iinc 3 1, 3) := by decide +kernel
theorem dX6_areLikeRows_41 : decode cX6_areLikeRows 41 = .ok (.goto (-39), 3) := by decide +kernel
theorem dX6_areLikeRows_44 : decode cX6_areLikeRows 44 = .ok (.iconst 1, 1) := by decide +kernel
theorem dX6_areLikeRows_45 : decode cX6_areLikeRows 45 = .ok (.ireturn, 1) := by decide +kernel
theorem dX6_sortRanks_0 : decode cX6_sortRanks 0 = .ok (.aload_n 0, 1) := by decide +kernel
theorem dX6_sortRanks_1 : decode cX6_sortRanks 1 = .ok (.getfield 36, 3) := by decide +kernel
theorem dX6_sortRanks_4 : decode cX6_sortRanks 4 = .ok (.getfield 278, 3) := by decide +kernel
theorem dX6_sortRanks_7 : decode cX6_sortRanks 7 = .ok (.ifCond .ne 4, 3) := by decide +kernel
theorem dX6_sortRanks_10 : decode cX6_sortRanks 10 = .ok (.return_, 1) := by decide +kernel
theorem dX6_sortRanks_11 : decode cX6_sortRanks 11 = .ok (.iconst 1, 1) := by decide +kernel
theorem dX6_sortRanks_12 : decode cX6_sortRanks 12 = .ok (.istore_n 2, 1) := by decide +kernel
theorem dX6_sortRanks_13 : decode cX6_sortRanks 13 = .ok (.iload_n 2, 1) := by decide +kernel
theorem dX6_sortRanks_14 : decode cX6_sortRanks 14 = .ok (.iload_n 1, 1) := by decide +kernel
theorem dX6_sortRanks_15 : decode cX6_sortRanks 15 = .ok (.if_icmp .ge 67, 3) := by decide +kernel
theorem dX6_sortRanks_18 : decode cX6_sortRanks 18 = .ok (.iconst 0, 1) := by decide +kernel
theorem dX6_sortRanks_19 : decode cX6_sortRanks 19 = .ok (.istore_n 3, 1) := by decide +kernel
theorem dX6_sortRanks_20 : decode cX6_sortRanks 20 = .ok (.iload_n 3, 1) := by decide +kernel
theorem dX6_sortRanks_21 : decode cX6_sortRanks 21 = .ok (.iload_n 1, 1) := by decide +kernel
theorem dX6_sortRanks_22 : decode cX6_sortRanks 22 = .ok (.if_icmp .ge 33, 3) := by decide +kernel
theorem dX6_sortRanks_25 : decode cX6_sortRanks 25 = .ok (.aload_n 0, 1) := by decide +kernel
theorem dX6_sortRanks_26 : decode cX6_sortRanks 26 = .ok (.iload_n 3, 1) := by decide +kernel
theorem dX6_sortRanks_27 : decode cX6_sortRanks 27 = .ok (.iload_n 3, 1) := by decide +kernel
theorem dX6_sortRanks_28 : decode cX6_sortRanks 28 = .ok (.iload_n 2, 1) := by decide +kernel
theorem dX6_sortRanks_29 : decode cX6_sortRanks 29 = .ok (.iadd, 1) := by decide +kernel
theorem dX6_sortRanks_30 : decode cX6_sortRanks 30 = .ok (.iload_n 1, 1) := by decide +kernel
theorem dX6_sortRanks_31 : decode cX6_sortRanks 31 = .ok (.invokestatic 124, 3) := by decide +kernel
theorem dX6_sortRanks_34 : decode cX6_sortRanks 34 = .ok (.iload_n 3, 1) := by decide +kernel
theorem dX6_sortRanks_35 : decode cX6_sortRanks 35 = .ok (.iconst 2, 1) := by decide +kernel
theorem dX6_sortRanks_36 : decode cX6_sortRanks 36 = .ok (.iload_n 2, 1) := by decide +kernel
theorem dX6_sortRanks_37 : decode cX6_sortRanks 37 = .ok (.imul, 1) := by decide +kernel
theorem dX6_sortRanks_38 : decode cX6_sortRanks 38 = .ok (.iadd, 1) := by decide +kernel
theorem dX6_sortRanks_39 : decode cX6_sortRanks 39 = .ok (.iload_n 1, 1) := by decide +kernel
theorem dX6_sortRanks_40 : decode cX6_sortRanks 40 = .ok (.invokestatic 124, 3) := by decide +kernel
theorem dX6_sortRanks_43 : decode cX6_sortRanks 43 = .ok (.invokevirtual 281, 3) := by decide +kernel
theorem dX6_sortRanks_46 : decode cX6_sortRanks 46 = .ok (.iload_n 3, 1) := by decide +kernel
theorem dX6_sortRanks_47 : decode cX6_sortRanks 47 = .ok (.iconst 2, 1) := by decide +kernel
theorem dX6_sortRanks_48 : decode cX6_sortRanks 48 = .ok (.iload_n 2, 1) := by decide +kernel
theorem dX6_sortRanks_49 : decode cX6_sortRanks 49 = .ok (.imul, 1) := by decide +kernel
theorem dX6_sortRanks_50 : decode cX6_sortRanks 50 = .ok (.iadd, 1) := by decide +kernel
theorem dX6_sortRanks_51 : decode cX6_sortRanks 51 = .ok (.istore_n 3, 1) := by decide +kernel
theorem dX6_sortRanks_52 : decode cX6_sortRanks 52 = .ok (.goto (-32), 3) := by decide +kernel
theorem dX6_sortRanks_55 : decode cX6_sortRanks 55 = .ok (.aload_n 0, 1) := by decide +kernel
theorem dX6_sortRanks_56 : decode cX6_sortRanks 56 = .ok (.getfield 54, 3) := by decide +kernel
theorem dX6_sortRanks_59 : decode cX6_sortRanks 59 = .ok (.getfield 285, 3) := by decide +kernel
theorem dX6_sortRanks_62 : decode cX6_sortRanks 62 = .ok (.iconst 0, 1) := by decide +kernel
theorem dX6_sortRanks_63 : decode cX6_sortRanks 63 = .ok (.aload_n 0, 1) := by decide +kernel
theorem dX6_sortRanks_64 : decode cX6_sortRanks 64 = .ok (.getfield 54, 3) := by decide +kernel
theorem dX6_sortRanks_67 : decode cX6_sortRanks 67 = .ok (.getfield 269, 3) := by decide +kernel
theorem dX6_sortRanks_70 : decode cX6_sortRanks 70 = .ok (.iconst 0, 1) := by decide +kernel
theorem dX6_sortRanks_71 : decode cX6_sortRanks 71 = .ok (.iload_n 1, 1) := by decide +kernel
theorem dX6_sortRanks_72 : decode cX6_sortRanks 72 = .ok (.invokestatic 288, 3) := by decide +kernel
theorem dX6_sortRanks_75 : decode cX6_sortRanks 75 = .ok (.iload_n 2, 1) := by decide +kernel
theorem dX6_sortRanks_76 : decode cX6_sortRanks 76 = .ok (.iconst 2, 1) := by decide +kernel
theorem dX6_sortRanks_77 : decode cX6_sortRanks 77 = .ok (.imul, 1) := by decide +kernel
theorem dX6_sortRanks_78 : decode cX6_sortRanks 78 = .ok (.istore_n 2, 1) := by decide +kernel
theorem dX6_sortRanks_79 : decode cX6_sortRanks 79 = .ok (.goto (-66), 3) := by decide +kernel
theorem dX6_sortRanks_82 : decode cX6_sortRanks 82 = .ok (.return_, 1) := by decide +kernel
theorem dX6_merge_0 : decode cX6_merge 0 = .ok (.aload_n 0, 1) := by decide +kernel
theorem dX6_merge_1 : decode cX6_merge 1 = .ok (.getfield 54, 3) := by decide +kernel
theorem dX6_merge_4 : decode cX6_merge 4 = .ok (.getfield 269, 3) := by decide +kernel
theorem dX6_merge_7 : decode cX6_merge 7 = .ok (.astore 4, 2) := by decide +kernel
theorem dX6_merge_9 : decode cX6_merge 9 = .ok (.iload_n 1, 1) := by decide +kernel
theorem dX6_merge_10 : decode cX6_merge 10 = .ok (.istore 5, 2) := by decide +kernel
theorem dX6_merge_12 : decode cX6_merge 12 = .ok (.iload_n 2, 1) := by decide +kernel
theorem dX6_merge_13 : decode cX6_merge 13 = .ok (.istore 6, 2) := by decide +kernel
theorem dX6_merge_15 : decode cX6_merge 15 = .ok (.iload_n 1, 1) := by decide +kernel
theorem dX6_merge_16 : decode cX6_merge 16 = .ok (.istore 7, 2) := by decide +kernel
theorem dX6_merge_18 : decode cX6_merge 18 = .ok (.iload 7, 2) := by decide +kernel
theorem dX6_merge_20 : decode cX6_merge 20 = .ok (.iload_n 3, 1) := by decide +kernel
theorem dX6_merge_21 : decode cX6_merge 21 = .ok (.if_icmp .ge 89, 3) := by decide +kernel
theorem dX6_merge_24 : decode cX6_merge 24 = .ok (.iload 6, 2) := by decide +kernel
theorem dX6_merge_26 : decode cX6_merge 26 = .ok (.iload_n 3, 1) := by decide +kernel
theorem dX6_merge_27 : decode cX6_merge 27 = .ok (.if_icmp .ge 26, 3) := by decide +kernel
theorem dX6_merge_30 : decode cX6_merge 30 = .ok (.iload 5, 2) := by decide +kernel
theorem dX6_merge_32 : decode cX6_merge 32 = .ok (.iload_n 2, 1) := by decide +kernel
theorem dX6_merge_33 : decode cX6_merge 33 = .ok (.if_icmp .ge 24, 3) := by decide +kernel
theorem dX6_merge_36 : decode cX6_merge 36 = .ok (.aload_n 0, 1) := by decide +kernel
theorem dX6_merge_37 : decode cX6_merge 37 = .ok (.aload 4, 2) := by decide +kernel
theorem dX6_merge_39 : decode cX6_merge 39 = .ok (.iload 5, 2) := by decide +kernel
theorem dX6_merge_41 : decode cX6_merge 41 = .ok (.iaload, 1) := by decide +kernel
theorem dX6_merge_42 : decode cX6_merge 42 = .ok (.aload 4, 2) := by decide +kernel
theorem dX6_merge_44 : decode cX6_merge 44 = .ok (.iload 6, 2) := by decide +kernel
theorem dX6_merge_46 : decode cX6_merge 46 = .ok (.iaload, 1) := by decide +kernel
theorem dX6_merge_47 : decode cX6_merge 47 = .ok (.invokevirtual 294, 3) := by decide +kernel
theorem dX6_merge_50 : decode cX6_merge 50 = .ok (.ifCond .gt 7, 3) := by decide +kernel
theorem dX6_merge_53 : decode cX6_merge 53 = .ok (.iconst 1, 1) := by decide +kernel
theorem dX6_merge_54 : decode cX6_merge 54 = .ok (.goto 4, 3) := by decide +kernel
theorem dX6_merge_57 : decode cX6_merge 57 = .ok (.iconst 0, 1) := by decide +kernel
theorem dX6_merge_58 : decode cX6_merge 58 = .ok (.istore 8, 2) := by decide +kernel
theorem dX6_merge_60 : decode cX6_merge 60 = .ok (.iload 8, 2) := by decide +kernel
theorem dX6_merge_62 : decode cX6_merge 62 = .ok (.ifCond .eq 24, 3) := by decide +kernel
theorem dX6_merge_65 : decode cX6_merge 65 = .ok (.aload_n 0, 1) := by decide +kernel
theorem dX6_merge_66 : decode cX6_merge 66 = .ok (.getfield 54, 3) := by decide +kernel
theorem dX6_merge_69 : decode cX6_merge 69 = .ok (.getfield 285, 3) := by decide +kernel
theorem dX6_merge_72 : decode cX6_merge 72 = .ok (.iload 7, 2) := by decide +kernel
theorem dX6_merge_74 : decode cX6_merge 74 = .ok (.aload 4, 2) := by decide +kernel
theorem dX6_merge_76 : decode cX6_merge 76 = .ok (.iload 5, 2) := by decide +kernel
theorem dX6_merge_78 : decode cX6_merge 78 = .ok (.iaload, 1) := by decide +kernel
theorem dX6_merge_79 : decode cX6_merge 79 = .ok (.iastore, 1) := by decide +kernel
theorem dX6_merge_80 : decode cX6_merge 80 = .ok (.iinc 5 1, 3) := by decide +kernel
theorem dX6_merge_83 : decode cX6_merge 83 = .ok (.goto 21, 3) := by decide +kernel
theorem dX6_merge_86 : decode cX6_merge 86 = .ok (.aload_n 0, 1) := by decide +kernel
theorem dX6_merge_87 : decode cX6_merge 87 = .ok (.getfield 54, 3) := by decide +kernel
theorem dX6_merge_90 : decode cX6_merge 90 = .ok (.getfield 285, 3) := by decide +kernel
theorem dX6_merge_93 : decode cX6_merge 93 = .ok (.iload 7, 2) := by decide +kernel
theorem dX6_merge_95 : decode cX6_merge 95 = .ok (.aload 4, 2) := by decide +kernel
theorem dX6_merge_97 : decode cX6_merge 97 = .ok (.iload 6, 2) := by decide +kernel
theorem dX6_merge_99 : decode cX6_merge 99 = .ok (.iaload, 1) := by decide +kernel
theorem dX6_merge_100 : decode cX6_merge 100 = .ok (.iastore, 1) := by decide +kernel
theorem dX6_merge_101 : decode cX6_merge 101 = .ok (.iinc 6 1, 3) := by decide +kernel
theorem dX6_merge_104 : decode cX6_merge 104 = .ok (.iinc 7 1, 3) := by decide +kernel
theorem dX6_merge_107 : decode cX6_merge 107 = .ok (.goto (-89), 3) := by decide +kernel
theorem dX6_merge_110 : decode cX6_merge 110 = .ok (.return_, 1) := by decide +kernel
theorem dX6_compareRows_0 : decode cX6_compareRows 0 = .ok (.iconst 0, 1) := by decide +kernel
theorem dX6_compareRows_1 : decode cX6_compareRows 1 = .ok (.istore_n 3, 1) := by decide +kernel
theorem dX6_compareRows_2 : decode cX6_compareRows 2 = .ok (.iload_n 3, 1) := by decide +kernel
theorem dX6_compareRows_3 : decode cX6_compareRows 3 = .ok (.aload_n 0, 1) := by decide +kernel
theorem dX6_compareRows_4 : decode cX6_compareRows 4 = .ok (.getfield 36, 3) := by decide +kernel
theorem dX6_compareRows_7 : decode cX6_compareRows 7 = .ok (.getfield 278, 3) := by decide +kernel
theorem dX6_compareRows_10 : decode cX6_compareRows 10 = .ok (.if_icmp .ge 70, 3) := by decide +kernel
theorem dX6_compareRows_13 : decode cX6_compareRows 13 = .ok (.aload_n 0, 1) := by decide +kernel
theorem dX6_compareRows_14 : decode cX6_compareRows 14 = .ok (.getfield 36, 3) := by decide +kernel
theorem dX6_compareRows_17 : decode cX6_compareRows 17 = .ok (.getfield 297, 3) := by decide +kernel
theorem dX6_compareRows_20 : decode cX6_compareRows 20 = .ok (.iload_n 3, 1) := by decide +kernel
theorem dX6_compareRows_21 : decode cX6_compareRows 21 = .ok (.iaload, 1) := by decide +kernel
theorem dX6_compareRows_22 : decode cX6_compareRows 22 = .ok (.istore 4, 2) := by decide +kernel
theorem dX6_compareRows_24 : decode cX6_compareRows 24 = .ok (.aload_n 0, 1) := by decide +kernel
theorem dX6_compareRows_25 : decode cX6_compareRows 25 = .ok (.getfield 54, 3) := by decide +kernel
theorem dX6_compareRows_28 : decode cX6_compareRows 28 = .ok (.getfield 246, 3) := by decide +kernel
theorem dX6_compareRows_31 : decode cX6_compareRows 31 = .ok (.iload_n 1, 1) := by decide +kernel
theorem dX6_compareRows_32 : decode cX6_compareRows 32 = .ok (.iload 4, 2) := by decide +kernel
theorem dX6_compareRows_34 : decode cX6_compareRows 34 = .ok (.invokestatic 247, 3) := by decide +kernel
theorem dX6_compareRows_37 : decode cX6_compareRows 37 = .ok (.iload_n 2, 1) := by decide +kernel
theorem dX6_compareRows_38 : decode cX6_compareRows 38 = .ok (.iload 4, 2) := by decide +kernel
theorem dX6_compareRows_40 : decode cX6_compareRows 40 = .ok (.invokestatic 247, 3) := by decide +kernel
theorem dX6_compareRows_43 : decode cX6_compareRows 43 = .ok (.invokevirtual 300, 3) := by decide +kernel
theorem dX6_compareRows_46 : decode cX6_compareRows 46 = .ok (.istore 5, 2) := by decide +kernel
theorem dX6_compareRows_48 : decode cX6_compareRows 48 = .ok (.iload 5, 2) := by decide +kernel
theorem dX6_compareRows_50 : decode cX6_compareRows 50 = .ok (.ifCond .eq 24, 3) := by decide +kernel
theorem dX6_compareRows_53 : decode cX6_compareRows 53 = .ok (.aload_n 0, 1) := by decide +kernel
theorem dX6_compareRows_54 : decode cX6_compareRows 54 = .ok (.getfield 36, 3) := by decide +kernel
theorem dX6_compareRows_57 : decode cX6_compareRows 57 = .ok (.getfield 303, 3) := by decide +kernel
theorem dX6_compareRows_60 : decode cX6_compareRows 60 = .ok (.iload_n 3, 1) := by decide +kernel
theorem dX6_compareRows_61 : decode cX6_compareRows 61 = .ok (.baload, 1) := by decide +kernel
theorem dX6_compareRows_62 : decode cX6_compareRows 62 = .ok (.ifCond .eq 9, 3) := by decide +kernel
theorem dX6_compareRows_65 : decode cX6_compareRows 65 = .ok (.iload 5, 2) := by decide +kernel
theorem dX6_compareRows_67 : decode cX6_compareRows 67 = .ok (.ineg, 1) := by decide +kernel
theorem dX6_compareRows_68 : decode cX6_compareRows 68 = .ok (.goto 5, 3) := by decide +kernel
theorem dX6_compareRows_71 : decode cX6_compareRows 71 = .ok (.iload 5, 2) := by decide +kernel
theorem dX6_compareRows_73 : decode cX6_compareRows 73 = .ok (.ireturn, 1) := by decide +kernel
theorem dX6_compareRows_74 : decode cX6_compareRows 74 = .ok (.iinc 3 1, 3) := by decide +kernel
theorem dX6_compareRows_77 : decode cX6_compareRows 77 = .ok (.goto (-75), 3) := by decide +kernel
theorem dX6_compareRows_80 : decode cX6_compareRows 80 = .ok (.iconst 0, 1) := by decide +kernel
theorem dX6_compareRows_81 : decode cX6_compareRows 81 = .ok (.ireturn, 1) := by decide +kernel
theorem dX7_init_0 : decode cX7_init 0 = .ok (.aload_n 0, 1) := by decide +kernel
theorem dX7_init_1 : decode cX7_init 1 = .ok (.invokespecial 3, 3) := by decide +kernel
theorem dX7_init_4 : decode cX7_init 4 = .ok (.aload_n 0, 1) := by decide +kernel
theorem dX7_init_5 : decode cX7_init 5 = .ok (.iconst 3, 1) := by decide +kernel
theorem dX7_init_6 : decode cX7_init 6 = .ok (.newarray .int, 2) := by decide +kernel
theorem dX7_init_8 : decode cX7_init 8 = .ok (.putfield 9, 3) := by decide +kernel
theorem dX7_init_11 : decode cX7_init 11 = .ok (.aload_n 0, 1) := by decide +kernel
theorem dX7_init_12 : decode cX7_init 12 = .ok (.bipush 24, 2) := by decide +kernel
theorem dX7_init_14 : decode cX7_init 14 = .ok (.newarray .int, 2) := by decide +kernel
theorem dX7_init_16 : decode cX7_init 16 = .ok (.putfield 15, 3) := by decide +kernel
theorem dX7_init_19 : decode cX7_init 19 = .ok (.aload_n 0, 1) := by decide +kernel
theorem dX7_init_20 : decode cX7_init 20 = .ok (.iconst 3, 1) := by decide +kernel
theorem dX7_init_21 : decode cX7_init 21 = .ok (.newarray .int, 2) := by decide +kernel
theorem dX7_init_23 : decode cX7_init 23 = .ok (.putfield 18, 3) := by decide +kernel
theorem dX7_init_26 : decode cX7_init 26 = .ok (.aload_n 0, 1) := by decide +kernel
theorem dX7_init_27 : decode cX7_init 27 = .ok (.new 21, 3) := by decide +kernel
theorem dX7_init_30 : decode cX7_init 30 = .ok (.dup, 1) := by decide +kernel
theorem dX7_init_31 : decode cX7_init 31 = .ok (.sipush 960, 3) := by decide +kernel
theorem dX7_init_34 : decode cX7_init 34 = .ok (.invokespecial 23, 3) := by decide +kernel
theorem dX7_init_37 : decode cX7_init 37 = .ok (.putfield 26, 3) := by decide +kernel
theorem dX7_init_40 : decode cX7_init 40 = .ok (.return_, 1) := by decide +kernel
theorem dX7_create_0 : decode cX7_create 0 = .ok (.aload_n 0, 1) := by decide +kernel
theorem dX7_create_1 : decode cX7_create 1 = .ok (.getfield 30, 3) := by decide +kernel
theorem dX7_create_4 : decode cX7_create 4 = .ok (.iconst 3, 1) := by decide +kernel
theorem dX7_create_5 : decode cX7_create 5 = .ok (.if_icmp .ge 11, 3) := by decide +kernel
theorem dX7_create_8 : decode cX7_create 8 = .ok (.iload_n 1, 1) := by decide +kernel
theorem dX7_create_9 : decode cX7_create 9 = .ok (.iload_n 2, 1) := by decide +kernel
theorem dX7_create_10 : decode cX7_create 10 = .ok (.invokestatic 34, 3) := by decide +kernel
theorem dX7_create_13 : decode cX7_create 13 = .ok (.ifCond .ne 5, 3) := by decide +kernel
theorem dX7_create_16 : decode cX7_create 16 = .ok (.iconst (-1), 1) := by decide +kernel
theorem dX7_create_17 : decode cX7_create 17 = .ok (.ireturn, 1) := by decide +kernel
theorem dX7_create_18 : decode cX7_create 18 = .ok (.iload_n 2, 1) := by decide +kernel
theorem dX7_create_19 : decode cX7_create 19 = .ok (.istore_n 3, 1) := by decide +kernel
theorem dX7_create_20 : decode cX7_create 20 = .ok (.iconst 0, 1) := by decide +kernel
theorem dX7_create_21 : decode cX7_create 21 = .ok (.istore 4, 2) := by decide +kernel
theorem dX7_create_23 : decode cX7_create 23 = .ok (.iload 4, 2) := by decide +kernel
theorem dX7_create_25 : decode cX7_create 25 = .ok (.iload_n 1, 1) := by decide +kernel
theorem dX7_create_26 : decode cX7_create 26 = .ok (.if_icmp .ge 33, 3) := by decide +kernel
theorem dX7_create_29 : decode cX7_create 29 = .ok (.aload_n 0, 1) := by decide +kernel
theorem dX7_create_30 : decode cX7_create 30 = .ok (.getfield 15, 3) := by decide +kernel
theorem dX7_create_33 : decode cX7_create 33 = .ok (.aload_n 0, 1) := by decide +kernel
theorem dX7_create_34 : decode cX7_create 34 = .ok (.getfield 30, 3) := by decide +kernel
theorem dX7_create_37 : decode cX7_create 37 = .ok (.bipush 8, 2) := by decide +kernel
theorem dX7_create_39 : decode cX7_create 39 = .ok (.imul, 1) := by decide +kernel
theorem dX7_create_40 : decode cX7_create 40 = .ok (.iload 4, 2) := by decide +kernel
theorem dX7_create_42 : decode cX7_create 42 = .ok (.iadd, 1) := by decide +kernel
theorem dX7_create_43 : decode cX7_create 43 = .ok (.iload_n 3, 1) := by decide +kernel
theorem dX7_create_44 : decode cX7_create 44 = .ok (.bipush 10, 2) := by decide +kernel
theorem dX7_create_46 : decode cX7_create 46 = .ok (.irem, 1) := by decide +kernel
theorem dX7_create_47 : decode cX7_create 47 = .ok (.iastore, 1) := by decide +kernel
theorem dX7_create_48 : decode cX7_create 48 = .ok (.iload_n 3, 1) := by decide +kernel
theorem dX7_create_49 : decode cX7_create 49 = .ok (.bipush 10, 2) := by decide +kernel
theorem dX7_create_51 : decode cX7_create 51 = .ok (.idiv, 1) := by decide +kernel
theorem dX7_create_52 : decode cX7_create 52 = .ok (.istore_n 3, 1) := by decide +kernel
theorem dX7_create_53 : decode cX7_create 53 = .ok (.iinc 4 1, 3) := by decide +kernel
theorem dX7_create_56 : decode cX7_create 56 = .ok (.goto (-33), 3) := by decide +kernel
theorem dX7_create_59 : decode cX7_create 59 = .ok (.aload_n 0, 1) := by decide +kernel
theorem dX7_create_60 : decode cX7_create 60 = .ok (.getfield 9, 3) := by decide +kernel
theorem dX7_create_63 : decode cX7_create 63 = .ok (.aload_n 0, 1) := by decide +kernel
theorem dX7_create_64 : decode cX7_create 64 = .ok (.getfield 30, 3) := by decide +kernel
theorem dX7_create_67 : decode cX7_create 67 = .ok (.iload_n 1, 1) := by decide +kernel
theorem dX7_create_68 : decode cX7_create 68 = .ok (.iastore, 1) := by decide +kernel
theorem dX7_create_69 : decode cX7_create 69 = .ok (.aload_n 0, 1) := by decide +kernel
theorem dX7_create_70 : decode cX7_create 70 = .ok (.getfield 18, 3) := by decide +kernel
theorem dX7_create_73 : decode cX7_create 73 = .ok (.aload_n 0, 1) := by decide +kernel
theorem dX7_create_74 : decode cX7_create 74 = .ok (.getfield 30, 3) := by decide +kernel
theorem dX7_create_77 : decode cX7_create 77 = .ok (.iconst 0, 1) := by decide +kernel
theorem dX7_create_78 : decode cX7_create 78 = .ok (.iastore, 1) := by decide +kernel
theorem dX7_create_79 : decode cX7_create 79 = .ok (.aload_n 0, 1) := by decide +kernel
theorem dX7_create_80 : decode cX7_create 80 = .ok (.dup, 1) := by decide +kernel
theorem dX7_create_81 : decode cX7_create 81 = .ok (.getfield 30, 3) := by decide +kernel
theorem dX7_create_84 : decode cX7_create 84 = .ok (.dup_x1, 1) := by decide +kernel
theorem dX7_create_85 : decode cX7_create 85 = .ok (.iconst 1, 1) := by decide +kernel
theorem dX7_create_86 : decode cX7_create 86 = .ok (.iadd, 1) := by decide +kernel
theorem dX7_create_87 : decode cX7_create 87 = .ok (.putfield 30, 3) := by decide +kernel
theorem dX7_create_90 : decode cX7_create 90 = .ok (.ireturn, 1) := by decide +kernel
theorem dX7_areTypes_0 : decode cX7_areTypes 0 = .ok (.iload_n 0, 1) := by decide +kernel
theorem dX7_areTypes_1 : decode cX7_areTypes 1 = .ok (.iconst 1, 1) := by decide +kernel
theorem dX7_areTypes_2 : decode cX7_areTypes 2 = .ok (.if_icmp .lt 13, 3) := by decide +kernel
theorem dX7_areTypes_5 : decode cX7_areTypes 5 = .ok (.iload_n 0, 1) := by decide +kernel
theorem dX7_areTypes_6 : decode cX7_areTypes 6 = .ok (.bipush 8, 2) := by decide +kernel
theorem dX7_areTypes_8 : decode cX7_areTypes 8 = .ok (.if_icmp .gt 7, 3) := by decide +kernel
theorem dX7_areTypes_11 : decode cX7_areTypes 11 = .ok (.iload_n 1, 1) := by decide +kernel
theorem dX7_areTypes_12 : decode cX7_areTypes 12 = .ok (.ifCond .ge 5, 3) := by decide +kernel
theorem dX7_areTypes_15 : decode cX7_areTypes 15 = .ok (.iconst 0, 1) := by decide +kernel
theorem dX7_areTypes_16 : decode cX7_areTypes 16 = .ok (.ireturn, 1) := by decide +kernel
theorem dX7_areTypes_17 : decode cX7_areTypes 17 = .ok (.iload_n 1, 1) := by decide +kernel
theorem dX7_areTypes_18 : decode cX7_areTypes 18 = .ok (.istore_n 2, 1) := by decide +kernel
theorem dX7_areTypes_19 : decode cX7_areTypes 19 = .ok (.iconst 0, 1) := by decide +kernel
theorem dX7_areTypes_20 : decode cX7_areTypes 20 = .ok (.istore_n 3, 1) := by decide +kernel
theorem dX7_areTypes_21 : decode cX7_areTypes 21 = .ok (.iload_n 3, 1) := by decide +kernel
theorem dX7_areTypes_22 : decode cX7_areTypes 22 = .ok (.iload_n 0, 1) := by decide +kernel
theorem dX7_areTypes_23 : decode cX7_areTypes 23 = .ok (.if_icmp .ge 34, 3) := by decide +kernel
theorem dX7_areTypes_26 : decode cX7_areTypes 26 = .ok (.iload_n 2, 1) := by decide +kernel
theorem dX7_areTypes_27 : decode cX7_areTypes 27 = .ok (.bipush 10, 2) := by decide +kernel
theorem dX7_areTypes_29 : decode cX7_areTypes 29 = .ok (.irem, 1) := by decide +kernel
theorem dX7_areTypes_30 : decode cX7_areTypes 30 = .ok (.istore 4, 2) := by decide +kernel
theorem dX7_areTypes_32 : decode cX7_areTypes 32 = .ok (.iload 4, 2) := by decide +kernel
theorem dX7_areTypes_34 : decode cX7_areTypes 34 = .ok (.iconst 1, 1) := by decide +kernel
theorem dX7_areTypes_35 : decode cX7_areTypes 35 = .ok (.if_icmp .lt 9, 3) := by decide +kernel
theorem dX7_areTypes_38 : decode cX7_areTypes 38 = .ok (.iload 4, 2) := by decide +kernel
theorem dX7_areTypes_40 : decode cX7_areTypes 40 = .ok (.iconst 3, 1) := by decide +kernel
theorem dX7_areTypes_41 : decode cX7_areTypes 41 = .ok (.if_icmp .le 5, 3) := by decide +kernel
theorem dX7_areTypes_44 : decode cX7_areTypes 44 = .ok (.iconst 0, 1) := by decide +kernel
theorem dX7_areTypes_45 : decode cX7_areTypes 45 = .ok (.ireturn, 1) := by decide +kernel
theorem dX7_areTypes_46 : decode cX7_areTypes 46 = .ok (.iload_n 2, 1) := by decide +kernel
theorem dX7_areTypes_47 : decode cX7_areTypes 47 = .ok (.bipush 10, 2) := by decide +kernel
theorem dX7_areTypes_49 : decode cX7_areTypes 49 = .ok (.idiv, 1) := by decide +kernel
theorem dX7_areTypes_50 : decode cX7_areTypes 50 = .ok (.istore_n 2, 1) := by decide +kernel
theorem dX7_areTypes_51 : decode cX7_areTypes 51 = .ok (.iinc 3 1, 3) := by decide +kernel
theorem dX7_areTypes_54 : decode cX7_areTypes 54 = .ok (.goto (-33), 3) := by decide +kernel
theorem dX7_areTypes_57 : decode cX7_areTypes 57 = .ok (.iconst 1, 1) := by decide +kernel
theorem dX7_areTypes_58 : decode cX7_areTypes 58 = .ok (.ireturn, 1) := by decide +kernel
theorem dX7_append_0 : decode cX7_append 0 = .ok (.aload_n 0, 1) := by decide +kernel
theorem dX7_append_1 : decode cX7_append 1 = .ok (.iload_n 1, 1) := by decide +kernel
theorem dX7_append_2 : decode cX7_append 2 = .ok (.invokevirtual 38, 3) := by decide +kernel
theorem dX7_append_5 : decode cX7_append 5 = .ok (.ifCond .eq 23, 3) := by decide +kernel
theorem dX7_append_8 : decode cX7_append 8 = .ok (.aload_n 0, 1) := by decide +kernel
theorem dX7_append_9 : decode cX7_append 9 = .ok (.getfield 18, 3) := by decide +kernel
theorem dX7_append_12 : decode cX7_append 12 = .ok (.iload_n 1, 1) := by decide +kernel
theorem dX7_append_13 : decode cX7_append 13 = .ok (.iaload, 1) := by decide +kernel
theorem dX7_append_14 : decode cX7_append 14 = .ok (.bipush 40, 2) := by decide +kernel
theorem dX7_append_16 : decode cX7_append 16 = .ok (.if_icmp .ge 12, 3) := by decide +kernel
theorem dX7_append_19 : decode cX7_append 19 = .ok (.aload_n 0, 1) := by decide +kernel
theorem dX7_append_20 : decode cX7_append 20 = .ok (.iload_n 1, 1) := by decide +kernel
theorem dX7_append_21 : decode cX7_append 21 = .ok (.aload_n 2, 1) := by decide +kernel
theorem dX7_append_22 : decode cX7_append 22 = .ok (.invokevirtual 42, 3) := by decide +kernel
theorem dX7_append_25 : decode cX7_append 25 = .ok (.ifCond .ne 5, 3) := by decide +kernel
theorem dX7_append_28 : decode cX7_append 28 = .ok (.iconst (-1), 1) := by decide +kernel
theorem dX7_append_29 : decode cX7_append 29 = .ok (.ireturn, 1) := by decide +kernel
theorem dX7_append_30 : decode cX7_append 30 = .ok (.iconst 0, 1) := by decide +kernel
theorem dX7_append_31 : decode cX7_append 31 = .ok (.istore_n 3, 1) := by decide +kernel
theorem dX7_append_32 : decode cX7_append 32 = .ok (.iload_n 3, 1) := by decide +kernel
theorem dX7_append_33 : decode cX7_append 33 = .ok (.aload_n 0, 1) := by decide +kernel
theorem dX7_append_34 : decode cX7_append 34 = .ok (.getfield 9, 3) := by decide +kernel
theorem dX7_append_37 : decode cX7_append 37 = .ok (.iload_n 1, 1) := by decide +kernel
theorem dX7_append_38 : decode cX7_append 38 = .ok (.iaload, 1) := by decide +kernel
theorem dX7_append_39 : decode cX7_append 39 = .ok (.if_icmp .ge 30, 3) := by decide +kernel
theorem dX7_append_42 : decode cX7_append 42 = .ok (.aload_n 0, 1) := by decide +kernel
theorem dX7_append_43 : decode cX7_append 43 = .ok (.getfield 26, 3) := by decide +kernel
theorem dX7_append_46 : decode cX7_append 46 = .ok (.aload_n 0, 1) := by decide +kernel
theorem dX7_append_47 : decode cX7_append 47 = .ok (.iload_n 1, 1) := by decide +kernel
theorem dX7_append_48 : decode cX7_append 48 = .ok (.aload_n 0, 1) := by decide +kernel
theorem dX7_append_49 : decode cX7_append 49 = .ok (.getfield 18, 3) := by decide +kernel
theorem dX7_append_52 : decode cX7_append 52 = .ok (.iload_n 1, 1) := by decide +kernel
theorem dX7_append_53 : decode cX7_append 53 = .ok (.iaload, 1) := by decide +kernel
theorem dX7_append_54 : decode cX7_append 54 = .ok (.iload_n 3, 1) := by decide +kernel
theorem dX7_append_55 : decode cX7_append 55 = .ok (.invokevirtual 46, 3) := by decide +kernel
theorem dX7_append_58 : decode cX7_append 58 = .ok (.aload_n 2, 1) := by decide +kernel
theorem dX7_append_59 : decode cX7_append 59 = .ok (.iload_n 3, 1) := by decide +kernel
theorem dX7_append_60 : decode cX7_append 60 = .ok (.invokevirtual 50, 3) := by decide +kernel
theorem dX7_append_63 : decode cX7_append 63 = .ok (.iinc 3 1, 3) := by decide +kernel
theorem dX7_append_66 : decode cX7_append 66 = .ok (.goto (-34), 3) := by decide +kernel
theorem dX7_append_69 : decode cX7_append 69 = .ok (.aload_n 0, 1) := by decide +kernel
theorem dX7_append_70 : decode cX7_append 70 = .ok (.getfield 18, 3) := by decide +kernel
theorem dX7_append_73 : decode cX7_append 73 = .ok (.iload_n 1, 1) := by decide +kernel
theorem dX7_append_74 : decode cX7_append 74 = .ok (.dup2, 1) := by decide +kernel
theorem dX7_append_75 : decode cX7_append 75 = .ok (.iaload, 1) := by decide +kernel
theorem dX7_append_76 : decode cX7_append 76 = .ok (.iconst 1, 1) := by decide +kernel
theorem dX7_append_77 : decode cX7_append 77 = .ok (.iadd, 1) := by decide +kernel
theorem dX7_append_78 : decode cX7_append 78 = .ok (.iastore, 1) := by decide +kernel
theorem dX7_append_79 : decode cX7_append 79 = .ok (.aload_n 0, 1) := by decide +kernel
theorem dX7_append_80 : decode cX7_append 80 = .ok (.getfield 18, 3) := by decide +kernel
theorem dX7_append_83 : decode cX7_append 83 = .ok (.iload_n 1, 1) := by decide +kernel
theorem dX7_append_84 : decode cX7_append 84 = .ok (.iaload, 1) := by decide +kernel
theorem dX7_append_85 : decode cX7_append 85 = .ok (.ireturn, 1) := by decide +kernel
theorem dX7_takes_0 : decode cX7_takes 0 = .ok (.iconst 0, 1) := by decide +kernel
theorem dX7_takes_1 : decode cX7_takes 1 = .ok (.istore_n 3, 1) := by decide +kernel
theorem dX7_takes_2 : decode cX7_takes 2 = .ok (.iload_n 3, 1) := by decide +kernel
theorem dX7_takes_3 : decode cX7_takes 3 = .ok (.aload_n 0, 1) := by decide +kernel
theorem dX7_takes_4 : decode cX7_takes 4 = .ok (.getfield 9, 3) := by decide +kernel
theorem dX7_takes_7 : decode cX7_takes 7 = .ok (.iload_n 1, 1) := by decide +kernel
theorem dX7_takes_8 : decode cX7_takes 8 = .ok (.iaload, 1) := by decide +kernel
theorem dX7_takes_9 : decode cX7_takes 9 = .ok (.if_icmp .ge 34, 3) := by decide +kernel
theorem dX7_takes_12 : decode cX7_takes 12 = .ok (.aload_n 2, 1) := by decide +kernel
theorem dX7_takes_13 : decode cX7_takes 13 = .ok (.iload_n 3, 1) := by decide +kernel
theorem dX7_takes_14 : decode cX7_takes 14 = .ok (.invokevirtual 54, 3) := by decide +kernel
theorem dX7_takes_17 : decode cX7_takes 17 = .ok (.ifCond .ne 20, 3) := by decide +kernel
theorem dX7_takes_20 : decode cX7_takes 20 = .ok (.aload_n 2, 1) := by decide +kernel
theorem dX7_takes_21 : decode cX7_takes 21 = .ok (.getfield 57, 3) := by decide +kernel
theorem dX7_takes_24 : decode cX7_takes 24 = .ok (.iload_n 3, 1) := by decide +kernel
theorem dX7_takes_25 : decode cX7_takes 25 = .ok (.iaload, 1) := by decide +kernel
theorem dX7_takes_26 : decode cX7_takes 26 = .ok (.aload_n 0, 1) := by decide +kernel
theorem dX7_takes_27 : decode cX7_takes 27 = .ok (.iload_n 1, 1) := by decide +kernel
theorem dX7_takes_28 : decode cX7_takes 28 = .ok (.iload_n 3, 1) := by decide +kernel
theorem dX7_takes_29 : decode cX7_takes 29 = .ok (.invokevirtual 60, 3) := by decide +kernel
theorem dX7_takes_32 : decode cX7_takes 32 = .ok (.if_icmp .eq 5, 3) := by decide +kernel
theorem dX7_takes_35 : decode cX7_takes 35 = .ok (.iconst 0, 1) := by decide +kernel
theorem dX7_takes_36 : decode cX7_takes 36 = .ok (.ireturn, 1) := by decide +kernel
theorem dX7_takes_37 : decode cX7_takes 37 = .ok (.iinc 3 1, 3) := by decide +kernel
theorem dX7_takes_40 : decode cX7_takes 40 = .ok (.goto (-38), 3) := by decide +kernel
theorem dX7_takes_43 : decode cX7_takes 43 = .ok (.iconst 1, 1) := by decide +kernel
theorem dX7_takes_44 : decode cX7_takes 44 = .ok (.ireturn, 1) := by decide +kernel
theorem dX7_has_0 : decode cX7_has 0 = .ok (.iload_n 1, 1) := by decide +kernel
theorem dX7_has_1 : decode cX7_has 1 = .ok (.ifCond .lt 15, 3) := by decide +kernel
theorem dX7_has_4 : decode cX7_has 4 = .ok (.iload_n 1, 1) := by decide +kernel
theorem dX7_has_5 : decode cX7_has 5 = .ok (.aload_n 0, 1) := by decide +kernel
theorem dX7_has_6 : decode cX7_has 6 = .ok (.getfield 30, 3) := by decide +kernel
theorem dX7_has_9 : decode cX7_has 9 = .ok (.if_icmp .ge 7, 3) := by decide +kernel
theorem dX7_has_12 : decode cX7_has 12 = .ok (.iconst 1, 1) := by decide +kernel
theorem dX7_has_13 : decode cX7_has 13 = .ok (.goto 4, 3) := by decide +kernel
theorem dX7_has_16 : decode cX7_has 16 = .ok (.iconst 0, 1) := by decide +kernel
theorem dX7_has_17 : decode cX7_has 17 = .ok (.ireturn, 1) := by decide +kernel
theorem dX7_hasColumn_0 : decode cX7_hasColumn 0 = .ok (.aload_n 0, 1) := by decide +kernel
theorem dX7_hasColumn_1 : decode cX7_hasColumn 1 = .ok (.iload_n 1, 1) := by decide +kernel
theorem dX7_hasColumn_2 : decode cX7_hasColumn 2 = .ok (.invokevirtual 38, 3) := by decide +kernel
theorem dX7_hasColumn_5 : decode cX7_hasColumn 5 = .ok (.ifCond .eq 21, 3) := by decide +kernel
theorem dX7_hasColumn_8 : decode cX7_hasColumn 8 = .ok (.iload_n 2, 1) := by decide +kernel
theorem dX7_hasColumn_9 : decode cX7_hasColumn 9 = .ok (.ifCond .lt 17, 3) := by decide +kernel
theorem dX7_hasColumn_12 : decode cX7_hasColumn 12 = .ok (.iload_n 2, 1) := by decide +kernel
theorem dX7_hasColumn_13 : decode cX7_hasColumn 13 = .ok (.aload_n 0, 1) := by decide +kernel
theorem dX7_hasColumn_14 : decode cX7_hasColumn 14 = .ok (.getfield 9, 3) := by decide +kernel
theorem dX7_hasColumn_17 : decode cX7_hasColumn 17 = .ok (.iload_n 1, 1) := by decide +kernel
theorem dX7_hasColumn_18 : decode cX7_hasColumn 18 = .ok (.iaload, 1) := by decide +kernel
theorem dX7_hasColumn_19 : decode cX7_hasColumn 19 = .ok (.if_icmp .ge 7, 3) := by decide +kernel
theorem dX7_hasColumn_22 : decode cX7_hasColumn 22 = .ok (.iconst 1, 1) := by decide +kernel
theorem dX7_hasColumn_23 : decode cX7_hasColumn 23 = .ok (.goto 4, 3) := by decide +kernel
theorem dX7_hasColumn_26 : decode cX7_hasColumn 26 = .ok (.iconst 0, 1) := by decide +kernel
theorem dX7_hasColumn_27 : decode cX7_hasColumn 27 = .ok (.ireturn, 1) := by decide +kernel
theorem dX7_typeOf_0 : decode cX7_typeOf 0 = .ok (.aload_n 0, 1) := by decide +kernel
theorem dX7_typeOf_1 : decode cX7_typeOf 1 = .ok (.getfield 15, 3) := by decide +kernel
theorem dX7_typeOf_4 : decode cX7_typeOf 4 = .ok (.iload_n 1, 1) := by decide +kernel
theorem dX7_typeOf_5 : decode cX7_typeOf 5 = .ok (.bipush 8, 2) := by decide +kernel
theorem dX7_typeOf_7 : decode cX7_typeOf 7 = .ok (.imul, 1) := by decide +kernel
theorem dX7_typeOf_8 : decode cX7_typeOf 8 = .ok (.iload_n 2, 1) := by decide +kernel
theorem dX7_typeOf_9 : decode cX7_typeOf 9 = .ok (.iadd, 1) := by decide +kernel
theorem dX7_typeOf_10 : decode cX7_typeOf 10 = .ok (.iaload, 1) := by decide +kernel
theorem dX7_typeOf_11 : decode cX7_typeOf 11 = .ok (.ireturn, 1) := by decide +kernel
theorem dX7_placeOf_0 : decode cX7_placeOf 0 = .ok (.iload_n 1, 1) := by decide +kernel
theorem dX7_placeOf_1 : decode cX7_placeOf 1 = .ok (.bipush 40, 2) := by decide +kernel
theorem dX7_placeOf_3 : decode cX7_placeOf 3 = .ok (.imul, 1) := by decide +kernel
theorem dX7_placeOf_4 : decode cX7_placeOf 4 = .ok (.iload_n 2, 1) := by decide +kernel
theorem dX7_placeOf_5 : decode cX7_placeOf 5 = .ok (.iadd, 1) := by decide +kernel
theorem dX7_placeOf_6 : decode cX7_placeOf 6 = .ok (.bipush 8, 2) := by decide +kernel
theorem dX7_placeOf_8 : decode cX7_placeOf 8 = .ok (.imul, 1) := by decide +kernel
theorem dX7_placeOf_9 : decode cX7_placeOf 9 = .ok (.iload_n 3, 1) := by decide +kernel
theorem dX7_placeOf_10 : decode cX7_placeOf 10 = .ok (.iadd, 1) := by decide +kernel
theorem dX7_placeOf_11 : decode cX7_placeOf 11 = .ok (.ireturn, 1) := by decide +kernel
theorem dX7_choicesIn_0 : decode cX7_choicesIn 0 = .ok (.aload_n 0, 1) := by decide +kernel
theorem dX7_choicesIn_1 : decode cX7_choicesIn 1 = .ok (.iload_n 1, 1) := by decide +kernel
theorem dX7_choicesIn_2 : decode cX7_choicesIn 2 = .ok (.invokevirtual 38, 3) := by decide +kernel
theorem dX7_choicesIn_5 : decode cX7_choicesIn 5 = .ok (.ifCond .eq 12, 3) := by decide +kernel
theorem dX7_choicesIn_8 : decode cX7_choicesIn 8 = .ok (.aload_n 0, 1) := by decide +kernel
theorem dX7_choicesIn_9 : decode cX7_choicesIn 9 = .ok (.getfield 18, 3) := by decide +kernel
theorem dX7_choicesIn_12 : decode cX7_choicesIn 12 = .ok (.iload_n 1, 1) := by decide +kernel
theorem dX7_choicesIn_13 : decode cX7_choicesIn 13 = .ok (.iaload, 1) := by decide +kernel
theorem dX7_choicesIn_14 : decode cX7_choicesIn 14 = .ok (.goto 4, 3) := by decide +kernel
theorem dX7_choicesIn_17 : decode cX7_choicesIn 17 = .ok (.iconst 1, 1) := by decide +kernel
theorem dX7_choicesIn_18 : decode cX7_choicesIn 18 = .ok (.ireturn, 1) := by decide +kernel
theorem dX7_product_0 : decode cX7_product 0 = .ok (.iconst 1, 1) := by decide +kernel
theorem dX7_product_1 : decode cX7_product 1 = .ok (.istore_n 1, 1) := by decide +kernel
theorem dX7_product_2 : decode cX7_product 2 = .ok (.iconst 0, 1) := by decide +kernel
theorem dX7_product_3 : decode cX7_product 3 = .ok (.istore_n 2, 1) := by decide +kernel
theorem dX7_product_4 : decode cX7_product 4 = .ok (.iload_n 2, 1) := by decide +kernel
theorem dX7_product_5 : decode cX7_product 5 = .ok (.aload_n 0, 1) := by decide +kernel
theorem dX7_product_6 : decode cX7_product 6 = .ok (.getfield 30, 3) := by decide +kernel
theorem dX7_product_9 : decode cX7_product 9 = .ok (.if_icmp .ge 22, 3) := by decide +kernel
theorem dX7_product_12 : decode cX7_product 12 = .ok (.iload_n 1, 1) := by decide +kernel
theorem dX7_product_13 : decode cX7_product 13 = .ok (.iconst 1, 1) := by decide +kernel
theorem dX7_product_14 : decode cX7_product 14 = .ok (.aload_n 0, 1) := by decide +kernel
theorem dX7_product_15 : decode cX7_product 15 = .ok (.getfield 18, 3) := by decide +kernel
theorem dX7_product_18 : decode cX7_product 18 = .ok (.iload_n 2, 1) := by decide +kernel
theorem dX7_product_19 : decode cX7_product 19 = .ok (.iaload, 1) := by decide +kernel
theorem dX7_product_20 : decode cX7_product 20 = .ok (.invokestatic 64, 3) := by decide +kernel
theorem dX7_product_23 : decode cX7_product 23 = .ok (.imul, 1) := by decide +kernel
theorem dX7_product_24 : decode cX7_product 24 = .ok (.istore_n 1, 1) := by decide +kernel
theorem dX7_product_25 : decode cX7_product 25 = .ok (.iinc 2 1, 3) := by decide +kernel
theorem dX7_product_28 : decode cX7_product 28 = .ok (.goto (-24), 3) := by decide +kernel
theorem dX7_product_31 : decode cX7_product 31 = .ok (.iload_n 1, 1) := by decide +kernel
theorem dX7_product_32 : decode cX7_product 32 = .ok (.ireturn, 1) := by decide +kernel
theorem dX8_init_0 : decode cX8_init 0 = .ok (.aload_n 0, 1) := by decide +kernel
theorem dX8_init_1 : decode cX8_init 1 = .ok (.invokespecial 3, 3) := by decide +kernel
theorem dX8_init_4 : decode cX8_init 4 = .ok (.aload_n 0, 1) := by decide +kernel
theorem dX8_init_5 : decode cX8_init 5 = .ok (.iload_n 1, 1) := by decide +kernel
theorem dX8_init_6 : decode cX8_init 6 = .ok (.newarray .int, 2) := by decide +kernel
theorem dX8_init_8 : decode cX8_init 8 = .ok (.putfield 9, 3) := by decide +kernel
theorem dX8_init_11 : decode cX8_init 11 = .ok (.aload_n 0, 1) := by decide +kernel
theorem dX8_init_12 : decode cX8_init 12 = .ok (.iload_n 1, 1) := by decide +kernel
theorem dX8_init_13 : decode cX8_init 13 = .ok (.iconst 4, 1) := by decide +kernel
theorem dX8_init_14 : decode cX8_init 14 = .ok (.imul, 1) := by decide +kernel
theorem dX8_init_15 : decode cX8_init 15 = .ok (.newarray .long, 2) := by decide +kernel
theorem dX8_init_17 : decode cX8_init 17 = .ok (.putfield 15, 3) := by decide +kernel
theorem dX8_init_20 : decode cX8_init 20 = .ok (.return_, 1) := by decide +kernel
theorem dX8_setAllNull_0 : decode cX8_setAllNull 0 = .ok (.aload_n 0, 1) := by decide +kernel
theorem dX8_setAllNull_1 : decode cX8_setAllNull 1 = .ok (.getfield 9, 3) := by decide +kernel
theorem dX8_setAllNull_4 : decode cX8_setAllNull 4 = .ok (.iconst 0, 1) := by decide +kernel
theorem dX8_setAllNull_5 : decode cX8_setAllNull 5 = .ok (.invokestatic 19, 3) := by decide +kernel
theorem dX8_setAllNull_8 : decode cX8_setAllNull 8 = .ok (.return_, 1) := by decide +kernel
theorem dX8_setNull_0 : decode cX8_setNull 0 = .ok (.aload_n 0, 1) := by decide +kernel
theorem dX8_setNull_1 : decode cX8_setNull 1 = .ok (.getfield 9, 3) := by decide +kernel
theorem dX8_setNull_4 : decode cX8_setNull 4 = .ok (.iload_n 1, 1) := by decide +kernel
theorem dX8_setNull_5 : decode cX8_setNull 5 = .ok (.iconst 0, 1) := by decide +kernel
theorem dX8_setNull_6 : decode cX8_setNull 6 = .ok (.iastore, 1) := by decide +kernel
theorem dX8_setNull_7 : decode cX8_setNull 7 = .ok (.return_, 1) := by decide +kernel
theorem dX8_setNumber_0 : decode cX8_setNumber 0 = .ok (.aload_n 0, 1) := by decide +kernel
theorem dX8_setNumber_1 : decode cX8_setNumber 1 = .ok (.getfield 9, 3) := by decide +kernel
theorem dX8_setNumber_4 : decode cX8_setNumber 4 = .ok (.iload_n 1, 1) := by decide +kernel
theorem dX8_setNumber_5 : decode cX8_setNumber 5 = .ok (.iconst 1, 1) := by decide +kernel
theorem dX8_setNumber_6 : decode cX8_setNumber 6 = .ok (.iastore, 1) := by decide +kernel
theorem dX8_setNumber_7 : decode cX8_setNumber 7 = .ok (.aload_n 0, 1) := by decide +kernel
theorem dX8_setNumber_8 : decode cX8_setNumber 8 = .ok (.getfield 15, 3) := by decide +kernel
theorem dX8_setNumber_11 : decode cX8_setNumber 11 = .ok (.iload_n 1, 1) := by decide +kernel
theorem dX8_setNumber_12 : decode cX8_setNumber 12 = .ok (.iconst 4, 1) := by decide +kernel
theorem dX8_setNumber_13 : decode cX8_setNumber 13 = .ok (.imul, 1) := by decide +kernel
theorem dX8_setNumber_14 : decode cX8_setNumber 14 = .ok (.lload_n 2, 1) := by decide +kernel
theorem dX8_setNumber_15 : decode cX8_setNumber 15 = .ok (.lastore, 1) := by decide +kernel
theorem dX8_setNumber_16 : decode cX8_setNumber 16 = .ok (.return_, 1) := by decide +kernel
theorem dX8_setTruth_0 : decode cX8_setTruth 0 = .ok (.aload_n 0, 1) := by decide +kernel
theorem dX8_setTruth_1 : decode cX8_setTruth 1 = .ok (.getfield 9, 3) := by decide +kernel
theorem dX8_setTruth_4 : decode cX8_setTruth 4 = .ok (.iload_n 1, 1) := by decide +kernel
theorem dX8_setTruth_5 : decode cX8_setTruth 5 = .ok (.iconst 3, 1) := by decide +kernel
theorem dX8_setTruth_6 : decode cX8_setTruth 6 = .ok (.iastore, 1) := by decide +kernel
theorem dX8_setTruth_7 : decode cX8_setTruth 7 = .ok (.aload_n 0, 1) := by decide +kernel
theorem dX8_setTruth_8 : decode cX8_setTruth 8 = .ok (.getfield 15, 3) := by decide +kernel
theorem dX8_setTruth_11 : decode cX8_setTruth 11 = .ok (.iload_n 1, 1) := by decide +kernel
theorem dX8_setTruth_12 : decode cX8_setTruth 12 = .ok (.iconst 4, 1) := by decide +kernel
theorem dX8_setTruth_13 : decode cX8_setTruth 13 = .ok (.imul, 1) := by decide +kernel
theorem dX8_setTruth_14 : decode cX8_setTruth 14 = .ok (.iload_n 2, 1) := by decide +kernel
theorem dX8_setTruth_15 : decode cX8_setTruth 15 = .ok (.ifCond .eq 7, 3) := by decide +kernel
theorem dX8_setTruth_18 : decode cX8_setTruth 18 = .ok (.lconst 1, 1) := by decide +kernel
theorem dX8_setTruth_19 : decode cX8_setTruth 19 = .ok (.goto 4, 3) := by decide +kernel
theorem dX8_setTruth_22 : decode cX8_setTruth 22 = .ok (.lconst 0, 1) := by decide +kernel
theorem dX8_setTruth_23 : decode cX8_setTruth 23 = .ok (.lastore, 1) := by decide +kernel
theorem dX8_setTruth_24 : decode cX8_setTruth 24 = .ok (.return_, 1) := by decide +kernel
theorem dX8_setEmptyText_0 : decode cX8_setEmptyText 0 = .ok (.aload_n 0, 1) := by decide +kernel
theorem dX8_setEmptyText_1 : decode cX8_setEmptyText 1 = .ok (.getfield 9, 3) := by decide +kernel
theorem dX8_setEmptyText_4 : decode cX8_setEmptyText 4 = .ok (.iload_n 1, 1) := by decide +kernel
theorem dX8_setEmptyText_5 : decode cX8_setEmptyText 5 = .ok (.iconst 2, 1) := by decide +kernel
theorem dX8_setEmptyText_6 : decode cX8_setEmptyText 6 = .ok (.iastore, 1) := by decide +kernel
theorem dX8_setEmptyText_7 : decode cX8_setEmptyText 7 = .ok (.iconst 0, 1) := by decide +kernel
theorem dX8_setEmptyText_8 : decode cX8_setEmptyText 8 = .ok (.istore_n 2, 1) := by decide +kernel
theorem dX8_setEmptyText_9 : decode cX8_setEmptyText 9 = .ok (.iload_n 2, 1) := by decide +kernel
theorem dX8_setEmptyText_10 : decode cX8_setEmptyText 10 = .ok (.iconst 4, 1) := by decide +kernel
theorem dX8_setEmptyText_11 : decode cX8_setEmptyText 11 = .ok (.if_icmp .ge 20, 3) := by decide +kernel
theorem dX8_setEmptyText_14 : decode cX8_setEmptyText 14 = .ok (.aload_n 0, 1) := by decide +kernel
theorem dX8_setEmptyText_15 : decode cX8_setEmptyText 15 = .ok (.getfield 15, 3) := by decide +kernel
theorem dX8_setEmptyText_18 : decode cX8_setEmptyText 18 = .ok (.iload_n 1, 1) := by decide +kernel
theorem dX8_setEmptyText_19 : decode cX8_setEmptyText 19 = .ok (.iconst 4, 1) := by decide +kernel
theorem dX8_setEmptyText_20 : decode cX8_setEmptyText 20 = .ok (.imul, 1) := by decide +kernel
theorem dX8_setEmptyText_21 : decode cX8_setEmptyText 21 = .ok (.iload_n 2, 1) := by decide +kernel
theorem dX8_setEmptyText_22 : decode cX8_setEmptyText 22 = .ok (.iadd, 1) := by decide +kernel
theorem dX8_setEmptyText_23 : decode cX8_setEmptyText 23 = .ok (.lconst 0, 1) := by decide +kernel
theorem dX8_setEmptyText_24 : decode cX8_setEmptyText 24 = .ok (.lastore, 1) := by decide +kernel
theorem dX8_setEmptyText_25 : decode cX8_setEmptyText 25 = .ok (.iinc 2 1, 3) := by decide +kernel
theorem dX8_setEmptyText_28 : decode cX8_setEmptyText 28 = .ok (.goto (-19), 3) := by decide +kernel
theorem dX8_setEmptyText_31 : decode cX8_setEmptyText 31 = .ok (.return_, 1) := by decide +kernel
theorem dX8_appendByte_0 : decode cX8_appendByte 0 = .ok (.iload_n 1, 1) := by decide +kernel
theorem dX8_appendByte_1 : decode cX8_appendByte 1 = .ok (.iconst 4, 1) := by decide +kernel
theorem dX8_appendByte_2 : decode cX8_appendByte 2 = .ok (.imul, 1) := by decide +kernel
theorem dX8_appendByte_3 : decode cX8_appendByte 3 = .ok (.istore_n 3, 1) := by decide +kernel
theorem dX8_appendByte_4 : decode cX8_appendByte 4 = .ok (.aload_n 0, 1) := by decide +kernel
theorem dX8_appendByte_5 : decode cX8_appendByte 5 = .ok (.getfield 15, 3) := by decide +kernel
theorem dX8_appendByte_8 : decode cX8_appendByte 8 = .ok (.iload_n 3, 1) := by decide +kernel
theorem dX8_appendByte_9 : decode cX8_appendByte 9 = .ok (.iconst 3, 1) := by decide +kernel
theorem dX8_appendByte_10 : decode cX8_appendByte 10 = .ok (.iadd, 1) := by decide +kernel
theorem dX8_appendByte_11 : decode cX8_appendByte 11 = .ok (.laload, 1) := by decide +kernel
theorem dX8_appendByte_12 : decode cX8_appendByte 12 = .ok (.l2i, 1) := by decide +kernel
theorem dX8_appendByte_13 : decode cX8_appendByte 13 = .ok (.sipush 255, 3) := by decide +kernel
theorem dX8_appendByte_16 : decode cX8_appendByte 16 = .ok (.iand, 1) := by decide +kernel
theorem dX8_appendByte_17 : decode cX8_appendByte 17 = .ok (.istore 4, 2) := by decide +kernel
theorem dX8_appendByte_19 : decode cX8_appendByte 19 = .ok (.iload 4, 2) := by decide +kernel
theorem dX8_appendByte_21 : decode cX8_appendByte 21 = .ok (.bipush 31, 2) := by decide +kernel
theorem dX8_appendByte_23 : decode cX8_appendByte 23 = .ok (.if_icmp .ge 44, 3) := by decide +kernel
theorem dX8_appendByte_26 : decode cX8_appendByte 26 = .ok (.aload_n 0, 1) := by decide +kernel
theorem dX8_appendByte_27 : decode cX8_appendByte 27 = .ok (.getfield 15, 3) := by decide +kernel
theorem dX8_appendByte_30 : decode cX8_appendByte 30 = .ok (.iload_n 3, 1) := by decide +kernel
theorem dX8_appendByte_31 : decode cX8_appendByte 31 = .ok (.iload 4, 2) := by decide +kernel
theorem dX8_appendByte_33 : decode cX8_appendByte 33 = .ok (.bipush 8, 2) := by decide +kernel
theorem dX8_appendByte_35 : decode cX8_appendByte 35 = .ok (.idiv, 1) := by decide +kernel
theorem dX8_appendByte_36 : decode cX8_appendByte 36 = .ok (.iadd, 1) := by decide +kernel
theorem dX8_appendByte_37 : decode cX8_appendByte 37 = .ok (.dup2, 1) := by decide +kernel
theorem dX8_appendByte_38 : decode cX8_appendByte 38 = .ok (.laload, 1) := by decide +kernel
theorem dX8_appendByte_39 : decode cX8_appendByte 39 = .ok (.iload_n 2, 1) := by decide +kernel
theorem dX8_appendByte_40 : decode cX8_appendByte 40 = .ok (.i2l, 1) := by decide +kernel
theorem dX8_appendByte_41 : decode cX8_appendByte 41 = .ok (.bipush 56, 2) := by decide +kernel
theorem dX8_appendByte_43 : decode cX8_appendByte 43 = .ok (.bipush 8, 2) := by decide +kernel
theorem dX8_appendByte_45 : decode cX8_appendByte 45 = .ok (.iload 4, 2) := by decide +kernel
theorem dX8_appendByte_47 : decode cX8_appendByte 47 = .ok (.bipush 8, 2) := by decide +kernel
theorem dX8_appendByte_49 : decode cX8_appendByte 49 = .ok (.irem, 1) := by decide +kernel
theorem dX8_appendByte_50 : decode cX8_appendByte 50 = .ok (.imul, 1) := by decide +kernel
theorem dX8_appendByte_51 : decode cX8_appendByte 51 = .ok (.isub, 1) := by decide +kernel
theorem dX8_appendByte_52 : decode cX8_appendByte 52 = .ok (.lshl, 1) := by decide +kernel
theorem dX8_appendByte_53 : decode cX8_appendByte 53 = .ok (.lor, 1) := by decide +kernel
theorem dX8_appendByte_54 : decode cX8_appendByte 54 = .ok (.lastore, 1) := by decide +kernel
theorem dX8_appendByte_55 : decode cX8_appendByte 55 = .ok (.aload_n 0, 1) := by decide +kernel
theorem dX8_appendByte_56 : decode cX8_appendByte 56 = .ok (.getfield 15, 3) := by decide +kernel
theorem dX8_appendByte_59 : decode cX8_appendByte 59 = .ok (.iload_n 3, 1) := by decide +kernel
theorem dX8_appendByte_60 : decode cX8_appendByte 60 = .ok (.iconst 3, 1) := by decide +kernel
theorem dX8_appendByte_61 : decode cX8_appendByte 61 = .ok (.iadd, 1) := by decide +kernel
theorem dX8_appendByte_62 : decode cX8_appendByte 62 = .ok (.dup2, 1) := by decide +kernel
theorem dX8_appendByte_63 : decode cX8_appendByte 63 = .ok (.laload, 1) := by decide +kernel
theorem dX8_appendByte_64 : decode cX8_appendByte 64 = .ok (.lconst 1, 1) := by decide +kernel
theorem dX8_appendByte_65 : decode cX8_appendByte 65 = .ok (.ladd, 1) := by decide +kernel
theorem dX8_appendByte_66 : decode cX8_appendByte 66 = .ok (.lastore, 1) := by decide +kernel
theorem dX8_appendByte_67 : decode cX8_appendByte 67 = .ok (.return_, 1) := by decide +kernel
theorem dX8_appendText_0 : decode cX8_appendText 0 = .ok (.aload_n 0, 1) := by decide +kernel
theorem dX8_appendText_1 : decode cX8_appendText 1 = .ok (.iload_n 2, 1) := by decide +kernel
theorem dX8_appendText_2 : decode cX8_appendText 2 = .ok (.invokevirtual 25, 3) := by decide +kernel
theorem dX8_appendText_5 : decode cX8_appendText 5 = .ok (.istore_n 3, 1) := by decide +kernel
theorem dX8_appendText_6 : decode cX8_appendText 6 = .ok (.iconst 0, 1) := by decide +kernel
theorem dX8_appendText_7 : decode cX8_appendText 7 = .ok (.istore 4, 2) := by decide +kernel
theorem dX8_appendText_9 : decode cX8_appendText 9 = .ok (.iload 4, 2) := by decide +kernel
theorem dX8_appendText_11 : decode cX8_appendText 11 = .ok (.iload_n 3, 1) := by decide +kernel
theorem dX8_appendText_12 : decode cX8_appendText 12 = .ok (.if_icmp .ge 21, 3) := by decide +kernel
theorem dX8_appendText_15 : decode cX8_appendText 15 = .ok (.aload_n 0, 1) := by decide +kernel
theorem dX8_appendText_16 : decode cX8_appendText 16 = .ok (.iload_n 1, 1) := by decide +kernel
theorem dX8_appendText_17 : decode cX8_appendText 17 = .ok (.aload_n 0, 1) := by decide +kernel
theorem dX8_appendText_18 : decode cX8_appendText 18 = .ok (.iload_n 2, 1) := by decide +kernel
theorem dX8_appendText_19 : decode cX8_appendText 19 = .ok (.iload 4, 2) := by decide +kernel
theorem dX8_appendText_21 : decode cX8_appendText 21 = .ok (.invokevirtual 29, 3) := by decide +kernel
theorem dX8_appendText_24 : decode cX8_appendText 24 = .ok (.invokevirtual 33, 3) := by decide +kernel
theorem dX8_appendText_27 : decode cX8_appendText 27 = .ok (.iinc 4 1, 3) := by decide +kernel
theorem dX8_appendText_30 : decode cX8_appendText 30 = .ok (.goto (-21), 3) := by decide +kernel
theorem dX8_appendText_33 : decode cX8_appendText 33 = .ok (.return_, 1) := by decide +kernel
theorem dX8_isNull_0 : decode cX8_isNull 0 = .ok (.aload_n 0, 1) := by decide +kernel
theorem dX8_isNull_1 : decode cX8_isNull 1 = .ok (.getfield 9, 3) := by decide +kernel
theorem dX8_isNull_4 : decode cX8_isNull 4 = .ok (.iload_n 1, 1) := by decide +kernel
theorem dX8_isNull_5 : decode cX8_isNull 5 = .ok (.iaload, 1) := by decide +kernel
theorem dX8_isNull_6 : decode cX8_isNull 6 = .ok (.ifCond .ne 7, 3) := by decide +kernel
theorem dX8_isNull_9 : decode cX8_isNull 9 = .ok (.iconst 1, 1) := by decide +kernel
theorem dX8_isNull_10 : decode cX8_isNull 10 = .ok (.goto 4, 3) := by decide +kernel
theorem dX8_isNull_13 : decode cX8_isNull 13 = .ok (.iconst 0, 1) := by decide +kernel
theorem dX8_isNull_14 : decode cX8_isNull 14 = .ok (.ireturn, 1) := by decide +kernel
theorem dX8_isTruth_0 : decode cX8_isTruth 0 = .ok (.aload_n 0, 1) := by decide +kernel
theorem dX8_isTruth_1 : decode cX8_isTruth 1 = .ok (.getfield 9, 3) := by decide +kernel
theorem dX8_isTruth_4 : decode cX8_isTruth 4 = .ok (.iload_n 1, 1) := by decide +kernel
theorem dX8_isTruth_5 : decode cX8_isTruth 5 = .ok (.iaload, 1) := by decide +kernel
theorem dX8_isTruth_6 : decode cX8_isTruth 6 = .ok (.iconst 3, 1) := by decide +kernel
theorem dX8_isTruth_7 : decode cX8_isTruth 7 = .ok (.if_icmp .ne 26, 3) := by decide +kernel
theorem dX8_isTruth_10 : decode cX8_isTruth 10 = .ok (.aload_n 0, 1) := by decide +kernel
theorem dX8_isTruth_11 : decode cX8_isTruth 11 = .ok (.iload_n 1, 1) := by decide +kernel
theorem dX8_isTruth_12 : decode cX8_isTruth 12 = .ok (.invokevirtual 37, 3) := by decide +kernel
theorem dX8_isTruth_15 : decode cX8_isTruth 15 = .ok (.lconst 0, 1) := by decide +kernel
theorem dX8_isTruth_16 : decode cX8_isTruth 16 = .ok (.lcmp, 1) := by decide +kernel
theorem dX8_isTruth_17 : decode cX8_isTruth 17 = .ok (.ifCond .eq 7, 3) := by decide +kernel
theorem dX8_isTruth_20 : decode cX8_isTruth 20 = .ok (.iconst 1, 1) := by decide +kernel
theorem dX8_isTruth_21 : decode cX8_isTruth 21 = .ok (.goto 4, 3) := by decide +kernel
theorem dX8_isTruth_24 : decode cX8_isTruth 24 = .ok (.iconst 0, 1) := by decide +kernel
theorem dX8_isTruth_25 : decode cX8_isTruth 25 = .ok (.iload_n 2, 1) := by decide +kernel
theorem dX8_isTruth_26 : decode cX8_isTruth 26 = .ok (.if_icmp .ne 7, 3) := by decide +kernel
theorem dX8_isTruth_29 : decode cX8_isTruth 29 = .ok (.iconst 1, 1) := by decide +kernel
theorem dX8_isTruth_30 : decode cX8_isTruth 30 = .ok (.goto 4, 3) := by decide +kernel
theorem dX8_isTruth_33 : decode cX8_isTruth 33 = .ok (.iconst 0, 1) := by decide +kernel
theorem dX8_isTruth_34 : decode cX8_isTruth 34 = .ok (.ireturn, 1) := by decide +kernel
theorem dX8_numberOf_0 : decode cX8_numberOf 0 = .ok (.aload_n 0, 1) := by decide +kernel
theorem dX8_numberOf_1 : decode cX8_numberOf 1 = .ok (.getfield 15, 3) := by decide +kernel
theorem dX8_numberOf_4 : decode cX8_numberOf 4 = .ok (.iload_n 1, 1) := by decide +kernel
theorem dX8_numberOf_5 : decode cX8_numberOf 5 = .ok (.iconst 4, 1) := by decide +kernel
theorem dX8_numberOf_6 : decode cX8_numberOf 6 = .ok (.imul, 1) := by decide +kernel
theorem dX8_numberOf_7 : decode cX8_numberOf 7 = .ok (.laload, 1) := by decide +kernel
theorem dX8_numberOf_8 : decode cX8_numberOf 8 = .ok (.lreturn, 1) := by decide +kernel
theorem dX8_lengthOf_0 : decode cX8_lengthOf 0 = .ok (.aload_n 0, 1) := by decide +kernel
theorem dX8_lengthOf_1 : decode cX8_lengthOf 1 = .ok (.getfield 15, 3) := by decide +kernel
theorem dX8_lengthOf_4 : decode cX8_lengthOf 4 = .ok (.iload_n 1, 1) := by decide +kernel
theorem dX8_lengthOf_5 : decode cX8_lengthOf 5 = .ok (.iconst 4, 1) := by decide +kernel
theorem dX8_lengthOf_6 : decode cX8_lengthOf 6 = .ok (.imul, 1) := by decide +kernel
theorem dX8_lengthOf_7 : decode cX8_lengthOf 7 = .ok (.iconst 3, 1) := by decide +kernel
theorem dX8_lengthOf_8 : decode cX8_lengthOf 8 = .ok (.iadd, 1) := by decide +kernel
theorem dX8_lengthOf_9 : decode cX8_lengthOf 9 = .ok (.laload, 1) := by decide +kernel
theorem dX8_lengthOf_10 : decode cX8_lengthOf 10 = .ok (.ldc2_w 41, 3) := by decide +kernel
theorem dX8_lengthOf_13 : decode cX8_lengthOf 13 = .ok (.land, 1) := by decide +kernel
theorem dX8_lengthOf_14 : decode cX8_lengthOf 14 = .ok (.l2i, 1) := by decide +kernel
theorem dX8_lengthOf_15 : decode cX8_lengthOf 15 = .ok (.ireturn, 1) := by decide +kernel
theorem dX8_byteOf_0 : decode cX8_byteOf 0 = .ok (.aload_n 0, 1) := by decide +kernel
theorem dX8_byteOf_1 : decode cX8_byteOf 1 = .ok (.getfield 15, 3) := by decide +kernel
theorem dX8_byteOf_4 : decode cX8_byteOf 4 = .ok (.iload_n 1, 1) := by decide +kernel
theorem dX8_byteOf_5 : decode cX8_byteOf 5 = .ok (.iconst 4, 1) := by decide +kernel
theorem dX8_byteOf_6 : decode cX8_byteOf 6 = .ok (.imul, 1) := by decide +kernel
theorem dX8_byteOf_7 : decode cX8_byteOf 7 = .ok (.iload_n 2, 1) := by decide +kernel
theorem dX8_byteOf_8 : decode cX8_byteOf 8 = .ok (.bipush 8, 2) := by decide +kernel
theorem dX8_byteOf_10 : decode cX8_byteOf 10 = .ok (.idiv, 1) := by decide +kernel
theorem dX8_byteOf_11 : decode cX8_byteOf 11 = .ok (.iadd, 1) := by decide +kernel
theorem dX8_byteOf_12 : decode cX8_byteOf 12 = .ok (.laload, 1) := by decide +kernel
theorem dX8_byteOf_13 : decode cX8_byteOf 13 = .ok (.bipush 56, 2) := by decide +kernel
theorem dX8_byteOf_15 : decode cX8_byteOf 15 = .ok (.bipush 8, 2) := by decide +kernel
theorem dX8_byteOf_17 : decode cX8_byteOf 17 = .ok (.iload_n 2, 1) := by decide +kernel
theorem dX8_byteOf_18 : decode cX8_byteOf 18 = .ok (.bipush 8, 2) := by decide +kernel
theorem dX8_byteOf_20 : decode cX8_byteOf 20 = .ok (.irem, 1) := by decide +kernel
theorem dX8_byteOf_21 : decode cX8_byteOf 21 = .ok (.imul, 1) := by decide +kernel
theorem dX8_byteOf_22 : decode cX8_byteOf 22 = .ok (.isub, 1) := by decide +kernel
theorem dX8_byteOf_23 : decode cX8_byteOf 23 = .ok (.lushr, 1) := by decide +kernel
theorem dX8_byteOf_24 : decode cX8_byteOf 24 = .ok (.l2i, 1) := by decide +kernel
theorem dX8_byteOf_25 : decode cX8_byteOf 25 = .ok (.sipush 255, 3) := by decide +kernel
theorem dX8_byteOf_28 : decode cX8_byteOf 28 = .ok (.iand, 1) := by decide +kernel
theorem dX8_byteOf_29 : decode cX8_byteOf 29 = .ok (.ireturn, 1) := by decide +kernel
theorem dX8_wordsInUse_0 : decode cX8_wordsInUse 0 = .ok (.aload_n 0, 1) := by decide +kernel
theorem dX8_wordsInUse_1 : decode cX8_wordsInUse 1 = .ok (.getfield 9, 3) := by decide +kernel
theorem dX8_wordsInUse_4 : decode cX8_wordsInUse 4 = .ok (.iload_n 1, 1) := by decide +kernel
theorem dX8_wordsInUse_5 : decode cX8_wordsInUse 5 = .ok (.iaload, 1) := by decide +kernel
theorem dX8_wordsInUse_6 : decode cX8_wordsInUse 6 = .ok (.lookupswitch 30 #[(0, 26), (2, 28)], 26) := by decide +kernel
theorem dX8_wordsInUse_32 : decode cX8_wordsInUse 32 = .ok (.iconst 0, 1) := by decide +kernel
theorem dX8_wordsInUse_33 : decode cX8_wordsInUse 33 = .ok (.ireturn, 1) := by decide +kernel
theorem dX8_wordsInUse_34 : decode cX8_wordsInUse 34 = .ok (.iconst 4, 1) := by decide +kernel
theorem dX8_wordsInUse_35 : decode cX8_wordsInUse 35 = .ok (.ireturn, 1) := by decide +kernel
theorem dX8_wordsInUse_36 : decode cX8_wordsInUse 36 = .ok (.iconst 1, 1) := by decide +kernel
theorem dX8_wordsInUse_37 : decode cX8_wordsInUse 37 = .ok (.ireturn, 1) := by decide +kernel
theorem dX8_copy_0 : decode cX8_copy 0 = .ok (.aload_n 2, 1) := by decide +kernel
theorem dX8_copy_1 : decode cX8_copy 1 = .ok (.iload_n 3, 1) := by decide +kernel
theorem dX8_copy_2 : decode cX8_copy 2 = .ok (.invokevirtual 43, 3) := by decide +kernel
theorem dX8_copy_5 : decode cX8_copy 5 = .ok (.istore 4, 2) := by decide +kernel
theorem dX8_copy_7 : decode cX8_copy 7 = .ok (.aload_n 0, 1) := by decide +kernel
theorem dX8_copy_8 : decode cX8_copy 8 = .ok (.getfield 9, 3) := by decide +kernel
theorem dX8_copy_11 : decode cX8_copy 11 = .ok (.iload_n 1, 1) := by decide +kernel
theorem dX8_copy_12 : decode cX8_copy 12 = .ok (.aload_n 2, 1) := by decide +kernel
theorem dX8_copy_13 : decode cX8_copy 13 = .ok (.getfield 9, 3) := by decide +kernel
theorem dX8_copy_16 : decode cX8_copy 16 = .ok (.iload_n 3, 1) := by decide +kernel
theorem dX8_copy_17 : decode cX8_copy 17 = .ok (.iaload, 1) := by decide +kernel
theorem dX8_copy_18 : decode cX8_copy 18 = .ok (.iastore, 1) := by decide +kernel
theorem dX8_copy_19 : decode cX8_copy 19 = .ok (.iconst 0, 1) := by decide +kernel
theorem dX8_copy_20 : decode cX8_copy 20 = .ok (.istore 5, 2) := by decide +kernel
theorem dX8_copy_22 : decode cX8_copy 22 = .ok (.iload 5, 2) := by decide +kernel
theorem dX8_copy_24 : decode cX8_copy 24 = .ok (.iload 4, 2) := by decide +kernel
theorem dX8_copy_26 : decode cX8_copy 26 = .ok (.if_icmp .ge 31, 3) := by decide +kernel
theorem dX8_copy_29 : decode cX8_copy 29 = .ok (.aload_n 0, 1) := by decide +kernel
theorem dX8_copy_30 : decode cX8_copy 30 = .ok (.getfield 15, 3) := by decide +kernel
theorem dX8_copy_33 : decode cX8_copy 33 = .ok (.iload_n 1, 1) := by decide +kernel
theorem dX8_copy_34 : decode cX8_copy 34 = .ok (.iconst 4, 1) := by decide +kernel
theorem dX8_copy_35 : decode cX8_copy 35 = .ok (.imul, 1) := by decide +kernel
theorem dX8_copy_36 : decode cX8_copy 36 = .ok (.iload 5, 2) := by decide +kernel
theorem dX8_copy_38 : decode cX8_copy 38 = .ok (.iadd, 1) := by decide +kernel
theorem dX8_copy_39 : decode cX8_copy 39 = .ok (.aload_n 2, 1) := by decide +kernel
theorem dX8_copy_40 : decode cX8_copy 40 = .ok (.getfield 15, 3) := by decide +kernel
theorem dX8_copy_43 : decode cX8_copy 43 = .ok (.iload_n 3, 1) := by decide +kernel
theorem dX8_copy_44 : decode cX8_copy 44 = .ok (.iconst 4, 1) := by decide +kernel
theorem dX8_copy_45 : decode cX8_copy 45 = .ok (.imul, 1) := by decide +kernel
theorem dX8_copy_46 : decode cX8_copy 46 = .ok (.iload 5, 2) := by decide +kernel
theorem dX8_copy_48 : decode cX8_copy 48 = .ok (.iadd, 1) := by decide +kernel
theorem dX8_copy_49 : decode cX8_copy 49 = .ok (.laload, 1) := by decide +kernel
theorem dX8_copy_50 : decode cX8_copy 50 = .ok (.lastore, 1) := by decide +kernel
theorem dX8_copy_51 : decode cX8_copy 51 = .ok (.iinc 5 1, 3) := by decide +kernel
theorem dX8_copy_54 : decode cX8_copy 54 = .ok (.goto (-32), 3) := by decide +kernel
theorem dX8_copy_57 : decode cX8_copy 57 = .ok (.return_, 1) := by decide +kernel
theorem dX8_areLike_0 : decode cX8_areLike 0 = .ok (.aload_n 0, 1) := by decide +kernel
theorem dX8_areLike_1 : decode cX8_areLike 1 = .ok (.getfield 9, 3) := by decide +kernel
theorem dX8_areLike_4 : decode cX8_areLike 4 = .ok (.iload_n 1, 1) := by decide +kernel
theorem dX8_areLike_5 : decode cX8_areLike 5 = .ok (.iaload, 1) := by decide +kernel
theorem dX8_areLike_6 : decode cX8_areLike 6 = .ok (.aload_n 0, 1) := by decide +kernel
theorem dX8_areLike_7 : decode cX8_areLike 7 = .ok (.getfield 9, 3) := by decide +kernel
theorem dX8_areLike_10 : decode cX8_areLike 10 = .ok (.iload_n 2, 1) := by decide +kernel
theorem dX8_areLike_11 : decode cX8_areLike 11 = .ok (.iaload, 1) := by decide +kernel
theorem dX8_areLike_12 : decode cX8_areLike 12 = .ok (.if_icmp .eq 5, 3) := by decide +kernel
theorem dX8_areLike_15 : decode cX8_areLike 15 = .ok (.iconst 0, 1) := by decide +kernel
theorem dX8_areLike_16 : decode cX8_areLike 16 = .ok (.ireturn, 1) := by decide +kernel
theorem dX8_areLike_17 : decode cX8_areLike 17 = .ok (.aload_n 0, 1) := by decide +kernel
theorem dX8_areLike_18 : decode cX8_areLike 18 = .ok (.iload_n 1, 1) := by decide +kernel
theorem dX8_areLike_19 : decode cX8_areLike 19 = .ok (.invokevirtual 43, 3) := by decide +kernel
theorem dX8_areLike_22 : decode cX8_areLike 22 = .ok (.istore_n 3, 1) := by decide +kernel
theorem dX8_areLike_23 : decode cX8_areLike 23 = .ok (.iconst 0, 1) := by decide +kernel
theorem dX8_areLike_24 : decode cX8_areLike 24 = .ok (.istore 4, 2) := by decide +kernel
theorem dX8_areLike_26 : decode cX8_areLike 26 = .ok (.iload 4, 2) := by decide +kernel
theorem dX8_areLike_28 : decode cX8_areLike 28 = .ok (.iload_n 3, 1) := by decide +kernel
theorem dX8_areLike_29 : decode cX8_areLike 29 = .ok (.if_icmp .ge 37, 3) := by decide +kernel
theorem dX8_areLike_32 : decode cX8_areLike 32 = .ok (.aload_n 0, 1) := by decide +kernel
theorem dX8_areLike_33 : decode cX8_areLike 33 = .ok (.getfield 15, 3) := by decide +kernel
theorem dX8_areLike_36 : decode cX8_areLike 36 = .ok (.iload_n 1, 1) := by decide +kernel
theorem dX8_areLike_37 : decode cX8_areLike 37 = .ok (.iconst 4, 1) := by decide +kernel
theorem dX8_areLike_38 : decode cX8_areLike 38 = .ok (.imul, 1) := by decide +kernel
theorem dX8_areLike_39 : decode cX8_areLike 39 = .ok (.iload 4, 2) := by decide +kernel
theorem dX8_areLike_41 : decode cX8_areLike 41 = .ok (.iadd, 1) := by decide +kernel
theorem dX8_areLike_42 : decode cX8_areLike 42 = .ok (.laload, 1) := by decide +kernel
theorem dX8_areLike_43 : decode cX8_areLike 43 = .ok (.aload_n 0, 1) := by decide +kernel
theorem dX8_areLike_44 : decode cX8_areLike 44 = .ok (.getfield 15, 3) := by decide +kernel
theorem dX8_areLike_47 : decode cX8_areLike 47 = .ok (.iload_n 2, 1) := by decide +kernel
theorem dX8_areLike_48 : decode cX8_areLike 48 = .ok (.iconst 4, 1) := by decide +kernel
theorem dX8_areLike_49 : decode cX8_areLike 49 = .ok (.imul, 1) := by decide +kernel
theorem dX8_areLike_50 : decode cX8_areLike 50 = .ok (.iload 4, 2) := by decide +kernel
theorem dX8_areLike_52 : decode cX8_areLike 52 = .ok (.iadd, 1) := by decide +kernel
theorem dX8_areLike_53 : decode cX8_areLike 53 = .ok (.laload, 1) := by decide +kernel
theorem dX8_areLike_54 : decode cX8_areLike 54 = .ok (.lcmp, 1) := by decide +kernel
theorem dX8_areLike_55 : decode cX8_areLike 55 = .ok (.ifCond .eq 5, 3) := by decide +kernel
theorem dX8_areLike_58 : decode cX8_areLike 58 = .ok (.iconst 0, 1) := by decide +kernel
theorem dX8_areLike_59 : decode cX8_areLike 59 = .ok (.ireturn, 1) := by decide +kernel
theorem dX8_areLike_60 : decode cX8_areLike 60 = .ok (.iinc 4 1, 3) := by decide +kernel
theorem dX8_areLike_63 : decode cX8_areLike 63 = .ok (.goto (-37), 3) := by decide +kernel
theorem dX8_areLike_66 : decode cX8_areLike 66 = .ok (.iconst 1, 1) := by decide +kernel
theorem dX8_areLike_67 : decode cX8_areLike 67 = .ok (.ireturn, 1) := by decide +kernel
theorem dX8_compare_0 : decode cX8_compare 0 = .ok (.aload_n 0, 1) := by decide +kernel
theorem dX8_compare_1 : decode cX8_compare 1 = .ok (.getfield 9, 3) := by decide +kernel
theorem dX8_compare_4 : decode cX8_compare 4 = .ok (.iload_n 1, 1) := by decide +kernel
theorem dX8_compare_5 : decode cX8_compare 5 = .ok (.iaload, 1) := by decide +kernel
theorem dX8_compare_6 : decode cX8_compare 6 = .ok (.iconst 2, 1) := by decide +kernel
theorem dX8_compare_7 : decode cX8_compare 7 = .ok (.if_icmp .ne 7, 3) := by decide +kernel
theorem dX8_compare_10 : decode cX8_compare 10 = .ok (.iconst 1, 1) := by decide +kernel
theorem dX8_compare_11 : decode cX8_compare 11 = .ok (.goto 4, 3) := by decide +kernel
theorem dX8_compare_14 : decode cX8_compare 14 = .ok (.iconst 0, 1) := by decide +kernel
theorem dX8_compare_15 : decode cX8_compare 15 = .ok (.istore_n 3, 1) := by decide +kernel
theorem dX8_compare_16 : decode cX8_compare 16 = .ok (.iload_n 3, 1) := by decide +kernel
theorem dX8_compare_17 : decode cX8_compare 17 = .ok (.ifCond .eq 7, 3) := by decide +kernel
theorem dX8_compare_20 : decode cX8_compare 20 = .ok (.iconst 4, 1) := by decide +kernel
theorem dX8_compare_21 : decode cX8_compare 21 = .ok (.goto 4, 3) := by decide +kernel
theorem dX8_compare_24 : decode cX8_compare 24 = .ok (.iconst 1, 1) := by decide +kernel
theorem dX8_compare_25 : decode cX8_compare 25 = .ok (.istore 4, 2) := by decide +kernel
theorem dX8_compare_27 : decode cX8_compare 27 = .ok (.iload_n 3, 1) := by decide +kernel
theorem dX8_compare_28 : decode cX8_compare 28 = .ok (.ifCond .eq 9, 3) := by decide +kernel
theorem dX8_compare_31 : decode cX8_compare 31 = .ok (.ldc2_w 48, 3) := by decide +kernel
theorem dX8_compare_34 : decode cX8_compare 34 = .ok (.goto 4, 3) := by decide +kernel
theorem dX8_compare_37 : decode cX8_compare 37 = .ok (.lconst 0, 1) := by decide +kernel
theorem dX8_compare_38 : decode cX8_compare 38 = .ok (.lstore 5, 2) := by decide +kernel
theorem dX8_compare_40 : decode cX8_compare 40 = .ok (.iconst 0, 1) := by decide +kernel
theorem dX8_compare_41 : decode cX8_compare 41 = .ok (.istore 7, 2) := by decide +kernel
theorem dX8_compare_43 : decode cX8_compare 43 = .ok (.iload 7, 2) := by decide +kernel
theorem dX8_compare_45 : decode cX8_compare 45 = .ok (.iload 4, 2) := by decide +kernel
theorem dX8_compare_47 : decode cX8_compare 47 = .ok (.if_icmp .ge 63, 3) := by decide +kernel
theorem dX8_compare_50 : decode cX8_compare 50 = .ok (.aload_n 0, 1) := by decide +kernel
theorem dX8_compare_51 : decode cX8_compare 51 = .ok (.getfield 15, 3) := by decide +kernel
theorem dX8_compare_54 : decode cX8_compare 54 = .ok (.iload_n 1, 1) := by decide +kernel
theorem dX8_compare_55 : decode cX8_compare 55 = .ok (.iconst 4, 1) := by decide +kernel
theorem dX8_compare_56 : decode cX8_compare 56 = .ok (.imul, 1) := by decide +kernel
theorem dX8_compare_57 : decode cX8_compare 57 = .ok (.iload 7, 2) := by decide +kernel
theorem dX8_compare_59 : decode cX8_compare 59 = .ok (.iadd, 1) := by decide +kernel
theorem dX8_compare_60 : decode cX8_compare 60 = .ok (.laload, 1) := by decide +kernel
theorem dX8_compare_61 : decode cX8_compare 61 = .ok (.lload 5, 2) := by decide +kernel
theorem dX8_compare_63 : decode cX8_compare 63 = .ok (.lxor, 1) := by decide +kernel
theorem dX8_compare_64 : decode cX8_compare 64 = .ok (.lstore 8, 2) := by decide +kernel
theorem dX8_compare_66 : decode cX8_compare 66 = .ok (.aload_n 0, 1) := by decide +kernel
theorem dX8_compare_67 : decode cX8_compare 67 = .ok (.getfield 15, 3) := by decide +kernel
theorem dX8_compare_70 : decode cX8_compare 70 = .ok (.iload_n 2, 1) := by decide +kernel
theorem dX8_compare_71 : decode cX8_compare 71 = .ok (.iconst 4, 1) := by decide +kernel
theorem dX8_compare_72 : decode cX8_compare 72 = .ok (.imul, 1) := by decide +kernel
theorem dX8_compare_73 : decode cX8_compare 73 = .ok (.iload 7, 2) := by decide +kernel
theorem dX8_compare_75 : decode cX8_compare 75 = .ok (.iadd, 1) := by decide +kernel
theorem dX8_compare_76 : decode cX8_compare 76 = .ok (.laload, 1) := by decide +kernel
theorem dX8_compare_77 : decode cX8_compare 77 = .ok (.lload 5, 2) := by decide +kernel
theorem dX8_compare_79 : decode cX8_compare 79 = .ok (.lxor, 1) := by decide +kernel
theorem dX8_compare_80 : decode cX8_compare 80 = .ok (.lstore 10, 2) := by decide +kernel
theorem dX8_compare_82 : decode cX8_compare 82 = .ok (.lload 8, 2) := by decide +kernel
theorem dX8_compare_84 : decode cX8_compare 84 = .ok (.lload 10, 2) := by decide +kernel
theorem dX8_compare_86 : decode cX8_compare 86 = .ok (.lcmp, 1) := by decide +kernel
theorem dX8_compare_87 : decode cX8_compare 87 = .ok (.ifCond .eq 17, 3) := by decide +kernel
theorem dX8_compare_90 : decode cX8_compare 90 = .ok (.lload 8, 2) := by decide +kernel
theorem dX8_compare_92 : decode cX8_compare 92 = .ok (.lload 10, 2) := by decide +kernel
theorem dX8_compare_94 : decode cX8_compare 94 = .ok (.lcmp, 1) := by decide +kernel
theorem dX8_compare_95 : decode cX8_compare 95 = .ok (.ifCond .ge 7, 3) := by decide +kernel
theorem dX8_compare_98 : decode cX8_compare 98 = .ok (.iconst (-1), 1) := by decide +kernel
theorem dX8_compare_99 : decode cX8_compare 99 = .ok (.goto 4, 3) := by decide +kernel
theorem dX8_compare_102 : decode cX8_compare 102 = .ok (.iconst 1, 1) := by decide +kernel
theorem dX8_compare_103 : decode cX8_compare 103 = .ok (.ireturn, 1) := by decide +kernel
theorem dX8_compare_104 : decode cX8_compare 104 = .ok (.iinc 7 1, 3) := by decide +kernel
theorem dX8_compare_107 : decode cX8_compare 107 = .ok (.goto (-64), 3) := by decide +kernel
theorem dX8_compare_110 : decode cX8_compare 110 = .ok (.iconst 0, 1) := by decide +kernel
theorem dX8_compare_111 : decode cX8_compare 111 = .ok (.ireturn, 1) := by decide +kernel
theorem dX8_compareNullsLast_0 : decode cX8_compareNullsLast 0 = .ok (.aload_n 0, 1) := by decide +kernel
theorem dX8_compareNullsLast_1 : decode cX8_compareNullsLast 1 = .ok (.iload_n 1, 1) := by decide +kernel
theorem dX8_compareNullsLast_2 : decode cX8_compareNullsLast 2 = .ok (.invokevirtual 50, 3) := by decide +kernel
theorem dX8_compareNullsLast_5 : decode cX8_compareNullsLast 5 = .ok (.ifCond .ne 11, 3) := by decide +kernel
theorem dX8_compareNullsLast_8 : decode cX8_compareNullsLast 8 = .ok (.aload_n 0, 1) := by decide +kernel
theorem dX8_compareNullsLast_9 : decode cX8_compareNullsLast 9 = .ok (.iload_n 2, 1) := by decide +kernel
theorem dX8_compareNullsLast_10 : decode cX8_compareNullsLast 10 = .ok (.invokevirtual 50, 3) := by decide +kernel
theorem dX8_compareNullsLast_13 : decode cX8_compareNullsLast 13 = .ok (.ifCond .eq 31, 3) := by decide +kernel
theorem dX8_compareNullsLast_16 : decode cX8_compareNullsLast 16 = .ok (.aload_n 0, 1) := by decide +kernel
theorem dX8_compareNullsLast_17 : decode cX8_compareNullsLast 17 = .ok (.iload_n 1, 1) := by decide +kernel
theorem dX8_compareNullsLast_18 : decode cX8_compareNullsLast 18 = .ok (.invokevirtual 50, 3) := by decide +kernel
theorem dX8_compareNullsLast_21 : decode cX8_compareNullsLast 21 = .ok (.ifCond .eq 7, 3) := by decide +kernel
theorem dX8_compareNullsLast_24 : decode cX8_compareNullsLast 24 = .ok (.iconst 1, 1) := by decide +kernel
theorem dX8_compareNullsLast_25 : decode cX8_compareNullsLast 25 = .ok (.goto 4, 3) := by decide +kernel
theorem dX8_compareNullsLast_28 : decode cX8_compareNullsLast 28 = .ok (.iconst 0, 1) := by decide +kernel
theorem dX8_compareNullsLast_29 : decode cX8_compareNullsLast 29 = .ok (.aload_n 0, 1) := by decide +kernel
theorem dX8_compareNullsLast_30 : decode cX8_compareNullsLast 30 = .ok (.iload_n 2, 1) := by decide +kernel
theorem dX8_compareNullsLast_31 : decode cX8_compareNullsLast 31 = .ok (.invokevirtual 50, 3) := by decide +kernel
theorem dX8_compareNullsLast_34 : decode cX8_compareNullsLast 34 = .ok (.ifCond .eq 7, 3) := by decide +kernel
theorem dX8_compareNullsLast_37 : decode cX8_compareNullsLast 37 = .ok (.iconst 1, 1) := by decide +kernel
theorem dX8_compareNullsLast_38 : decode cX8_compareNullsLast 38 = .ok (.goto 4, 3) := by decide +kernel
theorem dX8_compareNullsLast_41 : decode cX8_compareNullsLast 41 = .ok (.iconst 0, 1) := by decide +kernel
theorem dX8_compareNullsLast_42 : decode cX8_compareNullsLast 42 = .ok (.isub, 1) := by decide +kernel
theorem dX8_compareNullsLast_43 : decode cX8_compareNullsLast 43 = .ok (.ireturn, 1) := by decide +kernel
theorem dX8_compareNullsLast_44 : decode cX8_compareNullsLast 44 = .ok (.aload_n 0, 1) := by decide +kernel
theorem dX8_compareNullsLast_45 : decode cX8_compareNullsLast 45 = .ok (.iload_n 1, 1) := by decide +kernel
theorem dX8_compareNullsLast_46 : decode cX8_compareNullsLast 46 = .ok (.iload_n 2, 1) := by decide +kernel
theorem dX8_compareNullsLast_47 : decode cX8_compareNullsLast 47 = .ok (.invokevirtual 54, 3) := by decide +kernel
theorem dX8_compareNullsLast_50 : decode cX8_compareNullsLast 50 = .ok (.ireturn, 1) := by decide +kernel
theorem dX8_hashOnto_0 : decode cX8_hashOnto 0 = .ok (.lload_n 1, 1) := by decide +kernel
theorem dX8_hashOnto_1 : decode cX8_hashOnto 1 = .ok (.ldc2_w 57, 3) := by decide +kernel
theorem dX8_hashOnto_4 : decode cX8_hashOnto 4 = .ok (.lmul, 1) := by decide +kernel
theorem dX8_hashOnto_5 : decode cX8_hashOnto 5 = .ok (.aload_n 0, 1) := by decide +kernel
theorem dX8_hashOnto_6 : decode cX8_hashOnto 6 = .ok (.getfield 9, 3) := by decide +kernel
theorem dX8_hashOnto_9 : decode cX8_hashOnto 9 = .ok (.iload_n 3, 1) := by decide +kernel
theorem dX8_hashOnto_10 : decode cX8_hashOnto 10 = .ok (.iaload, 1) := by decide +kernel
theorem dX8_hashOnto_11 : decode cX8_hashOnto 11 = .ok (.i2l, 1) := by decide +kernel
theorem dX8_hashOnto_12 : decode cX8_hashOnto 12 = .ok (.ladd, 1) := by decide +kernel
theorem dX8_hashOnto_13 : decode cX8_hashOnto 13 = .ok (.lstore 4, 2) := by decide +kernel
theorem dX8_hashOnto_15 : decode cX8_hashOnto 15 = .ok (.aload_n 0, 1) := by decide +kernel
theorem dX8_hashOnto_16 : decode cX8_hashOnto 16 = .ok (.iload_n 3, 1) := by decide +kernel
theorem dX8_hashOnto_17 : decode cX8_hashOnto 17 = .ok (.invokevirtual 43, 3) := by decide +kernel
theorem dX8_hashOnto_20 : decode cX8_hashOnto 20 = .ok (.istore 6, 2) := by decide +kernel
theorem dX8_hashOnto_22 : decode cX8_hashOnto 22 = .ok (.iconst 0, 1) := by decide +kernel
theorem dX8_hashOnto_23 : decode cX8_hashOnto 23 = .ok (.istore 7, 2) := by decide +kernel
theorem dX8_hashOnto_25 : decode cX8_hashOnto 25 = .ok (.iload 7, 2) := by decide +kernel
theorem dX8_hashOnto_27 : decode cX8_hashOnto 27 = .ok (.iload 6, 2) := by decide +kernel
theorem dX8_hashOnto_29 : decode cX8_hashOnto 29 = .ok (.if_icmp .ge 39, 3) := by decide +kernel
theorem dX8_hashOnto_32 : decode cX8_hashOnto 32 = .ok (.lload 4, 2) := by decide +kernel
theorem dX8_hashOnto_34 : decode cX8_hashOnto 34 = .ok (.aload_n 0, 1) := by decide +kernel
theorem dX8_hashOnto_35 : decode cX8_hashOnto 35 = .ok (.getfield 15, 3) := by decide +kernel
theorem dX8_hashOnto_38 : decode cX8_hashOnto 38 = .ok (.iload_n 3, 1) := by decide +kernel
theorem dX8_hashOnto_39 : decode cX8_hashOnto 39 = .ok (.iconst 4, 1) := by decide +kernel
theorem dX8_hashOnto_40 : decode cX8_hashOnto 40 = .ok (.imul, 1) := by decide +kernel
theorem dX8_hashOnto_41 : decode cX8_hashOnto 41 = .ok (.iload 7, 2) := by decide +kernel
theorem dX8_hashOnto_43 : decode cX8_hashOnto 43 = .ok (.iadd, 1) := by decide +kernel
theorem dX8_hashOnto_44 : decode cX8_hashOnto 44 = .ok (.laload, 1) := by decide +kernel
theorem dX8_hashOnto_45 : decode cX8_hashOnto 45 = .ok (.lxor, 1) := by decide +kernel
theorem dX8_hashOnto_46 : decode cX8_hashOnto 46 = .ok (.ldc2_w 59, 3) := by decide +kernel
theorem dX8_hashOnto_49 : decode cX8_hashOnto 49 = .ok (.lmul, 1) := by decide +kernel
theorem dX8_hashOnto_50 : decode cX8_hashOnto 50 = .ok (.lstore 4, 2) := by decide +kernel
theorem dX8_hashOnto_52 : decode cX8_hashOnto 52 = .ok (.lload 4, 2) := by decide +kernel
theorem dX8_hashOnto_54 : decode cX8_hashOnto 54 = .ok (.lload 4, 2) := by decide +kernel
theorem dX8_hashOnto_56 : decode cX8_hashOnto 56 = .ok (.bipush 32, 2) := by decide +kernel
theorem dX8_hashOnto_58 : decode cX8_hashOnto 58 = .ok (.lushr, 1) := by decide +kernel
theorem dX8_hashOnto_59 : decode cX8_hashOnto 59 = .ok (.lxor, 1) := by decide +kernel
theorem dX8_hashOnto_60 : decode cX8_hashOnto 60 = .ok (.lstore 4, 2) := by decide +kernel
theorem dX8_hashOnto_62 : decode cX8_hashOnto 62 = .ok (.iinc 7 1, 3) := by decide +kernel
theorem dX8_hashOnto_65 : decode cX8_hashOnto 65 = .ok (.goto (-40), 3) := by decide +kernel
theorem dX8_hashOnto_68 : decode cX8_hashOnto 68 = .ok (.lload 4, 2) := by decide +kernel
theorem dX8_hashOnto_70 : decode cX8_hashOnto 70 = .ok (.lreturn, 1) := by decide +kernel
theorem dX9_init_0 : decode cX9_init 0 = .ok (.aload_n 0, 1) := by decide +kernel
theorem dX9_init_1 : decode cX9_init 1 = .ok (.invokespecial 1, 3) := by decide +kernel
theorem dX9_init_4 : decode cX9_init 4 = .ok (.aload_n 0, 1) := by decide +kernel
theorem dX9_init_5 : decode cX9_init 5 = .ok (.new 7, 3) := by decide +kernel
theorem dX9_init_8 : decode cX9_init 8 = .ok (.dup, 1) := by decide +kernel
theorem dX9_init_9 : decode cX9_init 9 = .ok (.bipush 8, 2) := by decide +kernel
theorem dX9_init_11 : decode cX9_init 11 = .ok (.invokespecial 11, 3) := by decide +kernel
theorem dX9_init_14 : decode cX9_init 14 = .ok (.putfield 14, 3) := by decide +kernel
theorem dX9_init_17 : decode cX9_init 17 = .ok (.aload_n 0, 1) := by decide +kernel
theorem dX9_init_18 : decode cX9_init 18 = .ok (.new 18, 3) := by decide +kernel
theorem dX9_init_21 : decode cX9_init 21 = .ok (.dup, 1) := by decide +kernel
theorem dX9_init_22 : decode cX9_init 22 = .ok (.invokespecial 20, 3) := by decide +kernel
theorem dX9_init_25 : decode cX9_init 25 = .ok (.putfield 21, 3) := by decide +kernel
theorem dX9_init_28 : decode cX9_init 28 = .ok (.aload_n 0, 1) := by decide +kernel
theorem dX9_init_29 : decode cX9_init 29 = .ok (.new 25, 3) := by decide +kernel
theorem dX9_init_32 : decode cX9_init 32 = .ok (.dup, 1) := by decide +kernel
theorem dX9_init_33 : decode cX9_init 33 = .ok (.invokespecial 27, 3) := by decide +kernel
theorem dX9_init_36 : decode cX9_init 36 = .ok (.putfield 28, 3) := by decide +kernel
theorem dX9_init_39 : decode cX9_init 39 = .ok (.aload_n 0, 1) := by decide +kernel
theorem dX9_init_40 : decode cX9_init 40 = .ok (.new 32, 3) := by decide +kernel
theorem dX9_init_43 : decode cX9_init 43 = .ok (.dup, 1) := by decide +kernel
theorem dX9_init_44 : decode cX9_init 44 = .ok (.invokespecial 34, 3) := by decide +kernel
theorem dX9_init_47 : decode cX9_init 47 = .ok (.putfield 35, 3) := by decide +kernel
theorem dX9_init_50 : decode cX9_init 50 = .ok (.aload_n 0, 1) := by decide +kernel
theorem dX9_init_51 : decode cX9_init 51 = .ok (.new 39, 3) := by decide +kernel
theorem dX9_init_54 : decode cX9_init 54 = .ok (.dup, 1) := by decide +kernel
theorem dX9_init_55 : decode cX9_init 55 = .ok (.invokespecial 41, 3) := by decide +kernel
theorem dX9_init_58 : decode cX9_init 58 = .ok (.putfield 42, 3) := by decide +kernel
theorem dX9_init_61 : decode cX9_init 61 = .ok (.aload_n 0, 1) := by decide +kernel
theorem dX9_init_62 : decode cX9_init 62 = .ok (.new 46, 3) := by decide +kernel
theorem dX9_init_65 : decode cX9_init 65 = .ok (.dup, 1) := by decide +kernel
theorem dX9_init_66 : decode cX9_init 66 = .ok (.aload_n 0, 1) := by decide +kernel
theorem dX9_init_67 : decode cX9_init 67 = .ok (.getfield 21, 3) := by decide +kernel
theorem dX9_init_70 : decode cX9_init 70 = .ok (.aload_n 0, 1) := by decide +kernel
theorem dX9_init_71 : decode cX9_init 71 = .ok (.getfield 28, 3) := by decide +kernel
theorem dX9_init_74 : decode cX9_init 74 = .ok (.aload_n 0, 1) := by decide +kernel
theorem dX9_init_75 : decode cX9_init 75 = .ok (.getfield 35, 3) := by decide +kernel
theorem dX9_init_78 : decode cX9_init 78 = .ok (.invokespecial 48, 3) := by decide +kernel
theorem dX9_init_81 : decode cX9_init 81 = .ok (.putfield 51, 3) := by decide +kernel
theorem dX9_init_84 : decode cX9_init 84 = .ok (.return_, 1) := by decide +kernel
theorem dX9_reset_0 : decode cX9_reset 0 = .ok (.aload_n 0, 1) := by decide +kernel
theorem dX9_reset_1 : decode cX9_reset 1 = .ok (.getfield 14, 3) := by decide +kernel
theorem dX9_reset_4 : decode cX9_reset 4 = .ok (.invokevirtual 55, 3) := by decide +kernel
theorem dX9_reset_7 : decode cX9_reset 7 = .ok (.aload_n 0, 1) := by decide +kernel
theorem dX9_reset_8 : decode cX9_reset 8 = .ok (.getfield 21, 3) := by decide +kernel
theorem dX9_reset_11 : decode cX9_reset 11 = .ok (.iconst 0, 1) := by decide +kernel
theorem dX9_reset_12 : decode cX9_reset 12 = .ok (.putfield 58, 3) := by decide +kernel
theorem dX9_reset_15 : decode cX9_reset 15 = .ok (.aload_n 0, 1) := by decide +kernel
theorem dX9_reset_16 : decode cX9_reset 16 = .ok (.getfield 28, 3) := by decide +kernel
theorem dX9_reset_19 : decode cX9_reset 19 = .ok (.iconst 0, 1) := by decide +kernel
theorem dX9_reset_20 : decode cX9_reset 20 = .ok (.putfield 62, 3) := by decide +kernel
theorem dX9_reset_23 : decode cX9_reset 23 = .ok (.aload_n 0, 1) := by decide +kernel
theorem dX9_reset_24 : decode cX9_reset 24 = .ok (.getfield 35, 3) := by decide +kernel
theorem dX9_reset_27 : decode cX9_reset 27 = .ok (.invokevirtual 63, 3) := by decide +kernel
theorem dX9_reset_30 : decode cX9_reset 30 = .ok (.aload_n 0, 1) := by decide +kernel
theorem dX9_reset_31 : decode cX9_reset 31 = .ok (.getfield 42, 3) := by decide +kernel
theorem dX9_reset_34 : decode cX9_reset 34 = .ok (.iconst 0, 1) := by decide +kernel
theorem dX9_reset_35 : decode cX9_reset 35 = .ok (.putfield 66, 3) := by decide +kernel
theorem dX9_reset_38 : decode cX9_reset 38 = .ok (.return_, 1) := by decide +kernel
theorem dX9_table_0 : decode cX9_table 0 = .ok (.aload_n 0, 1) := by decide +kernel
theorem dX9_table_1 : decode cX9_table 1 = .ok (.getfield 21, 3) := by decide +kernel
theorem dX9_table_4 : decode cX9_table 4 = .ok (.iload_n 1, 1) := by decide +kernel
theorem dX9_table_5 : decode cX9_table 5 = .ok (.iload_n 2, 1) := by decide +kernel
theorem dX9_table_6 : decode cX9_table 6 = .ok (.invokevirtual 69, 3) := by decide +kernel
theorem dX9_table_9 : decode cX9_table 9 = .ok (.ireturn, 1) := by decide +kernel
theorem dX9_clear_0 : decode cX9_clear 0 = .ok (.aload_n 0, 1) := by decide +kernel
theorem dX9_clear_1 : decode cX9_clear 1 = .ok (.getfield 14, 3) := by decide +kernel
theorem dX9_clear_4 : decode cX9_clear 4 = .ok (.invokevirtual 55, 3) := by decide +kernel
theorem dX9_clear_7 : decode cX9_clear 7 = .ok (.return_, 1) := by decide +kernel
theorem dX9_cell_0 : decode cX9_cell 0 = .ok (.iload_n 1, 1) := by decide +kernel
theorem dX9_cell_1 : decode cX9_cell 1 = .ok (.invokestatic 73, 3) := by decide +kernel
theorem dX9_cell_4 : decode cX9_cell 4 = .ok (.ifCond .ne 5, 3) := by decide +kernel
theorem dX9_cell_7 : decode cX9_cell 7 = .ok (.iconst 0, 1) := by decide +kernel
theorem dX9_cell_8 : decode cX9_cell 8 = .ok (.ireturn, 1) := by decide +kernel
theorem dX9_cell_9 : decode cX9_cell 9 = .ok (.aload_n 0, 1) := by decide +kernel
theorem dX9_cell_10 : decode cX9_cell 10 = .ok (.getfield 14, 3) := by decide +kernel
theorem dX9_cell_13 : decode cX9_cell 13 = .ok (.iload_n 1, 1) := by decide +kernel
theorem dX9_cell_14 : decode cX9_cell 14 = .ok (.lload_n 2, 1) := by decide +kernel
theorem dX9_cell_15 : decode cX9_cell 15 = .ok (.invokevirtual 77, 3) := by decide +kernel
theorem dX9_cell_18 : decode cX9_cell 18 = .ok (.iconst 1, 1) := by decide +kernel
theorem dX9_cell_19 : decode cX9_cell 19 = .ok (.ireturn, 1) := by decide +kernel
theorem dX9_truth_0 : decode cX9_truth 0 = .ok (.iload_n 1, 1) := by decide +kernel
theorem dX9_truth_1 : decode cX9_truth 1 = .ok (.invokestatic 73, 3) := by decide +kernel
theorem dX9_truth_4 : decode cX9_truth 4 = .ok (.ifCond .ne 5, 3) := by decide +kernel
theorem dX9_truth_7 : decode cX9_truth 7 = .ok (.iconst 0, 1) := by decide +kernel
theorem dX9_truth_8 : decode cX9_truth 8 = .ok (.ireturn, 1) := by decide +kernel
theorem dX9_truth_9 : decode cX9_truth 9 = .ok (.aload_n 0, 1) := by decide +kernel
theorem dX9_truth_10 : decode cX9_truth 10 = .ok (.getfield 14, 3) := by decide +kernel
theorem dX9_truth_13 : decode cX9_truth 13 = .ok (.iload_n 1, 1) := by decide +kernel
theorem dX9_truth_14 : decode cX9_truth 14 = .ok (.iload_n 2, 1) := by decide +kernel
theorem dX9_truth_15 : decode cX9_truth 15 = .ok (.invokevirtual 81, 3) := by decide +kernel
theorem dX9_truth_18 : decode cX9_truth 18 = .ok (.iconst 1, 1) := by decide +kernel
theorem dX9_truth_19 : decode cX9_truth 19 = .ok (.ireturn, 1) := by decide +kernel
theorem dX9_text_0 : decode cX9_text 0 = .ok (.iload_n 1, 1) := by decide +kernel
theorem dX9_text_1 : decode cX9_text 1 = .ok (.invokestatic 73, 3) := by decide +kernel
theorem dX9_text_4 : decode cX9_text 4 = .ok (.ifCond .eq 15, 3) := by decide +kernel
theorem dX9_text_7 : decode cX9_text 7 = .ok (.iload 4, 2) := by decide +kernel
theorem dX9_text_9 : decode cX9_text 9 = .ok (.ifCond .lt 10, 3) := by decide +kernel
theorem dX9_text_12 : decode cX9_text 12 = .ok (.iload 4, 2) := by decide +kernel
theorem dX9_text_14 : decode cX9_text 14 = .ok (.bipush 8, 2) := by decide +kernel
theorem dX9_text_16 : decode cX9_text 16 = .ok (.if_icmp .le 5, 3) := by decide +kernel
theorem dX9_text_19 : decode cX9_text 19 = .ok (.iconst 0, 1) := by decide +kernel
theorem dX9_text_20 : decode cX9_text 20 = .ok (.ireturn, 1) := by decide +kernel
theorem dX9_text_21 : decode cX9_text 21 = .ok (.aload_n 0, 1) := by decide +kernel
theorem dX9_text_22 : decode cX9_text 22 = .ok (.getfield 14, 3) := by decide +kernel
theorem dX9_text_25 : decode cX9_text 25 = .ok (.getfield 85, 3) := by decide +kernel
theorem dX9_text_28 : decode cX9_text 28 = .ok (.iload_n 1, 1) := by decide +kernel
theorem dX9_text_29 : decode cX9_text 29 = .ok (.iaload, 1) := by decide +kernel
theorem dX9_text_30 : decode cX9_text 30 = .ok (.iconst 2, 1) := by decide +kernel
theorem dX9_text_31 : decode cX9_text 31 = .ok (.if_icmp .ne 7, 3) := by decide +kernel
theorem dX9_text_34 : decode cX9_text 34 = .ok (.iconst 1, 1) := by decide +kernel
theorem dX9_text_35 : decode cX9_text 35 = .ok (.goto 4, 3) := by decide +kernel
theorem dX9_text_38 : decode cX9_text 38 = .ok (.iconst 0, 1) := by decide +kernel
theorem dX9_text_39 : decode cX9_text 39 = .ok (.istore 5, 2) := by decide +kernel
theorem dX9_text_41 : decode cX9_text 41 = .ok (.iload 5, 2) := by decide +kernel
theorem dX9_text_43 : decode cX9_text 43 = .ok (.ifCond .eq 21, 3) := by decide +kernel
theorem dX9_text_46 : decode cX9_text 46 = .ok (.aload_n 0, 1) := by decide +kernel
theorem dX9_text_47 : decode cX9_text 47 = .ok (.getfield 14, 3) := by decide +kernel
theorem dX9_text_50 : decode cX9_text 50 = .ok (.iload_n 1, 1) := by decide +kernel
theorem dX9_text_51 : decode cX9_text 51 = .ok (.invokevirtual 89, 3) := by decide +kernel
theorem dX9_text_54 : decode cX9_text 54 = .ok (.iload 4, 2) := by decide +kernel
theorem dX9_text_56 : decode cX9_text 56 = .ok (.iadd, 1) := by decide +kernel
theorem dX9_text_57 : decode cX9_text 57 = .ok (.bipush 31, 2) := by decide +kernel
theorem dX9_text_59 : decode cX9_text 59 = .ok (.if_icmp .le 5, 3) := by decide +kernel
theorem dX9_text_62 : decode cX9_text 62 = .ok (.iconst 0, 1) := by decide +kernel
theorem dX9_text_63 : decode cX9_text 63 = .ok (.ireturn, 1) := by decide +kernel
theorem dX9_text_64 : decode cX9_text 64 = .ok (.iload 5, 2) := by decide +kernel
theorem dX9_text_66 : decode cX9_text 66 = .ok (.ifCond .ne 11, 3) := by decide +kernel
theorem dX9_text_69 : decode cX9_text 69 = .ok (.aload_n 0, 1) := by decide +kernel
theorem dX9_text_70 : decode cX9_text 70 = .ok (.getfield 14, 3) := by decide +kernel
theorem dX9_text_73 : decode cX9_text 73 = .ok (.iload_n 1, 1) := by decide +kernel
theorem dX9_text_74 : decode cX9_text 74 = .ok (.invokevirtual 93, 3) := by decide +kernel
theorem dX9_text_77 : decode cX9_text 77 = .ok (.iload 4, 2) := by decide +kernel
theorem dX9_text_79 : decode cX9_text 79 = .ok (.iconst 1, 1) := by decide +kernel
theorem dX9_text_80 : decode cX9_text 80 = .ok (.isub, 1) := by decide +kernel
theorem dX9_text_81 : decode cX9_text 81 = .ok (.istore 6, 2) := by decide +kernel
theorem dX9_text_83 : decode cX9_text 83 = .ok (.iload 6, 2) := by decide +kernel
theorem dX9_text_85 : decode cX9_text 85 = .ok (.ifCond .lt 29, 3) := by decide +kernel
theorem dX9_text_88 : decode cX9_text 88 = .ok (.aload_n 0, 1) := by decide +kernel
theorem dX9_text_89 : decode cX9_text 89 = .ok (.getfield 14, 3) := by decide +kernel
theorem dX9_text_92 : decode cX9_text 92 = .ok (.iload_n 1, 1) := by decide +kernel
theorem dX9_text_93 : decode cX9_text 93 = .ok (.lload_n 2, 1) := by decide +kernel
theorem dX9_text_94 : decode cX9_text 94 = .ok (.bipush 8, 2) := by decide +kernel
theorem dX9_text_96 : decode cX9_text 96 = .ok (.iload 6, 2) := by decide +kernel
theorem dX9_text_98 : decode cX9_text 98 = .ok (.imul, 1) := by decide +kernel
theorem dX9_text_99 : decode cX9_text 99 = .ok (.lushr, 1) := by decide +kernel
theorem dX9_text_100 : decode cX9_text 100 = .ok (.l2i, 1) := by decide +kernel
theorem dX9_text_101 : decode cX9_text 101 = .ok (.sipush 255, 3) := by decide +kernel
theorem dX9_text_104 : decode cX9_text 104 = .ok (.iand, 1) := by decide +kernel
theorem dX9_text_105 : decode cX9_text 105 = .ok (.invokevirtual 96, 3) := by decide +kernel
theorem dX9_text_108 : decode cX9_text 108 = .ok (.iinc 6 (-1), 3) := by decide +kernel
theorem dX9_text_111 : decode cX9_text 111 = .ok (.goto (-28), 3) := by decide +kernel
theorem dX9_text_114 : decode cX9_text 114 = .ok (.iconst 1, 1) := by decide +kernel
theorem dX9_text_115 : decode cX9_text 115 = .ok (.ireturn, 1) := by decide +kernel
theorem dX9_add_0 : decode cX9_add 0 = .ok (.aload_n 0, 1) := by decide +kernel
theorem dX9_add_1 : decode cX9_add 1 = .ok (.getfield 21, 3) := by decide +kernel
theorem dX9_add_4 : decode cX9_add 4 = .ok (.iload_n 1, 1) := by decide +kernel
theorem dX9_add_5 : decode cX9_add 5 = .ok (.aload_n 0, 1) := by decide +kernel
theorem dX9_add_6 : decode cX9_add 6 = .ok (.getfield 14, 3) := by decide +kernel
theorem dX9_add_9 : decode cX9_add 9 = .ok (.invokevirtual 100, 3) := by decide +kernel
theorem dX9_add_12 : decode cX9_add 12 = .ok (.ireturn, 1) := by decide +kernel
theorem dX9_column_0 : decode cX9_column 0 = .ok (.aload_n 0, 1) := by decide +kernel
theorem dX9_column_1 : decode cX9_column 1 = .ok (.getfield 21, 3) := by decide +kernel
theorem dX9_column_4 : decode cX9_column 4 = .ok (.iload_n 1, 1) := by decide +kernel
theorem dX9_column_5 : decode cX9_column 5 = .ok (.iload_n 2, 1) := by decide +kernel
theorem dX9_column_6 : decode cX9_column 6 = .ok (.invokevirtual 104, 3) := by decide +kernel
theorem dX9_column_9 : decode cX9_column 9 = .ok (.ifCond .eq 13, 3) := by decide +kernel
theorem dX9_column_12 : decode cX9_column 12 = .ok (.aload_n 0, 1) := by decide +kernel
theorem dX9_column_13 : decode cX9_column 13 = .ok (.getfield 28, 3) := by decide +kernel
theorem dX9_column_16 : decode cX9_column 16 = .ok (.invokevirtual 108, 3) := by decide +kernel
theorem dX9_column_19 : decode cX9_column 19 = .ok (.ifCond .eq 5, 3) := by decide +kernel
theorem dX9_column_22 : decode cX9_column 22 = .ok (.iconst (-1), 1) := by decide +kernel
theorem dX9_column_23 : decode cX9_column 23 = .ok (.ireturn, 1) := by decide +kernel
theorem dX9_column_24 : decode cX9_column 24 = .ok (.aload_n 0, 1) := by decide +kernel
theorem dX9_column_25 : decode cX9_column 25 = .ok (.getfield 28, 3) := by decide +kernel
theorem dX9_column_28 : decode cX9_column 28 = .ok (.iload_n 1, 1) := by decide +kernel
theorem dX9_column_29 : decode cX9_column 29 = .ok (.iload_n 2, 1) := by decide +kernel
theorem dX9_column_30 : decode cX9_column 30 = .ok (.aload_n 0, 1) := by decide +kernel
theorem dX9_column_31 : decode cX9_column 31 = .ok (.getfield 21, 3) := by decide +kernel
theorem dX9_column_34 : decode cX9_column 34 = .ok (.iload_n 1, 1) := by decide +kernel
theorem dX9_column_35 : decode cX9_column 35 = .ok (.iload_n 2, 1) := by decide +kernel
theorem dX9_column_36 : decode cX9_column 36 = .ok (.invokevirtual 112, 3) := by decide +kernel
theorem dX9_column_39 : decode cX9_column 39 = .ok (.invokevirtual 115, 3) := by decide +kernel
theorem dX9_column_42 : decode cX9_column 42 = .ok (.ireturn, 1) := by decide +kernel
theorem dX9_constant_0 : decode cX9_constant 0 = .ok (.aload_n 0, 1) := by decide +kernel
theorem dX9_constant_1 : decode cX9_constant 1 = .ok (.getfield 28, 3) := by decide +kernel
theorem dX9_constant_4 : decode cX9_constant 4 = .ok (.invokevirtual 108, 3) := by decide +kernel
theorem dX9_constant_7 : decode cX9_constant 7 = .ok (.ifCond .eq 5, 3) := by decide +kernel
theorem dX9_constant_10 : decode cX9_constant 10 = .ok (.iconst (-1), 1) := by decide +kernel
theorem dX9_constant_11 : decode cX9_constant 11 = .ok (.ireturn, 1) := by decide +kernel
theorem dX9_constant_12 : decode cX9_constant 12 = .ok (.aload_n 0, 1) := by decide +kernel
theorem dX9_constant_13 : decode cX9_constant 13 = .ok (.getfield 28, 3) := by decide +kernel
theorem dX9_constant_16 : decode cX9_constant 16 = .ok (.aload_n 0, 1) := by decide +kernel
theorem dX9_constant_17 : decode cX9_constant 17 = .ok (.getfield 14, 3) := by decide +kernel
theorem dX9_constant_20 : decode cX9_constant 20 = .ok (.iconst 0, 1) := by decide +kernel
theorem dX9_constant_21 : decode cX9_constant 21 = .ok (.invokevirtual 119, 3) := by decide +kernel
theorem dX9_constant_24 : decode cX9_constant 24 = .ok (.ireturn, 1) := by decide +kernel
theorem dX9_node_0 : decode cX9_node 0 = .ok (.iload_n 1, 1) := by decide +kernel
theorem dX9_node_1 : decode cX9_node 1 = .ok (.iconst 5, 1) := by decide +kernel
theorem dX9_node_2 : decode cX9_node 2 = .ok (.if_icmp .lt 19, 3) := by decide +kernel
theorem dX9_node_5 : decode cX9_node 5 = .ok (.iload_n 1, 1) := by decide +kernel
theorem dX9_node_6 : decode cX9_node 6 = .ok (.bipush 27, 2) := by decide +kernel
theorem dX9_node_8 : decode cX9_node 8 = .ok (.if_icmp .gt 13, 3) := by decide +kernel
theorem dX9_node_11 : decode cX9_node 11 = .ok (.aload_n 0, 1) := by decide +kernel
theorem dX9_node_12 : decode cX9_node 12 = .ok (.getfield 28, 3) := by decide +kernel
theorem dX9_node_15 : decode cX9_node 15 = .ok (.invokevirtual 108, 3) := by decide +kernel
theorem dX9_node_18 : decode cX9_node 18 = .ok (.ifCond .eq 5, 3) := by decide +kernel
theorem dX9_node_21 : decode cX9_node 21 = .ok (.iconst (-1), 1) := by decide +kernel
theorem dX9_node_22 : decode cX9_node 22 = .ok (.ireturn, 1) := by decide +kernel
theorem dX9_node_23 : decode cX9_node 23 = .ok (.iload_n 1, 1) := by decide +kernel
theorem dX9_node_24 : decode cX9_node 24 = .ok (.invokestatic 123, 3) := by decide +kernel
theorem dX9_node_27 : decode cX9_node 27 = .ok (.istore 4, 2) := by decide +kernel
theorem dX9_node_29 : decode cX9_node 29 = .ok (.aload_n 0, 1) := by decide +kernel
theorem dX9_node_30 : decode cX9_node 30 = .ok (.getfield 28, 3) := by decide +kernel
theorem dX9_node_33 : decode cX9_node 33 = .ok (.iload_n 1, 1) := by decide +kernel
theorem dX9_node_34 : decode cX9_node 34 = .ok (.iload 4, 2) := by decide +kernel
theorem dX9_node_36 : decode cX9_node 36 = .ok (.iconst 1, 1) := by decide +kernel
theorem dX9_node_37 : decode cX9_node 37 = .ok (.if_icmp .lt 7, 3) := by decide +kernel
theorem dX9_node_40 : decode cX9_node 40 = .ok (.iload_n 2, 1) := by decide +kernel
theorem dX9_node_41 : decode cX9_node 41 = .ok (.goto 4, 3) := by decide +kernel
theorem dX9_node_44 : decode cX9_node 44 = .ok (.iconst (-1), 1) := by decide +kernel
theorem dX9_node_45 : decode cX9_node 45 = .ok (.iload 4, 2) := by decide +kernel
theorem dX9_node_47 : decode cX9_node 47 = .ok (.iconst 2, 1) := by decide +kernel
theorem dX9_node_48 : decode cX9_node 48 = .ok (.if_icmp .ne 7, 3) := by decide +kernel
theorem dX9_node_51 : decode cX9_node 51 = .ok (.iload_n 3, 1) := by decide +kernel
theorem dX9_node_52 : decode cX9_node 52 = .ok (.goto 4, 3) := by decide +kernel
theorem dX9_node_55 : decode cX9_node 55 = .ok (.iconst (-1), 1) := by decide +kernel
theorem dX9_node_56 : decode cX9_node 56 = .ok (.invokevirtual 126, 3) := by decide +kernel
theorem dX9_node_59 : decode cX9_node 59 = .ok (.ireturn, 1) := by decide +kernel
theorem dX9_type_0 : decode cX9_type 0 = .ok (.aload_n 0, 1) := by decide +kernel
theorem dX9_type_1 : decode cX9_type 1 = .ok (.getfield 28, 3) := by decide +kernel
theorem dX9_type_4 : decode cX9_type 4 = .ok (.iload_n 1, 1) := by decide +kernel
theorem dX9_type_5 : decode cX9_type 5 = .ok (.invokevirtual 129, 3) := by decide +kernel
theorem dX9_type_8 : decode cX9_type 8 = .ok (.ifCond .ne 5, 3) := by decide +kernel
theorem dX9_type_11 : decode cX9_type 11 = .ok (.iconst (-1), 1) := by decide +kernel
theorem dX9_type_12 : decode cX9_type 12 = .ok (.ireturn, 1) := by decide +kernel
theorem dX9_type_13 : decode cX9_type 13 = .ok (.aload_n 0, 1) := by decide +kernel
theorem dX9_type_14 : decode cX9_type 14 = .ok (.getfield 28, 3) := by decide +kernel
theorem dX9_type_17 : decode cX9_type 17 = .ok (.getfield 132, 3) := by decide +kernel
theorem dX9_type_20 : decode cX9_type 20 = .ok (.iload_n 1, 1) := by decide +kernel
theorem dX9_type_21 : decode cX9_type 21 = .ok (.iaload, 1) := by decide +kernel
theorem dX9_type_22 : decode cX9_type 22 = .ok (.aload_n 0, 1) := by decide +kernel
theorem dX9_type_23 : decode cX9_type 23 = .ok (.getfield 28, 3) := by decide +kernel
theorem dX9_type_26 : decode cX9_type 26 = .ok (.getfield 135, 3) := by decide +kernel
theorem dX9_type_29 : decode cX9_type 29 = .ok (.iload_n 1, 1) := by decide +kernel
theorem dX9_type_30 : decode cX9_type 30 = .ok (.baload, 1) := by decide +kernel
theorem dX9_type_31 : decode cX9_type 31 = .ok (.ifCond .eq 8, 3) := by decide +kernel
theorem dX9_type_34 : decode cX9_type 34 = .ok (.bipush 10, 2) := by decide +kernel
theorem dX9_type_36 : decode cX9_type 36 = .ok (.goto 4, 3) := by decide +kernel
theorem dX9_type_39 : decode cX9_type 39 = .ok (.iconst 0, 1) := by decide +kernel
theorem dX9_type_40 : decode cX9_type 40 = .ok (.iadd, 1) := by decide +kernel
theorem dX9_type_41 : decode cX9_type 41 = .ok (.ireturn, 1) := by decide +kernel
theorem dX9_where_0 : decode cX9_where 0 = .ok (.iload_n 1, 1) := by decide +kernel
theorem dX9_where_1 : decode cX9_where 1 = .ok (.iconst (-1), 1) := by decide +kernel
theorem dX9_where_2 : decode cX9_where 2 = .ok (.if_icmp .eq 16, 3) := by decide +kernel
theorem dX9_where_5 : decode cX9_where 5 = .ok (.aload_n 0, 1) := by decide +kernel
theorem dX9_where_6 : decode cX9_where 6 = .ok (.getfield 28, 3) := by decide +kernel
theorem dX9_where_9 : decode cX9_where 9 = .ok (.iload_n 1, 1) := by decide +kernel
theorem dX9_where_10 : decode cX9_where 10 = .ok (.invokevirtual 139, 3) := by decide +kernel
theorem dX9_where_13 : decode cX9_where 13 = .ok (.ifCond .ne 5, 3) := by decide +kernel
theorem dX9_where_16 : decode cX9_where 16 = .ok (.iconst 0, 1) := by decide +kernel
theorem dX9_where_17 : decode cX9_where 17 = .ok (.ireturn, 1) := by decide +kernel
theorem dX9_where_18 : decode cX9_where 18 = .ok (.aload_n 0, 1) := by decide +kernel
theorem dX9_where_19 : decode cX9_where 19 = .ok (.getfield 35, 3) := by decide +kernel
theorem dX9_where_22 : decode cX9_where 22 = .ok (.iload_n 1, 1) := by decide +kernel
theorem dX9_where_23 : decode cX9_where 23 = .ok (.putfield 142, 3) := by decide +kernel
theorem dX9_where_26 : decode cX9_where 26 = .ok (.iconst 1, 1) := by decide +kernel
theorem dX9_where_27 : decode cX9_where 27 = .ok (.ireturn, 1) := by decide +kernel
theorem dX9_item_0 : decode cX9_item 0 = .ok (.aload_n 0, 1) := by decide +kernel
theorem dX9_item_1 : decode cX9_item 1 = .ok (.getfield 28, 3) := by decide +kernel
theorem dX9_item_4 : decode cX9_item 4 = .ok (.iload_n 1, 1) := by decide +kernel
theorem dX9_item_5 : decode cX9_item 5 = .ok (.invokevirtual 129, 3) := by decide +kernel
theorem dX9_item_8 : decode cX9_item 8 = .ok (.ifCond .ne 5, 3) := by decide +kernel
theorem dX9_item_11 : decode cX9_item 11 = .ok (.iconst (-1), 1) := by decide +kernel
theorem dX9_item_12 : decode cX9_item 12 = .ok (.ireturn, 1) := by decide +kernel
theorem dX9_item_13 : decode cX9_item 13 = .ok (.aload_n 0, 1) := by decide +kernel
theorem dX9_item_14 : decode cX9_item 14 = .ok (.getfield 35, 3) := by decide +kernel
theorem dX9_item_17 : decode cX9_item 17 = .ok (.iload_n 1, 1) := by decide +kernel
theorem dX9_item_18 : decode cX9_item 18 = .ok (.invokevirtual 145, 3) := by decide +kernel
theorem dX9_item_21 : decode cX9_item 21 = .ok (.ireturn, 1) := by decide +kernel
theorem dX9_group_0 : decode cX9_group 0 = .ok (.aload_n 0, 1) := by decide +kernel
theorem dX9_group_1 : decode cX9_group 1 = .ok (.getfield 28, 3) := by decide +kernel
theorem dX9_group_4 : decode cX9_group 4 = .ok (.iload_n 1, 1) := by decide +kernel
theorem dX9_group_5 : decode cX9_group 5 = .ok (.invokevirtual 129, 3) := by decide +kernel
theorem dX9_group_8 : decode cX9_group 8 = .ok (.ifCond .eq 16, 3) := by decide +kernel
theorem dX9_group_11 : decode cX9_group 11 = .ok (.aload_n 0, 1) := by decide +kernel
theorem dX9_group_12 : decode cX9_group 12 = .ok (.getfield 28, 3) := by decide +kernel
theorem dX9_group_15 : decode cX9_group 15 = .ok (.getfield 148, 3) := by decide +kernel
theorem dX9_group_18 : decode cX9_group 18 = .ok (.iload_n 1, 1) := by decide +kernel
theorem dX9_group_19 : decode cX9_group 19 = .ok (.iaload, 1) := by decide +kernel
theorem dX9_group_20 : decode cX9_group 20 = .ok (.iconst 4, 1) := by decide +kernel
theorem dX9_group_21 : decode cX9_group 21 = .ok (.if_icmp .eq 5, 3) := by decide +kernel
theorem dX9_group_24 : decode cX9_group 24 = .ok (.iconst 0, 1) := by decide +kernel
theorem dX9_group_25 : decode cX9_group 25 = .ok (.ireturn, 1) := by decide +kernel
theorem dX9_group_26 : decode cX9_group 26 = .ok (.aload_n 0, 1) := by decide +kernel
theorem dX9_group_27 : decode cX9_group 27 = .ok (.getfield 35, 3) := by decide +kernel
theorem dX9_group_30 : decode cX9_group 30 = .ok (.aload_n 0, 1) := by decide +kernel
theorem dX9_group_31 : decode cX9_group 31 = .ok (.getfield 28, 3) := by decide +kernel
theorem dX9_group_34 : decode cX9_group 34 = .ok (.getfield 149, 3) := by decide +kernel
theorem dX9_group_37 : decode cX9_group 37 = .ok (.iload_n 1, 1) := by decide +kernel
theorem dX9_group_38 : decode cX9_group 38 = .ok (.iaload, 1) := by decide +kernel
theorem dX9_group_39 : decode cX9_group 39 = .ok (.aload_n 0, 1) := by decide +kernel
theorem dX9_group_40 : decode cX9_group 40 = .ok (.getfield 28, 3) := by decide +kernel
theorem dX9_group_43 : decode cX9_group 43 = .ok (.getfield 152, 3) := by decide +kernel
theorem dX9_group_46 : decode cX9_group 46 = .ok (.iload_n 1, 1) := by decide +kernel
theorem dX9_group_47 : decode cX9_group 47 = .ok (.iaload, 1) := by decide +kernel
theorem dX9_group_48 : decode cX9_group 48 = .ok (.invokevirtual 155, 3) := by decide +kernel
theorem dX9_group_51 : decode cX9_group 51 = .ok (.ireturn, 1) := by decide +kernel
theorem dX9_order_0 : decode cX9_order 0 = .ok (.aload_n 0, 1) := by decide +kernel
theorem dX9_order_1 : decode cX9_order 1 = .ok (.getfield 35, 3) := by decide +kernel
theorem dX9_order_4 : decode cX9_order 4 = .ok (.iload_n 1, 1) := by decide +kernel
theorem dX9_order_5 : decode cX9_order 5 = .ok (.iload_n 2, 1) := by decide +kernel
theorem dX9_order_6 : decode cX9_order 6 = .ok (.invokevirtual 158, 3) := by decide +kernel
theorem dX9_order_9 : decode cX9_order 9 = .ok (.ireturn, 1) := by decide +kernel
theorem dX9_limit_0 : decode cX9_limit 0 = .ok (.iload_n 1, 1) := by decide +kernel
theorem dX9_limit_1 : decode cX9_limit 1 = .ok (.iconst (-1), 1) := by decide +kernel
theorem dX9_limit_2 : decode cX9_limit 2 = .ok (.if_icmp .ge 5, 3) := by decide +kernel
theorem dX9_limit_5 : decode cX9_limit 5 = .ok (.iconst 0, 1) := by decide +kernel
theorem dX9_limit_6 : decode cX9_limit 6 = .ok (.ireturn, 1) := by decide +kernel
theorem dX9_limit_7 : decode cX9_limit 7 = .ok (.aload_n 0, 1) := by decide +kernel
theorem dX9_limit_8 : decode cX9_limit 8 = .ok (.getfield 35, 3) := by decide +kernel
theorem dX9_limit_11 : decode cX9_limit 11 = .ok (.iload_n 1, 1) := by decide +kernel
theorem dX9_limit_12 : decode cX9_limit 12 = .ok (.putfield 162, 3) := by decide +kernel
theorem dX9_limit_15 : decode cX9_limit 15 = .ok (.iconst 1, 1) := by decide +kernel
theorem dX9_limit_16 : decode cX9_limit 16 = .ok (.ireturn, 1) := by decide +kernel
theorem dX9_distinct_0 : decode cX9_distinct 0 = .ok (.aload_n 0, 1) := by decide +kernel
theorem dX9_distinct_1 : decode cX9_distinct 1 = .ok (.getfield 35, 3) := by decide +kernel
theorem dX9_distinct_4 : decode cX9_distinct 4 = .ok (.iload_n 1, 1) := by decide +kernel
theorem dX9_distinct_5 : decode cX9_distinct 5 = .ok (.putfield 165, 3) := by decide +kernel
theorem dX9_distinct_8 : decode cX9_distinct 8 = .ok (.return_, 1) := by decide +kernel
theorem dX9_run_0 : decode cX9_run 0 = .ok (.aload_n 0, 1) := by decide +kernel
theorem dX9_run_1 : decode cX9_run 1 = .ok (.getfield 21, 3) := by decide +kernel
theorem dX9_run_4 : decode cX9_run 4 = .ok (.getfield 58, 3) := by decide +kernel
theorem dX9_run_7 : decode cX9_run 7 = .ok (.ifCond .eq 13, 3) := by decide +kernel
theorem dX9_run_10 : decode cX9_run 10 = .ok (.aload_n 0, 1) := by decide +kernel
theorem dX9_run_11 : decode cX9_run 11 = .ok (.getfield 35, 3) := by decide +kernel
theorem dX9_run_14 : decode cX9_run 14 = .ok (.getfield 169, 3) := by decide +kernel
theorem dX9_run_17 : decode cX9_run 17 = .ok (.ifCond .ne 5, 3) := by decide +kernel
theorem dX9_run_20 : decode cX9_run 20 = .ok (.iconst (-1), 1) := by decide +kernel
theorem dX9_run_21 : decode cX9_run 21 = .ok (.ireturn, 1) := by decide +kernel
theorem dX9_run_22 : decode cX9_run 22 = .ok (.aload_n 0, 1) := by decide +kernel
theorem dX9_run_23 : decode cX9_run 23 = .ok (.getfield 51, 3) := by decide +kernel
theorem dX9_run_26 : decode cX9_run 26 = .ok (.invokevirtual 172, 3) := by decide +kernel
theorem dX9_run_29 : decode cX9_run 29 = .ok (.aload_n 0, 1) := by decide +kernel
theorem dX9_run_30 : decode cX9_run 30 = .ok (.getfield 51, 3) := by decide +kernel
theorem dX9_run_33 : decode cX9_run 33 = .ok (.invokevirtual 175, 3) := by decide +kernel
theorem dX9_run_36 : decode cX9_run 36 = .ok (.ifCond .eq 6, 3) := by decide +kernel
theorem dX9_run_39 : decode cX9_run 39 = .ok (.bipush (-3), 2) := by decide +kernel
theorem dX9_run_41 : decode cX9_run 41 = .ok (.ireturn, 1) := by decide +kernel
theorem dX9_run_42 : decode cX9_run 42 = .ok (.aload_n 0, 1) := by decide +kernel
theorem dX9_run_43 : decode cX9_run 43 = .ok (.getfield 21, 3) := by decide +kernel
theorem dX9_run_46 : decode cX9_run 46 = .ok (.invokevirtual 178, 3) := by decide +kernel
theorem dX9_run_49 : decode cX9_run 49 = .ok (.ldc 182, 2) := by decide +kernel
theorem dX9_run_51 : decode cX9_run 51 = .ok (.if_icmp .le 6, 3) := by decide +kernel
theorem dX9_run_54 : decode cX9_run 54 = .ok (.bipush (-2), 2) := by decide +kernel
theorem dX9_run_56 : decode cX9_run 56 = .ok (.ireturn, 1) := by decide +kernel
theorem dX9_run_57 : decode cX9_run 57 = .ok (.aload_n 0, 1) := by decide +kernel
theorem dX9_run_58 : decode cX9_run 58 = .ok (.getfield 51, 3) := by decide +kernel
theorem dX9_run_61 : decode cX9_run 61 = .ok (.invokevirtual 183, 3) := by decide +kernel
theorem dX9_run_64 : decode cX9_run 64 = .ok (.istore_n 1, 1) := by decide +kernel
theorem dX9_run_65 : decode cX9_run 65 = .ok (.iload_n 1, 1) := by decide +kernel
theorem dX9_run_66 : decode cX9_run 66 = .ok (.sipush 2000, 3) := by decide +kernel
theorem dX9_run_69 : decode cX9_run 69 = .ok (.if_icmp .le 6, 3) := by decide +kernel
theorem dX9_run_72 : decode cX9_run 72 = .ok (.bipush (-2), 2) := by decide +kernel
theorem dX9_run_74 : decode cX9_run 74 = .ok (.ireturn, 1) := by decide +kernel
theorem dX9_run_75 : decode cX9_run 75 = .ok (.aload_n 0, 1) := by decide +kernel
theorem dX9_run_76 : decode cX9_run 76 = .ok (.getfield 51, 3) := by decide +kernel
theorem dX9_run_79 : decode cX9_run 79 = .ok (.iload_n 1, 1) := by decide +kernel
theorem dX9_run_80 : decode cX9_run 80 = .ok (.invokevirtual 186, 3) := by decide +kernel
theorem dX9_run_83 : decode cX9_run 83 = .ok (.istore_n 2, 1) := by decide +kernel
theorem dX9_run_84 : decode cX9_run 84 = .ok (.iconst 0, 1) := by decide +kernel
theorem dX9_run_85 : decode cX9_run 85 = .ok (.istore_n 3, 1) := by decide +kernel
theorem dX9_run_86 : decode cX9_run 86 = .ok (.iload_n 3, 1) := by decide +kernel
theorem dX9_run_87 : decode cX9_run 87 = .ok (.iload_n 2, 1) := by decide +kernel
theorem dX9_run_88 : decode cX9_run 88 = .ok (.if_icmp .ge 17, 3) := by decide +kernel
theorem dX9_run_91 : decode cX9_run 91 = .ok (.aload_n 0, 1) := by decide +kernel
theorem dX9_run_92 : decode cX9_run 92 = .ok (.getfield 51, 3) := by decide +kernel
theorem dX9_run_95 : decode cX9_run 95 = .ok (.iload_n 3, 1) := by decide +kernel
theorem dX9_run_96 : decode cX9_run 96 = .ok (.invokevirtual 189, 3) := by decide +kernel
theorem dX9_run_99 : decode cX9_run 99 = .ok (.iinc 3 1, 3) := by decide +kernel
theorem dX9_run_102 : decode cX9_run 102 = .ok (.goto (-16), 3) := by decide +kernel
theorem dX9_run_105 : decode cX9_run 105 = .ok (.aload_n 0, 1) := by decide +kernel
theorem dX9_run_106 : decode cX9_run 106 = .ok (.getfield 51, 3) := by decide +kernel
theorem dX9_run_109 : decode cX9_run 109 = .ok (.iload_n 2, 1) := by decide +kernel
theorem dX9_run_110 : decode cX9_run 110 = .ok (.invokevirtual 192, 3) := by decide +kernel
theorem dX9_run_113 : decode cX9_run 113 = .ok (.istore_n 3, 1) := by decide +kernel
theorem dX9_run_114 : decode cX9_run 114 = .ok (.aload_n 0, 1) := by decide +kernel
theorem dX9_run_115 : decode cX9_run 115 = .ok (.getfield 51, 3) := by decide +kernel
theorem dX9_run_118 : decode cX9_run 118 = .ok (.iload_n 3, 1) := by decide +kernel
theorem dX9_run_119 : decode cX9_run 119 = .ok (.invokevirtual 195, 3) := by decide +kernel
theorem dX9_run_122 : decode cX9_run 122 = .ok (.aload_n 0, 1) := by decide +kernel
theorem dX9_run_123 : decode cX9_run 123 = .ok (.getfield 35, 3) := by decide +kernel
theorem dX9_run_126 : decode cX9_run 126 = .ok (.iload_n 3, 1) := by decide +kernel
theorem dX9_run_127 : decode cX9_run 127 = .ok (.invokevirtual 198, 3) := by decide +kernel
theorem dX9_run_130 : decode cX9_run 130 = .ok (.istore 4, 2) := by decide +kernel
theorem dX9_run_132 : decode cX9_run 132 = .ok (.aload_n 0, 1) := by decide +kernel
theorem dX9_run_133 : decode cX9_run 133 = .ok (.getfield 42, 3) := by decide +kernel
theorem dX9_run_136 : decode cX9_run 136 = .ok (.aload_n 0, 1) := by decide +kernel
theorem dX9_run_137 : decode cX9_run 137 = .ok (.getfield 51, 3) := by decide +kernel
theorem dX9_run_140 : decode cX9_run 140 = .ok (.getfield 201, 3) := by decide +kernel
theorem dX9_run_143 : decode cX9_run 143 = .ok (.iload 4, 2) := by decide +kernel
theorem dX9_run_145 : decode cX9_run 145 = .ok (.aload_n 0, 1) := by decide +kernel
theorem dX9_run_146 : decode cX9_run 146 = .ok (.getfield 35, 3) := by decide +kernel
theorem dX9_run_149 : decode cX9_run 149 = .ok (.getfield 169, 3) := by decide +kernel
theorem dX9_run_152 : decode cX9_run 152 = .ok (.invokevirtual 205, 3) := by decide +kernel
theorem dX9_run_155 : decode cX9_run 155 = .ok (.iload 4, 2) := by decide +kernel
theorem dX9_run_157 : decode cX9_run 157 = .ok (.ireturn, 1) := by decide +kernel
theorem dX9_kind_0 : decode cX9_kind 0 = .ok (.aload_n 0, 1) := by decide +kernel
theorem dX9_kind_1 : decode cX9_kind 1 = .ok (.getfield 42, 3) := by decide +kernel
theorem dX9_kind_4 : decode cX9_kind 4 = .ok (.iload_n 1, 1) := by decide +kernel
theorem dX9_kind_5 : decode cX9_kind 5 = .ok (.iload_n 2, 1) := by decide +kernel
theorem dX9_kind_6 : decode cX9_kind 6 = .ok (.invokevirtual 209, 3) := by decide +kernel
theorem dX9_kind_9 : decode cX9_kind 9 = .ok (.ifCond .eq 26, 3) := by decide +kernel
theorem dX9_kind_12 : decode cX9_kind 12 = .ok (.aload_n 0, 1) := by decide +kernel
theorem dX9_kind_13 : decode cX9_kind 13 = .ok (.getfield 42, 3) := by decide +kernel
theorem dX9_kind_16 : decode cX9_kind 16 = .ok (.getfield 211, 3) := by decide +kernel
theorem dX9_kind_19 : decode cX9_kind 19 = .ok (.getfield 85, 3) := by decide +kernel
theorem dX9_kind_22 : decode cX9_kind 22 = .ok (.aload_n 0, 1) := by decide +kernel
theorem dX9_kind_23 : decode cX9_kind 23 = .ok (.getfield 42, 3) := by decide +kernel
theorem dX9_kind_26 : decode cX9_kind 26 = .ok (.iload_n 1, 1) := by decide +kernel
theorem dX9_kind_27 : decode cX9_kind 27 = .ok (.iload_n 2, 1) := by decide +kernel
theorem dX9_kind_28 : decode cX9_kind 28 = .ok (.invokevirtual 214, 3) := by decide +kernel
theorem dX9_kind_31 : decode cX9_kind 31 = .ok (.iaload, 1) := by decide +kernel
theorem dX9_kind_32 : decode cX9_kind 32 = .ok (.goto 4, 3) := by decide +kernel
theorem dX9_kind_35 : decode cX9_kind 35 = .ok (.iconst (-1), 1) := by decide +kernel
theorem dX9_kind_36 : decode cX9_kind 36 = .ok (.ireturn, 1) := by decide +kernel
theorem dX9_value_0 : decode cX9_value 0 = .ok (.aload_n 0, 1) := by decide +kernel
theorem dX9_value_1 : decode cX9_value 1 = .ok (.getfield 42, 3) := by decide +kernel
theorem dX9_value_4 : decode cX9_value 4 = .ok (.iload_n 1, 1) := by decide +kernel
theorem dX9_value_5 : decode cX9_value 5 = .ok (.iload_n 2, 1) := by decide +kernel
theorem dX9_value_6 : decode cX9_value 6 = .ok (.invokevirtual 209, 3) := by decide +kernel
theorem dX9_value_9 : decode cX9_value 9 = .ok (.ifCond .ne 5, 3) := by decide +kernel
theorem dX9_value_12 : decode cX9_value 12 = .ok (.lconst 0, 1) := by decide +kernel
theorem dX9_value_13 : decode cX9_value 13 = .ok (.lreturn, 1) := by decide +kernel
theorem dX9_value_14 : decode cX9_value 14 = .ok (.aload_n 0, 1) := by decide +kernel
theorem dX9_value_15 : decode cX9_value 15 = .ok (.getfield 42, 3) := by decide +kernel
theorem dX9_value_18 : decode cX9_value 18 = .ok (.iload_n 1, 1) := by decide +kernel
theorem dX9_value_19 : decode cX9_value 19 = .ok (.iload_n 2, 1) := by decide +kernel
theorem dX9_value_20 : decode cX9_value 20 = .ok (.invokevirtual 214, 3) := by decide +kernel
theorem dX9_value_23 : decode cX9_value 23 = .ok (.istore_n 3, 1) := by decide +kernel
theorem dX9_value_24 : decode cX9_value 24 = .ok (.aload_n 0, 1) := by decide +kernel
theorem dX9_value_25 : decode cX9_value 25 = .ok (.getfield 42, 3) := by decide +kernel
theorem dX9_value_28 : decode cX9_value 28 = .ok (.getfield 211, 3) := by decide +kernel
theorem dX9_value_31 : decode cX9_value 31 = .ok (.getfield 85, 3) := by decide +kernel
theorem dX9_value_34 : decode cX9_value 34 = .ok (.iload_n 3, 1) := by decide +kernel
theorem dX9_value_35 : decode cX9_value 35 = .ok (.iaload, 1) := by decide +kernel
theorem dX9_value_36 : decode cX9_value 36 = .ok (.lookupswitch 43 #[(0, 28), (2, 30)], 28) := by decide +kernel
theorem dX9_value_64 : decode cX9_value 64 = .ok (.lconst 0, 1) := by decide +kernel
theorem dX9_value_65 : decode cX9_value 65 = .ok (.lreturn, 1) := by decide +kernel
theorem dX9_value_66 : decode cX9_value 66 = .ok (.aload_n 0, 1) := by decide +kernel
theorem dX9_value_67 : decode cX9_value 67 = .ok (.getfield 42, 3) := by decide +kernel
theorem dX9_value_70 : decode cX9_value 70 = .ok (.getfield 211, 3) := by decide +kernel
theorem dX9_value_73 : decode cX9_value 73 = .ok (.iload_n 3, 1) := by decide +kernel
theorem dX9_value_74 : decode cX9_value 74 = .ok (.invokevirtual 89, 3) := by decide +kernel
theorem dX9_value_77 : decode cX9_value 77 = .ok (.i2l, 1) := by decide +kernel
theorem dX9_value_78 : decode cX9_value 78 = .ok (.lreturn, 1) := by decide +kernel
theorem dX9_value_79 : decode cX9_value 79 = .ok (.aload_n 0, 1) := by decide +kernel
theorem dX9_value_80 : decode cX9_value 80 = .ok (.getfield 42, 3) := by decide +kernel
theorem dX9_value_83 : decode cX9_value 83 = .ok (.getfield 211, 3) := by decide +kernel
theorem dX9_value_86 : decode cX9_value 86 = .ok (.iload_n 3, 1) := by decide +kernel
theorem dX9_value_87 : decode cX9_value 87 = .ok (.invokevirtual 217, 3) := by decide +kernel
theorem dX9_value_90 : decode cX9_value 90 = .ok (.lreturn, 1) := by decide +kernel
theorem dX9_letter_0 : decode cX9_letter 0 = .ok (.aload_n 0, 1) := by decide +kernel
theorem dX9_letter_1 : decode cX9_letter 1 = .ok (.getfield 42, 3) := by decide +kernel
theorem dX9_letter_4 : decode cX9_letter 4 = .ok (.iload_n 1, 1) := by decide +kernel
theorem dX9_letter_5 : decode cX9_letter 5 = .ok (.iload_n 2, 1) := by decide +kernel
theorem dX9_letter_6 : decode cX9_letter 6 = .ok (.invokevirtual 209, 3) := by decide +kernel
theorem dX9_letter_9 : decode cX9_letter 9 = .ok (.ifCond .ne 5, 3) := by decide +kernel
theorem dX9_letter_12 : decode cX9_letter 12 = .ok (.iconst (-1), 1) := by decide +kernel
theorem dX9_letter_13 : decode cX9_letter 13 = .ok (.ireturn, 1) := by decide +kernel
theorem dX9_letter_14 : decode cX9_letter 14 = .ok (.aload_n 0, 1) := by decide +kernel
theorem dX9_letter_15 : decode cX9_letter 15 = .ok (.getfield 42, 3) := by decide +kernel
theorem dX9_letter_18 : decode cX9_letter 18 = .ok (.iload_n 1, 1) := by decide +kernel
theorem dX9_letter_19 : decode cX9_letter 19 = .ok (.iload_n 2, 1) := by decide +kernel
theorem dX9_letter_20 : decode cX9_letter 20 = .ok (.invokevirtual 214, 3) := by decide +kernel
theorem dX9_letter_23 : decode cX9_letter 23 = .ok (.istore 4, 2) := by decide +kernel
theorem dX9_letter_25 : decode cX9_letter 25 = .ok (.aload_n 0, 1) := by decide +kernel
theorem dX9_letter_26 : decode cX9_letter 26 = .ok (.getfield 42, 3) := by decide +kernel
theorem dX9_letter_29 : decode cX9_letter 29 = .ok (.getfield 211, 3) := by decide +kernel
theorem dX9_letter_32 : decode cX9_letter 32 = .ok (.getfield 85, 3) := by decide +kernel
theorem dX9_letter_35 : decode cX9_letter 35 = .ok (.iload 4, 2) := by decide +kernel
theorem dX9_letter_37 : decode cX9_letter 37 = .ok (.iaload, 1) := by decide +kernel
theorem dX9_letter_38 : decode cX9_letter 38 = .ok (.iconst 2, 1) := by decide +kernel
theorem dX9_letter_39 : decode cX9_letter 39 = .ok (.if_icmp .ne 23, 3) := by decide +kernel
theorem dX9_letter_42 : decode cX9_letter 42 = .ok (.iload_n 3, 1) := by decide +kernel
theorem dX9_letter_43 : decode cX9_letter 43 = .ok (.ifCond .lt 19, 3) := by decide +kernel
theorem dX9_letter_46 : decode cX9_letter 46 = .ok (.iload_n 3, 1) := by decide +kernel
theorem dX9_letter_47 : decode cX9_letter 47 = .ok (.aload_n 0, 1) := by decide +kernel
theorem dX9_letter_48 : decode cX9_letter 48 = .ok (.getfield 42, 3) := by decide +kernel
theorem dX9_letter_51 : decode cX9_letter 51 = .ok (.getfield 211, 3) := by decide +kernel
theorem dX9_letter_54 : decode cX9_letter 54 = .ok (.iload 4, 2) := by decide +kernel
theorem dX9_letter_56 : decode cX9_letter 56 = .ok (.invokevirtual 89, 3) := by decide +kernel
theorem dX9_letter_59 : decode cX9_letter 59 = .ok (.if_icmp .lt 5, 3) := by decide +kernel
theorem dX9_letter_62 : decode cX9_letter 62 = .ok (.iconst (-1), 1) := by decide +kernel
theorem dX9_letter_63 : decode cX9_letter 63 = .ok (.ireturn, 1) := by decide +kernel
theorem dX9_letter_64 : decode cX9_letter 64 = .ok (.aload_n 0, 1) := by decide +kernel
theorem dX9_letter_65 : decode cX9_letter 65 = .ok (.getfield 42, 3) := by decide +kernel
theorem dX9_letter_68 : decode cX9_letter 68 = .ok (.getfield 211, 3) := by decide +kernel
theorem dX9_letter_71 : decode cX9_letter 71 = .ok (.iload 4, 2) := by decide +kernel
theorem dX9_letter_73 : decode cX9_letter 73 = .ok (.iload_n 3, 1) := by decide +kernel
theorem dX9_letter_74 : decode cX9_letter 74 = .ok (.invokevirtual 221, 3) := by decide +kernel
theorem dX9_letter_77 : decode cX9_letter 77 = .ok (.ireturn, 1) := by decide +kernel
theorem dX9_isCell_0 : decode cX9_isCell 0 = .ok (.iload_n 0, 1) := by decide +kernel
theorem dX9_isCell_1 : decode cX9_isCell 1 = .ok (.ifCond .lt 13, 3) := by decide +kernel
theorem dX9_isCell_4 : decode cX9_isCell 4 = .ok (.iload_n 0, 1) := by decide +kernel
theorem dX9_isCell_5 : decode cX9_isCell 5 = .ok (.bipush 8, 2) := by decide +kernel
theorem dX9_isCell_7 : decode cX9_isCell 7 = .ok (.if_icmp .ge 7, 3) := by decide +kernel
theorem dX9_isCell_10 : decode cX9_isCell 10 = .ok (.iconst 1, 1) := by decide +kernel
theorem dX9_isCell_11 : decode cX9_isCell 11 = .ok (.goto 4, 3) := by decide +kernel
theorem dX9_isCell_14 : decode cX9_isCell 14 = .ok (.iconst 0, 1) := by decide +kernel
theorem dX9_isCell_15 : decode cX9_isCell 15 = .ok (.ireturn, 1) := by decide +kernel
theorem dJ9_floorMod_f86c9_0 : decode cJ9_floorMod_f86c9 0 = .ok (.lload_n 0, 1) := by decide +kernel
theorem dJ9_floorMod_f86c9_1 : decode cJ9_floorMod_f86c9 1 = .ok (.lload_n 2, 1) := by decide +kernel
theorem dJ9_floorMod_f86c9_2 : decode cJ9_floorMod_f86c9 2 = .ok (.lrem, 1) := by decide +kernel
theorem dJ9_floorMod_f86c9_3 : decode cJ9_floorMod_f86c9 3 = .ok (.lstore 4, 2) := by decide +kernel
theorem dJ9_floorMod_f86c9_5 : decode cJ9_floorMod_f86c9 5 = .ok (.lload_n 0, 1) := by decide +kernel
theorem dJ9_floorMod_f86c9_6 : decode cJ9_floorMod_f86c9 6 = .ok (.lload_n 2, 1) := by decide +kernel
theorem dJ9_floorMod_f86c9_7 : decode cJ9_floorMod_f86c9 7 = .ok (.lxor, 1) := by decide +kernel
theorem dJ9_floorMod_f86c9_8 : decode cJ9_floorMod_f86c9 8 = .ok (.lconst 0, 1) := by decide +kernel
theorem dJ9_floorMod_f86c9_9 : decode cJ9_floorMod_f86c9 9 = .ok (.lcmp, 1) := by decide +kernel
theorem dJ9_floorMod_f86c9_10 : decode cJ9_floorMod_f86c9 10 = .ok (.ifCond .ge 15, 3) := by decide +kernel
theorem dJ9_floorMod_f86c9_13 : decode cJ9_floorMod_f86c9 13 = .ok (.lload 4, 2) := by decide +kernel
theorem dJ9_floorMod_f86c9_15 : decode cJ9_floorMod_f86c9 15 = .ok (.lconst 0, 1) := by decide +kernel
theorem dJ9_floorMod_f86c9_16 : decode cJ9_floorMod_f86c9 16 = .ok (.lcmp, 1) := by decide +kernel
theorem dJ9_floorMod_f86c9_17 : decode cJ9_floorMod_f86c9 17 = .ok (.ifCond .eq 8, 3) := by decide +kernel
theorem dJ9_floorMod_f86c9_20 : decode cJ9_floorMod_f86c9 20 = .ok (.lload 4, 2) := by decide +kernel
theorem dJ9_floorMod_f86c9_22 : decode cJ9_floorMod_f86c9 22 = .ok (.lload_n 2, 1) := by decide +kernel
theorem dJ9_floorMod_f86c9_23 : decode cJ9_floorMod_f86c9 23 = .ok (.ladd, 1) := by decide +kernel
theorem dJ9_floorMod_f86c9_24 : decode cJ9_floorMod_f86c9 24 = .ok (.lreturn, 1) := by decide +kernel
theorem dJ9_floorMod_f86c9_25 : decode cJ9_floorMod_f86c9 25 = .ok (.lload 4, 2) := by decide +kernel
theorem dJ9_floorMod_f86c9_27 : decode cJ9_floorMod_f86c9 27 = .ok (.lreturn, 1) := by decide +kernel
theorem dJ9_max_7cf53_0 : decode cJ9_max_7cf53 0 = .ok (.iload_n 0, 1) := by decide +kernel
theorem dJ9_max_7cf53_1 : decode cJ9_max_7cf53 1 = .ok (.iload_n 1, 1) := by decide +kernel
theorem dJ9_max_7cf53_2 : decode cJ9_max_7cf53 2 = .ok (.if_icmp .lt 7, 3) := by decide +kernel
theorem dJ9_max_7cf53_5 : decode cJ9_max_7cf53 5 = .ok (.iload_n 0, 1) := by decide +kernel
theorem dJ9_max_7cf53_6 : decode cJ9_max_7cf53 6 = .ok (.goto 4, 3) := by decide +kernel
theorem dJ9_max_7cf53_9 : decode cJ9_max_7cf53 9 = .ok (.iload_n 1, 1) := by decide +kernel
theorem dJ9_max_7cf53_10 : decode cJ9_max_7cf53 10 = .ok (.ireturn, 1) := by decide +kernel
theorem dJ9_min_7cf53_0 : decode cJ9_min_7cf53 0 = .ok (.iload_n 0, 1) := by decide +kernel
theorem dJ9_min_7cf53_1 : decode cJ9_min_7cf53 1 = .ok (.iload_n 1, 1) := by decide +kernel
theorem dJ9_min_7cf53_2 : decode cJ9_min_7cf53 2 = .ok (.if_icmp .gt 7, 3) := by decide +kernel
theorem dJ9_min_7cf53_5 : decode cJ9_min_7cf53 5 = .ok (.iload_n 0, 1) := by decide +kernel
theorem dJ9_min_7cf53_6 : decode cJ9_min_7cf53 6 = .ok (.goto 4, 3) := by decide +kernel
theorem dJ9_min_7cf53_9 : decode cJ9_min_7cf53 9 = .ok (.iload_n 1, 1) := by decide +kernel
theorem dJ9_min_7cf53_10 : decode cJ9_min_7cf53 10 = .ok (.ireturn, 1) := by decide +kernel
theorem dJ7_fill_53178_0 : decode cJ7_fill_53178 0 = .ok (.iconst 0, 1) := by decide +kernel
theorem dJ7_fill_53178_1 : decode cJ7_fill_53178 1 = .ok (.istore_n 2, 1) := by decide +kernel
theorem dJ7_fill_53178_2 : decode cJ7_fill_53178 2 = .ok (.aload_n 0, 1) := by decide +kernel
theorem dJ7_fill_53178_3 : decode cJ7_fill_53178 3 = .ok (.arraylength, 1) := by decide +kernel
theorem dJ7_fill_53178_4 : decode cJ7_fill_53178 4 = .ok (.istore_n 3, 1) := by decide +kernel
theorem dJ7_fill_53178_5 : decode cJ7_fill_53178 5 = .ok (.iload_n 2, 1) := by decide +kernel
theorem dJ7_fill_53178_6 : decode cJ7_fill_53178 6 = .ok (.iload_n 3, 1) := by decide +kernel
theorem dJ7_fill_53178_7 : decode cJ7_fill_53178 7 = .ok (.if_icmp .ge 13, 3) := by decide +kernel
theorem dJ7_fill_53178_10 : decode cJ7_fill_53178 10 = .ok (.aload_n 0, 1) := by decide +kernel
theorem dJ7_fill_53178_11 : decode cJ7_fill_53178 11 = .ok (.iload_n 2, 1) := by decide +kernel
theorem dJ7_fill_53178_12 : decode cJ7_fill_53178 12 = .ok (.iload_n 1, 1) := by decide +kernel
theorem dJ7_fill_53178_13 : decode cJ7_fill_53178 13 = .ok (.iastore, 1) := by decide +kernel
theorem dJ7_fill_53178_14 : decode cJ7_fill_53178 14 = .ok (.iinc 2 1, 3) := by decide +kernel
theorem dJ7_fill_53178_17 : decode cJ7_fill_53178 17 = .ok (.goto (-12), 3) := by decide +kernel
theorem dJ7_fill_53178_20 : decode cJ7_fill_53178 20 = .ok (.return_, 1) := by decide +kernel
