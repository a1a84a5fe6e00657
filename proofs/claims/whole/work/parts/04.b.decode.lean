theorem dX7_init_0 : decode cX7_init 0 = .ok (.aload_n 0, 1) := by decide +kernel
theorem dX7_init_1 : decode cX7_init 1 = .ok (.invokespecial 3, 3) := by decide +kernel
theorem dX7_init_4 : decode cX7_init 4 = .ok (.aload_n 0, 1) := by decide +kernel
theorem dX7_init_5 : decode cX7_init 5 = .ok (.iconst 1, 1) := by decide +kernel
theorem dX7_init_6 : decode cX7_init 6 = .ok (.putfield 9, 3) := by decide +kernel
theorem dX7_init_9 : decode cX7_init 9 = .ok (.aload_n 0, 1) := by decide +kernel
theorem dX7_init_10 : decode cX7_init 10 = .ok (.iconst 0, 1) := by decide +kernel
theorem dX7_init_11 : decode cX7_init 11 = .ok (.putfield 15, 3) := by decide +kernel
theorem dX7_init_14 : decode cX7_init 14 = .ok (.aload_n 0, 1) := by decide +kernel
theorem dX7_init_15 : decode cX7_init 15 = .ok (.iconst (-1), 1) := by decide +kernel
theorem dX7_init_16 : decode cX7_init 16 = .ok (.putfield 19, 3) := by decide +kernel
theorem dX7_init_19 : decode cX7_init 19 = .ok (.return_, 1) := by decide +kernel
theorem dX7_pick_0 : decode cX7_pick 0 = .ok (.aload_n 0, 1) := by decide +kernel
theorem dX7_pick_1 : decode cX7_pick 1 = .ok (.iload_n 2, 1) := by decide +kernel
theorem dX7_pick_2 : decode cX7_pick 2 = .ok (.ifCond .ne 7, 3) := by decide +kernel
theorem dX7_pick_5 : decode cX7_pick 5 = .ok (.iconst 1, 1) := by decide +kernel
theorem dX7_pick_6 : decode cX7_pick 6 = .ok (.goto 4, 3) := by decide +kernel
theorem dX7_pick_9 : decode cX7_pick 9 = .ok (.iconst 0, 1) := by decide +kernel
theorem dX7_pick_10 : decode cX7_pick 10 = .ok (.putfield 9, 3) := by decide +kernel
theorem dX7_pick_13 : decode cX7_pick 13 = .ok (.aload_n 0, 1) := by decide +kernel
theorem dX7_pick_14 : decode cX7_pick 14 = .ok (.iload_n 3, 1) := by decide +kernel
theorem dX7_pick_15 : decode cX7_pick 15 = .ok (.putfield 15, 3) := by decide +kernel
theorem dX7_pick_18 : decode cX7_pick 18 = .ok (.aload_n 0, 1) := by decide +kernel
theorem dX7_pick_19 : decode cX7_pick 19 = .ok (.iconst (-1), 1) := by decide +kernel
theorem dX7_pick_20 : decode cX7_pick 20 = .ok (.putfield 19, 3) := by decide +kernel
theorem dX7_pick_23 : decode cX7_pick 23 = .ok (.iconst 0, 1) := by decide +kernel
theorem dX7_pick_24 : decode cX7_pick 24 = .ok (.istore 4, 2) := by decide +kernel
theorem dX7_pick_26 : decode cX7_pick 26 = .ok (.iload 4, 2) := by decide +kernel
theorem dX7_pick_28 : decode cX7_pick 28 = .ok (.aload_n 1, 1) := by decide +kernel
theorem dX7_pick_29 : decode cX7_pick 29 = .ok (.getfield 22, 3) := by decide +kernel
theorem dX7_pick_32 : decode cX7_pick 32 = .ok (.if_icmp .ge 49, 3) := by decide +kernel
theorem dX7_pick_35 : decode cX7_pick 35 = .ok (.aload_n 0, 1) := by decide +kernel
theorem dX7_pick_36 : decode cX7_pick 36 = .ok (.getfield 19, 3) := by decide +kernel
theorem dX7_pick_39 : decode cX7_pick 39 = .ok (.iconst (-1), 1) := by decide +kernel
theorem dX7_pick_40 : decode cX7_pick 40 = .ok (.if_icmp .ne 41, 3) := by decide +kernel
theorem dX7_pick_43 : decode cX7_pick 43 = .ok (.aload_n 0, 1) := by decide +kernel
theorem dX7_pick_44 : decode cX7_pick 44 = .ok (.getfield 9, 3) := by decide +kernel
theorem dX7_pick_47 : decode cX7_pick 47 = .ok (.ifCond .eq 17, 3) := by decide +kernel
theorem dX7_pick_50 : decode cX7_pick 50 = .ok (.aload_n 0, 1) := by decide +kernel
theorem dX7_pick_51 : decode cX7_pick 51 = .ok (.aload_n 1, 1) := by decide +kernel
theorem dX7_pick_52 : decode cX7_pick 52 = .ok (.getfield 27, 3) := by decide +kernel
theorem dX7_pick_55 : decode cX7_pick 55 = .ok (.iload 4, 2) := by decide +kernel
theorem dX7_pick_57 : decode cX7_pick 57 = .ok (.aaload, 1) := by decide +kernel
theorem dX7_pick_58 : decode cX7_pick 58 = .ok (.invokevirtual 31, 3) := by decide +kernel
theorem dX7_pick_61 : decode cX7_pick 61 = .ok (.goto 14, 3) := by decide +kernel
theorem dX7_pick_64 : decode cX7_pick 64 = .ok (.aload_n 0, 1) := by decide +kernel
theorem dX7_pick_65 : decode cX7_pick 65 = .ok (.aload_n 1, 1) := by decide +kernel
theorem dX7_pick_66 : decode cX7_pick 66 = .ok (.getfield 27, 3) := by decide +kernel
theorem dX7_pick_69 : decode cX7_pick 69 = .ok (.iload 4, 2) := by decide +kernel
theorem dX7_pick_71 : decode cX7_pick 71 = .ok (.aaload, 1) := by decide +kernel
theorem dX7_pick_72 : decode cX7_pick 72 = .ok (.invokevirtual 35, 3) := by decide +kernel
theorem dX7_pick_75 : decode cX7_pick 75 = .ok (.iinc 4 1, 3) := by decide +kernel
theorem dX7_pick_78 : decode cX7_pick 78 = .ok (.goto (-52), 3) := by decide +kernel
theorem dX7_pick_81 : decode cX7_pick 81 = .ok (.aload_n 0, 1) := by decide +kernel
theorem dX7_pick_82 : decode cX7_pick 82 = .ok (.getfield 19, 3) := by decide +kernel
theorem dX7_pick_85 : decode cX7_pick 85 = .ok (.ireturn, 1) := by decide +kernel
theorem dX7_put_0 : decode cX7_put 0 = .ok (.aload_n 0, 1) := by decide +kernel
theorem dX7_put_1 : decode cX7_put 1 = .ok (.getfield 15, 3) := by decide +kernel
theorem dX7_put_4 : decode cX7_put 4 = .ok (.ifCond .ne 8, 3) := by decide +kernel
theorem dX7_put_7 : decode cX7_put 7 = .ok (.aload_n 0, 1) := by decide +kernel
theorem dX7_put_8 : decode cX7_put 8 = .ok (.iload_n 1, 1) := by decide +kernel
theorem dX7_put_9 : decode cX7_put 9 = .ok (.putfield 19, 3) := by decide +kernel
theorem dX7_put_12 : decode cX7_put 12 = .ok (.aload_n 0, 1) := by decide +kernel
theorem dX7_put_13 : decode cX7_put 13 = .ok (.dup, 1) := by decide +kernel
theorem dX7_put_14 : decode cX7_put 14 = .ok (.getfield 15, 3) := by decide +kernel
theorem dX7_put_17 : decode cX7_put 17 = .ok (.iconst 1, 1) := by decide +kernel
theorem dX7_put_18 : decode cX7_put 18 = .ok (.isub, 1) := by decide +kernel
theorem dX7_put_19 : decode cX7_put 19 = .ok (.putfield 15, 3) := by decide +kernel
theorem dX7_put_22 : decode cX7_put 22 = .ok (.return_, 1) := by decide +kernel
theorem dX7_putDigit_0 : decode cX7_putDigit 0 = .ok (.aload_n 0, 1) := by decide +kernel
theorem dX7_putDigit_1 : decode cX7_putDigit 1 = .ok (.bipush 48, 2) := by decide +kernel
theorem dX7_putDigit_3 : decode cX7_putDigit 3 = .ok (.iload_n 1, 1) := by decide +kernel
theorem dX7_putDigit_4 : decode cX7_putDigit 4 = .ok (.iadd, 1) := by decide +kernel
theorem dX7_putDigit_5 : decode cX7_putDigit 5 = .ok (.i2c, 1) := by decide +kernel
theorem dX7_putDigit_6 : decode cX7_putDigit 6 = .ok (.invokevirtual 38, 3) := by decide +kernel
theorem dX7_putDigit_9 : decode cX7_putDigit 9 = .ok (.return_, 1) := by decide +kernel
theorem dX7_putText_0 : decode cX7_putText 0 = .ok (.iconst 0, 1) := by decide +kernel
theorem dX7_putText_1 : decode cX7_putText 1 = .ok (.istore_n 2, 1) := by decide +kernel
theorem dX7_putText_2 : decode cX7_putText 2 = .ok (.iload_n 2, 1) := by decide +kernel
theorem dX7_putText_3 : decode cX7_putText 3 = .ok (.aload_n 1, 1) := by decide +kernel
theorem dX7_putText_4 : decode cX7_putText 4 = .ok (.invokevirtual 42, 3) := by decide +kernel
theorem dX7_putText_7 : decode cX7_putText 7 = .ok (.if_icmp .ge 18, 3) := by decide +kernel
theorem dX7_putText_10 : decode cX7_putText 10 = .ok (.aload_n 0, 1) := by decide +kernel
theorem dX7_putText_11 : decode cX7_putText 11 = .ok (.aload_n 1, 1) := by decide +kernel
theorem dX7_putText_12 : decode cX7_putText 12 = .ok (.iload_n 2, 1) := by decide +kernel
theorem dX7_putText_13 : decode cX7_putText 13 = .ok (.invokevirtual 48, 3) := by decide +kernel
theorem dX7_putText_16 : decode cX7_putText 16 = .ok (.invokevirtual 38, 3) := by decide +kernel
theorem dX7_putText_19 : decode cX7_putText 19 = .ok (.iinc 2 1, 3) := by decide +kernel
theorem dX7_putText_22 : decode cX7_putText 22 = .ok (.goto (-20), 3) := by decide +kernel
theorem dX7_putText_25 : decode cX7_putText 25 = .ok (.return_, 1) := by decide +kernel
theorem dX7_putName_0 : decode cX7_putName 0 = .ok (.iconst 0, 1) := by decide +kernel
theorem dX7_putName_1 : decode cX7_putName 1 = .ok (.istore_n 3, 1) := by decide +kernel
theorem dX7_putName_2 : decode cX7_putName 2 = .ok (.iload_n 3, 1) := by decide +kernel
theorem dX7_putName_3 : decode cX7_putName 3 = .ok (.bipush 8, 2) := by decide +kernel
theorem dX7_putName_5 : decode cX7_putName 5 = .ok (.if_icmp .ge 27, 3) := by decide +kernel
theorem dX7_putName_8 : decode cX7_putName 8 = .ok (.lload_n 1, 1) := by decide +kernel
theorem dX7_putName_9 : decode cX7_putName 9 = .ok (.iload_n 3, 1) := by decide +kernel
theorem dX7_putName_10 : decode cX7_putName 10 = .ok (.invokestatic 54, 3) := by decide +kernel
theorem dX7_putName_13 : decode cX7_putName 13 = .ok (.ifCond .eq 19, 3) := by decide +kernel
theorem dX7_putName_16 : decode cX7_putName 16 = .ok (.aload_n 0, 1) := by decide +kernel
theorem dX7_putName_17 : decode cX7_putName 17 = .ok (.lload_n 1, 1) := by decide +kernel
theorem dX7_putName_18 : decode cX7_putName 18 = .ok (.iload_n 3, 1) := by decide +kernel
theorem dX7_putName_19 : decode cX7_putName 19 = .ok (.invokestatic 54, 3) := by decide +kernel
theorem dX7_putName_22 : decode cX7_putName 22 = .ok (.i2c, 1) := by decide +kernel
theorem dX7_putName_23 : decode cX7_putName 23 = .ok (.invokevirtual 38, 3) := by decide +kernel
theorem dX7_putName_26 : decode cX7_putName 26 = .ok (.iinc 3 1, 3) := by decide +kernel
theorem dX7_putName_29 : decode cX7_putName 29 = .ok (.goto (-27), 3) := by decide +kernel
theorem dX7_putName_32 : decode cX7_putName 32 = .ok (.return_, 1) := by decide +kernel
theorem dX7_printLong_0 : decode cX7_printLong 0 = .ok (.aload_n 0, 1) := by decide +kernel
theorem dX7_printLong_1 : decode cX7_printLong 1 = .ok (.ldc 58, 2) := by decide +kernel
theorem dX7_printLong_3 : decode cX7_printLong 3 = .ok (.invokevirtual 60, 3) := by decide +kernel
theorem dX7_printLong_6 : decode cX7_printLong 6 = .ok (.aload_n 0, 1) := by decide +kernel
theorem dX7_printLong_7 : decode cX7_printLong 7 = .ok (.aload_n 1, 1) := by decide +kernel
theorem dX7_printLong_8 : decode cX7_printLong 8 = .ok (.getfield 64, 3) := by decide +kernel
theorem dX7_printLong_11 : decode cX7_printLong 11 = .ok (.invokevirtual 70, 3) := by decide +kernel
theorem dX7_printLong_14 : decode cX7_printLong 14 = .ok (.aload_n 0, 1) := by decide +kernel
theorem dX7_printLong_15 : decode cX7_printLong 15 = .ok (.bipush 40, 2) := by decide +kernel
theorem dX7_printLong_17 : decode cX7_printLong 17 = .ok (.invokevirtual 38, 3) := by decide +kernel
theorem dX7_printLong_20 : decode cX7_printLong 20 = .ok (.iconst 0, 1) := by decide +kernel
theorem dX7_printLong_21 : decode cX7_printLong 21 = .ok (.istore_n 2, 1) := by decide +kernel
theorem dX7_printLong_22 : decode cX7_printLong 22 = .ok (.iload_n 2, 1) := by decide +kernel
theorem dX7_printLong_23 : decode cX7_printLong 23 = .ok (.aload_n 1, 1) := by decide +kernel
theorem dX7_printLong_24 : decode cX7_printLong 24 = .ok (.getfield 74, 3) := by decide +kernel
theorem dX7_printLong_27 : decode cX7_printLong 27 = .ok (.if_icmp .ge 37, 3) := by decide +kernel
theorem dX7_printLong_30 : decode cX7_printLong 30 = .ok (.aload_n 0, 1) := by decide +kernel
theorem dX7_printLong_31 : decode cX7_printLong 31 = .ok (.iload_n 2, 1) := by decide +kernel
theorem dX7_printLong_32 : decode cX7_printLong 32 = .ok (.ifCond .ne 8, 3) := by decide +kernel
theorem dX7_printLong_35 : decode cX7_printLong 35 = .ok (.ldc 77, 2) := by decide +kernel
theorem dX7_printLong_37 : decode cX7_printLong 37 = .ok (.goto 5, 3) := by decide +kernel
theorem dX7_printLong_40 : decode cX7_printLong 40 = .ok (.ldc 79, 2) := by decide +kernel
theorem dX7_printLong_42 : decode cX7_printLong 42 = .ok (.invokevirtual 60, 3) := by decide +kernel
theorem dX7_printLong_45 : decode cX7_printLong 45 = .ok (.aload_n 0, 1) := by decide +kernel
theorem dX7_printLong_46 : decode cX7_printLong 46 = .ok (.aload_n 1, 1) := by decide +kernel
theorem dX7_printLong_47 : decode cX7_printLong 47 = .ok (.getfield 81, 3) := by decide +kernel
theorem dX7_printLong_50 : decode cX7_printLong 50 = .ok (.iload_n 2, 1) := by decide +kernel
theorem dX7_printLong_51 : decode cX7_printLong 51 = .ok (.aaload, 1) := by decide +kernel
theorem dX7_printLong_52 : decode cX7_printLong 52 = .ok (.getfield 85, 3) := by decide +kernel
theorem dX7_printLong_55 : decode cX7_printLong 55 = .ok (.invokevirtual 70, 3) := by decide +kernel
theorem dX7_printLong_58 : decode cX7_printLong 58 = .ok (.iinc 2 1, 3) := by decide +kernel
theorem dX7_printLong_61 : decode cX7_printLong 61 = .ok (.goto (-39), 3) := by decide +kernel
theorem dX7_printLong_64 : decode cX7_printLong 64 = .ok (.aload_n 0, 1) := by decide +kernel
theorem dX7_printLong_65 : decode cX7_printLong 65 = .ok (.ldc 88, 2) := by decide +kernel
theorem dX7_printLong_67 : decode cX7_printLong 67 = .ok (.invokevirtual 60, 3) := by decide +kernel
theorem dX7_printLong_70 : decode cX7_printLong 70 = .ok (.iconst 0, 1) := by decide +kernel
theorem dX7_printLong_71 : decode cX7_printLong 71 = .ok (.istore_n 2, 1) := by decide +kernel
theorem dX7_printLong_72 : decode cX7_printLong 72 = .ok (.iload_n 2, 1) := by decide +kernel
theorem dX7_printLong_73 : decode cX7_printLong 73 = .ok (.aload_n 1, 1) := by decide +kernel
theorem dX7_printLong_74 : decode cX7_printLong 74 = .ok (.getfield 90, 3) := by decide +kernel
theorem dX7_printLong_77 : decode cX7_printLong 77 = .ok (.if_icmp .ge 19, 3) := by decide +kernel
theorem dX7_printLong_80 : decode cX7_printLong 80 = .ok (.aload_n 0, 1) := by decide +kernel
theorem dX7_printLong_81 : decode cX7_printLong 81 = .ok (.aload_n 1, 1) := by decide +kernel
theorem dX7_printLong_82 : decode cX7_printLong 82 = .ok (.getfield 81, 3) := by decide +kernel
theorem dX7_printLong_85 : decode cX7_printLong 85 = .ok (.iload_n 2, 1) := by decide +kernel
theorem dX7_printLong_86 : decode cX7_printLong 86 = .ok (.aaload, 1) := by decide +kernel
theorem dX7_printLong_87 : decode cX7_printLong 87 = .ok (.invokevirtual 93, 3) := by decide +kernel
theorem dX7_printLong_90 : decode cX7_printLong 90 = .ok (.iinc 2 1, 3) := by decide +kernel
theorem dX7_printLong_93 : decode cX7_printLong 93 = .ok (.goto (-21), 3) := by decide +kernel
theorem dX7_printLong_96 : decode cX7_printLong 96 = .ok (.iconst 0, 1) := by decide +kernel
theorem dX7_printLong_97 : decode cX7_printLong 97 = .ok (.istore_n 2, 1) := by decide +kernel
theorem dX7_printLong_98 : decode cX7_printLong 98 = .ok (.iload_n 2, 1) := by decide +kernel
theorem dX7_printLong_99 : decode cX7_printLong 99 = .ok (.aload_n 1, 1) := by decide +kernel
theorem dX7_printLong_100 : decode cX7_printLong 100 = .ok (.getfield 97, 3) := by decide +kernel
theorem dX7_printLong_103 : decode cX7_printLong 103 = .ok (.if_icmp .ge 47, 3) := by decide +kernel
theorem dX7_printLong_106 : decode cX7_printLong 106 = .ok (.aload_n 0, 1) := by decide +kernel
theorem dX7_printLong_107 : decode cX7_printLong 107 = .ok (.ldc 100, 2) := by decide +kernel
theorem dX7_printLong_109 : decode cX7_printLong 109 = .ok (.invokevirtual 60, 3) := by decide +kernel
theorem dX7_printLong_112 : decode cX7_printLong 112 = .ok (.aload_n 0, 1) := by decide +kernel
theorem dX7_printLong_113 : decode cX7_printLong 113 = .ok (.aload_n 1, 1) := by decide +kernel
theorem dX7_printLong_114 : decode cX7_printLong 114 = .ok (.getfield 102, 3) := by decide +kernel
theorem dX7_printLong_117 : decode cX7_printLong 117 = .ok (.iload_n 2, 1) := by decide +kernel
theorem dX7_printLong_118 : decode cX7_printLong 118 = .ok (.aaload, 1) := by decide +kernel
theorem dX7_printLong_119 : decode cX7_printLong 119 = .ok (.invokevirtual 106, 3) := by decide +kernel
theorem dX7_printLong_122 : decode cX7_printLong 122 = .ok (.aload_n 0, 1) := by decide +kernel
theorem dX7_printLong_123 : decode cX7_printLong 123 = .ok (.bipush 61, 2) := by decide +kernel
theorem dX7_printLong_125 : decode cX7_printLong 125 = .ok (.invokevirtual 38, 3) := by decide +kernel
theorem dX7_printLong_128 : decode cX7_printLong 128 = .ok (.aload_n 0, 1) := by decide +kernel
theorem dX7_printLong_129 : decode cX7_printLong 129 = .ok (.aload_n 1, 1) := by decide +kernel
theorem dX7_printLong_130 : decode cX7_printLong 130 = .ok (.getfield 110, 3) := by decide +kernel
theorem dX7_printLong_133 : decode cX7_printLong 133 = .ok (.iload_n 2, 1) := by decide +kernel
theorem dX7_printLong_134 : decode cX7_printLong 134 = .ok (.aaload, 1) := by decide +kernel
theorem dX7_printLong_135 : decode cX7_printLong 135 = .ok (.invokevirtual 106, 3) := by decide +kernel
theorem dX7_printLong_138 : decode cX7_printLong 138 = .ok (.aload_n 0, 1) := by decide +kernel
theorem dX7_printLong_139 : decode cX7_printLong 139 = .ok (.ldc 113, 2) := by decide +kernel
theorem dX7_printLong_141 : decode cX7_printLong 141 = .ok (.invokevirtual 60, 3) := by decide +kernel
theorem dX7_printLong_144 : decode cX7_printLong 144 = .ok (.iinc 2 1, 3) := by decide +kernel
theorem dX7_printLong_147 : decode cX7_printLong 147 = .ok (.goto (-49), 3) := by decide +kernel
theorem dX7_printLong_150 : decode cX7_printLong 150 = .ok (.iconst 0, 1) := by decide +kernel
theorem dX7_printLong_151 : decode cX7_printLong 151 = .ok (.istore_n 2, 1) := by decide +kernel
theorem dX7_printLong_152 : decode cX7_printLong 152 = .ok (.iload_n 2, 1) := by decide +kernel
theorem dX7_printLong_153 : decode cX7_printLong 153 = .ok (.aload_n 1, 1) := by decide +kernel
theorem dX7_printLong_154 : decode cX7_printLong 154 = .ok (.getfield 115, 3) := by decide +kernel
theorem dX7_printLong_157 : decode cX7_printLong 157 = .ok (.if_icmp .ge 19, 3) := by decide +kernel
theorem dX7_printLong_160 : decode cX7_printLong 160 = .ok (.aload_n 0, 1) := by decide +kernel
theorem dX7_printLong_161 : decode cX7_printLong 161 = .ok (.aload_n 1, 1) := by decide +kernel
theorem dX7_printLong_162 : decode cX7_printLong 162 = .ok (.getfield 118, 3) := by decide +kernel
theorem dX7_printLong_165 : decode cX7_printLong 165 = .ok (.iload_n 2, 1) := by decide +kernel
theorem dX7_printLong_166 : decode cX7_printLong 166 = .ok (.aaload, 1) := by decide +kernel
theorem dX7_printLong_167 : decode cX7_printLong 167 = .ok (.invokevirtual 122, 3) := by decide +kernel
theorem dX7_printLong_170 : decode cX7_printLong 170 = .ok (.iinc 2 1, 3) := by decide +kernel
theorem dX7_printLong_173 : decode cX7_printLong 173 = .ok (.goto (-21), 3) := by decide +kernel
theorem dX7_printLong_176 : decode cX7_printLong 176 = .ok (.aload_n 0, 1) := by decide +kernel
theorem dX7_printLong_177 : decode cX7_printLong 177 = .ok (.ldc 126, 2) := by decide +kernel
theorem dX7_printLong_179 : decode cX7_printLong 179 = .ok (.invokevirtual 60, 3) := by decide +kernel
theorem dX7_printLong_182 : decode cX7_printLong 182 = .ok (.return_, 1) := by decide +kernel
theorem dX7_printLongNet_0 : decode cX7_printLongNet 0 = .ok (.aload_n 0, 1) := by decide +kernel
theorem dX7_printLongNet_1 : decode cX7_printLongNet 1 = .ok (.aload_n 1, 1) := by decide +kernel
theorem dX7_printLongNet_2 : decode cX7_printLongNet 2 = .ok (.getfield 128, 3) := by decide +kernel
theorem dX7_printLongNet_5 : decode cX7_printLongNet 5 = .ok (.ifCond .ne 8, 3) := by decide +kernel
theorem dX7_printLongNet_8 : decode cX7_printLongNet 8 = .ok (.ldc 131, 2) := by decide +kernel
theorem dX7_printLongNet_10 : decode cX7_printLongNet 10 = .ok (.goto 18, 3) := by decide +kernel
theorem dX7_printLongNet_13 : decode cX7_printLongNet 13 = .ok (.aload_n 1, 1) := by decide +kernel
theorem dX7_printLongNet_14 : decode cX7_printLongNet 14 = .ok (.getfield 128, 3) := by decide +kernel
theorem dX7_printLongNet_17 : decode cX7_printLongNet 17 = .ok (.iconst 1, 1) := by decide +kernel
theorem dX7_printLongNet_18 : decode cX7_printLongNet 18 = .ok (.if_icmp .ne 8, 3) := by decide +kernel
theorem dX7_printLongNet_21 : decode cX7_printLongNet 21 = .ok (.ldc 133, 2) := by decide +kernel
theorem dX7_printLongNet_23 : decode cX7_printLongNet 23 = .ok (.goto 5, 3) := by decide +kernel
theorem dX7_printLongNet_26 : decode cX7_printLongNet 26 = .ok (.ldc 135, 2) := by decide +kernel
theorem dX7_printLongNet_28 : decode cX7_printLongNet 28 = .ok (.invokevirtual 60, 3) := by decide +kernel
theorem dX7_printLongNet_31 : decode cX7_printLongNet 31 = .ok (.aload_n 1, 1) := by decide +kernel
theorem dX7_printLongNet_32 : decode cX7_printLongNet 32 = .ok (.getfield 137, 3) := by decide +kernel
theorem dX7_printLongNet_35 : decode cX7_printLongNet 35 = .ok (.iconst 1, 1) := by decide +kernel
theorem dX7_printLongNet_36 : decode cX7_printLongNet 36 = .ok (.if_icmp .le 25, 3) := by decide +kernel
theorem dX7_printLongNet_39 : decode cX7_printLongNet 39 = .ok (.aload_n 0, 1) := by decide +kernel
theorem dX7_printLongNet_40 : decode cX7_printLongNet 40 = .ok (.bipush 91, 2) := by decide +kernel
theorem dX7_printLongNet_42 : decode cX7_printLongNet 42 = .ok (.invokevirtual 38, 3) := by decide +kernel
theorem dX7_printLongNet_45 : decode cX7_printLongNet 45 = .ok (.aload_n 0, 1) := by decide +kernel
theorem dX7_printLongNet_46 : decode cX7_printLongNet 46 = .ok (.aload_n 1, 1) := by decide +kernel
theorem dX7_printLongNet_47 : decode cX7_printLongNet 47 = .ok (.getfield 137, 3) := by decide +kernel
theorem dX7_printLongNet_50 : decode cX7_printLongNet 50 = .ok (.iconst 1, 1) := by decide +kernel
theorem dX7_printLongNet_51 : decode cX7_printLongNet 51 = .ok (.isub, 1) := by decide +kernel
theorem dX7_printLongNet_52 : decode cX7_printLongNet 52 = .ok (.invokevirtual 140, 3) := by decide +kernel
theorem dX7_printLongNet_55 : decode cX7_printLongNet 55 = .ok (.aload_n 0, 1) := by decide +kernel
theorem dX7_printLongNet_56 : decode cX7_printLongNet 56 = .ok (.ldc 144, 2) := by decide +kernel
theorem dX7_printLongNet_58 : decode cX7_printLongNet 58 = .ok (.invokevirtual 60, 3) := by decide +kernel
theorem dX7_printLongNet_61 : decode cX7_printLongNet 61 = .ok (.aload_n 0, 1) := by decide +kernel
theorem dX7_printLongNet_62 : decode cX7_printLongNet 62 = .ok (.aload_n 1, 1) := by decide +kernel
theorem dX7_printLongNet_63 : decode cX7_printLongNet 63 = .ok (.getfield 85, 3) := by decide +kernel
theorem dX7_printLongNet_66 : decode cX7_printLongNet 66 = .ok (.invokevirtual 70, 3) := by decide +kernel
theorem dX7_printLongNet_69 : decode cX7_printLongNet 69 = .ok (.aload_n 0, 1) := by decide +kernel
theorem dX7_printLongNet_70 : decode cX7_printLongNet 70 = .ok (.ldc 113, 2) := by decide +kernel
theorem dX7_printLongNet_72 : decode cX7_printLongNet 72 = .ok (.invokevirtual 60, 3) := by decide +kernel
theorem dX7_printLongNet_75 : decode cX7_printLongNet 75 = .ok (.return_, 1) := by decide +kernel
theorem dX7_printLongInstance_0 : decode cX7_printLongInstance 0 = .ok (.aload_n 1, 1) := by decide +kernel
theorem dX7_printLongInstance_1 : decode cX7_printLongInstance 1 = .ok (.getfield 146, 3) := by decide +kernel
theorem dX7_printLongInstance_4 : decode cX7_printLongInstance 4 = .ok (.ifnonnull 10, 3) := by decide +kernel
theorem dX7_printLongInstance_7 : decode cX7_printLongInstance 7 = .ok (.aload_n 1, 1) := by decide +kernel
theorem dX7_printLongInstance_8 : decode cX7_printLongInstance 8 = .ok (.getfield 152, 3) := by decide +kernel
theorem dX7_printLongInstance_11 : decode cX7_printLongInstance 11 = .ok (.ifCond .eq 7, 3) := by decide +kernel
theorem dX7_printLongInstance_14 : decode cX7_printLongInstance 14 = .ok (.iconst 1, 1) := by decide +kernel
theorem dX7_printLongInstance_15 : decode cX7_printLongInstance 15 = .ok (.goto 4, 3) := by decide +kernel
theorem dX7_printLongInstance_18 : decode cX7_printLongInstance 18 = .ok (.iconst 0, 1) := by decide +kernel
theorem dX7_printLongInstance_19 : decode cX7_printLongInstance 19 = .ok (.istore_n 2, 1) := by decide +kernel
theorem dX7_printLongInstance_20 : decode cX7_printLongInstance 20 = .ok (.aload_n 0, 1) := by decide +kernel
theorem dX7_printLongInstance_21 : decode cX7_printLongInstance 21 = .ok (.aload_n 1, 1) := by decide +kernel
theorem dX7_printLongInstance_22 : decode cX7_printLongInstance 22 = .ok (.getfield 155, 3) := by decide +kernel
theorem dX7_printLongInstance_25 : decode cX7_printLongInstance 25 = .ok (.invokevirtual 70, 3) := by decide +kernel
theorem dX7_printLongInstance_28 : decode cX7_printLongInstance 28 = .ok (.aload_n 0, 1) := by decide +kernel
theorem dX7_printLongInstance_29 : decode cX7_printLongInstance 29 = .ok (.bipush 32, 2) := by decide +kernel
theorem dX7_printLongInstance_31 : decode cX7_printLongInstance 31 = .ok (.invokevirtual 38, 3) := by decide +kernel
theorem dX7_printLongInstance_34 : decode cX7_printLongInstance 34 = .ok (.aload_n 0, 1) := by decide +kernel
theorem dX7_printLongInstance_35 : decode cX7_printLongInstance 35 = .ok (.aload_n 1, 1) := by decide +kernel
theorem dX7_printLongInstance_36 : decode cX7_printLongInstance 36 = .ok (.getfield 158, 3) := by decide +kernel
theorem dX7_printLongInstance_39 : decode cX7_printLongInstance 39 = .ok (.invokevirtual 70, 3) := by decide +kernel
theorem dX7_printLongInstance_42 : decode cX7_printLongInstance 42 = .ok (.aload_n 0, 1) := by decide +kernel
theorem dX7_printLongInstance_43 : decode cX7_printLongInstance 43 = .ok (.bipush 40, 2) := by decide +kernel
theorem dX7_printLongInstance_45 : decode cX7_printLongInstance 45 = .ok (.invokevirtual 38, 3) := by decide +kernel
theorem dX7_printLongInstance_48 : decode cX7_printLongInstance 48 = .ok (.iconst 0, 1) := by decide +kernel
theorem dX7_printLongInstance_49 : decode cX7_printLongInstance 49 = .ok (.istore_n 3, 1) := by decide +kernel
theorem dX7_printLongInstance_50 : decode cX7_printLongInstance 50 = .ok (.iload_n 3, 1) := by decide +kernel
theorem dX7_printLongInstance_51 : decode cX7_printLongInstance 51 = .ok (.aload_n 1, 1) := by decide +kernel
theorem dX7_printLongInstance_52 : decode cX7_printLongInstance 52 = .ok (.invokevirtual 159, 3) := by decide +kernel
theorem dX7_printLongInstance_55 : decode cX7_printLongInstance 55 = .ok (.if_icmp .ge 54, 3) := by decide +kernel
theorem dX7_printLongInstance_58 : decode cX7_printLongInstance 58 = .ok (.aload_n 0, 1) := by decide +kernel
theorem dX7_printLongInstance_59 : decode cX7_printLongInstance 59 = .ok (.iload_n 3, 1) := by decide +kernel
theorem dX7_printLongInstance_60 : decode cX7_printLongInstance 60 = .ok (.ifCond .ne 8, 3) := by decide +kernel
theorem dX7_printLongInstance_63 : decode cX7_printLongInstance 63 = .ok (.ldc 77, 2) := by decide +kernel
theorem dX7_printLongInstance_65 : decode cX7_printLongInstance 65 = .ok (.goto 5, 3) := by decide +kernel
theorem dX7_printLongInstance_68 : decode cX7_printLongInstance 68 = .ok (.ldc 79, 2) := by decide +kernel
theorem dX7_printLongInstance_70 : decode cX7_printLongInstance 70 = .ok (.invokevirtual 60, 3) := by decide +kernel
theorem dX7_printLongInstance_73 : decode cX7_printLongInstance 73 = .ok (.iload_n 2, 1) := by decide +kernel
theorem dX7_printLongInstance_74 : decode cX7_printLongInstance 74 = .ok (.ifCond .eq 20, 3) := by decide +kernel
theorem dX7_printLongInstance_77 : decode cX7_printLongInstance 77 = .ok (.aload_n 0, 1) := by decide +kernel
theorem dX7_printLongInstance_78 : decode cX7_printLongInstance 78 = .ok (.aload_n 1, 1) := by decide +kernel
theorem dX7_printLongInstance_79 : decode cX7_printLongInstance 79 = .ok (.iload_n 3, 1) := by decide +kernel
theorem dX7_printLongInstance_80 : decode cX7_printLongInstance 80 = .ok (.invokevirtual 162, 3) := by decide +kernel
theorem dX7_printLongInstance_83 : decode cX7_printLongInstance 83 = .ok (.aload_n 1, 1) := by decide +kernel
theorem dX7_printLongInstance_84 : decode cX7_printLongInstance 84 = .ok (.iload_n 3, 1) := by decide +kernel
theorem dX7_printLongInstance_85 : decode cX7_printLongInstance 85 = .ok (.invokevirtual 166, 3) := by decide +kernel
theorem dX7_printLongInstance_88 : decode cX7_printLongInstance 88 = .ok (.invokevirtual 170, 3) := by decide +kernel
theorem dX7_printLongInstance_91 : decode cX7_printLongInstance 91 = .ok (.goto 12, 3) := by decide +kernel
theorem dX7_printLongInstance_94 : decode cX7_printLongInstance 94 = .ok (.aload_n 0, 1) := by decide +kernel
theorem dX7_printLongInstance_95 : decode cX7_printLongInstance 95 = .ok (.aload_n 1, 1) := by decide +kernel
theorem dX7_printLongInstance_96 : decode cX7_printLongInstance 96 = .ok (.iload_n 3, 1) := by decide +kernel
theorem dX7_printLongInstance_97 : decode cX7_printLongInstance 97 = .ok (.invokevirtual 166, 3) := by decide +kernel
theorem dX7_printLongInstance_100 : decode cX7_printLongInstance 100 = .ok (.invokevirtual 174, 3) := by decide +kernel
theorem dX7_printLongInstance_103 : decode cX7_printLongInstance 103 = .ok (.iinc 3 1, 3) := by decide +kernel
theorem dX7_printLongInstance_106 : decode cX7_printLongInstance 106 = .ok (.goto (-56), 3) := by decide +kernel
theorem dX7_printLongInstance_109 : decode cX7_printLongInstance 109 = .ok (.aload_n 0, 1) := by decide +kernel
theorem dX7_printLongInstance_110 : decode cX7_printLongInstance 110 = .ok (.ldc 88, 2) := by decide +kernel
theorem dX7_printLongInstance_112 : decode cX7_printLongInstance 112 = .ok (.invokevirtual 60, 3) := by decide +kernel
theorem dX7_printLongInstance_115 : decode cX7_printLongInstance 115 = .ok (.return_, 1) := by decide +kernel
theorem dX7_printNamedLink_0 : decode cX7_printNamedLink 0 = .ok (.aload_n 0, 1) := by decide +kernel
theorem dX7_printNamedLink_1 : decode cX7_printNamedLink 1 = .ok (.bipush 46, 2) := by decide +kernel
theorem dX7_printNamedLink_3 : decode cX7_printNamedLink 3 = .ok (.invokevirtual 38, 3) := by decide +kernel
theorem dX7_printNamedLink_6 : decode cX7_printNamedLink 6 = .ok (.aload_n 0, 1) := by decide +kernel
theorem dX7_printNamedLink_7 : decode cX7_printNamedLink 7 = .ok (.lload_n 1, 1) := by decide +kernel
theorem dX7_printNamedLink_8 : decode cX7_printNamedLink 8 = .ok (.invokevirtual 70, 3) := by decide +kernel
theorem dX7_printNamedLink_11 : decode cX7_printNamedLink 11 = .ok (.aload_n 0, 1) := by decide +kernel
theorem dX7_printNamedLink_12 : decode cX7_printNamedLink 12 = .ok (.bipush 40, 2) := by decide +kernel
theorem dX7_printNamedLink_14 : decode cX7_printNamedLink 14 = .ok (.invokevirtual 38, 3) := by decide +kernel
theorem dX7_printNamedLink_17 : decode cX7_printNamedLink 17 = .ok (.aload_n 3, 1) := by decide +kernel
theorem dX7_printNamedLink_18 : decode cX7_printNamedLink 18 = .ok (.ifnull 8, 3) := by decide +kernel
theorem dX7_printNamedLink_21 : decode cX7_printNamedLink 21 = .ok (.aload_n 0, 1) := by decide +kernel
theorem dX7_printNamedLink_22 : decode cX7_printNamedLink 22 = .ok (.aload_n 3, 1) := by decide +kernel
theorem dX7_printNamedLink_23 : decode cX7_printNamedLink 23 = .ok (.invokevirtual 106, 3) := by decide +kernel
theorem dX7_printNamedLink_26 : decode cX7_printNamedLink 26 = .ok (.aload_n 0, 1) := by decide +kernel
theorem dX7_printNamedLink_27 : decode cX7_printNamedLink 27 = .ok (.bipush 41, 2) := by decide +kernel
theorem dX7_printNamedLink_29 : decode cX7_printNamedLink 29 = .ok (.invokevirtual 38, 3) := by decide +kernel
theorem dX7_printNamedLink_32 : decode cX7_printNamedLink 32 = .ok (.return_, 1) := by decide +kernel
theorem dX7_printOrderedLink_0 : decode cX7_printOrderedLink 0 = .ok (.aload_n 1, 1) := by decide +kernel
theorem dX7_printOrderedLink_1 : decode cX7_printOrderedLink 1 = .ok (.ifnonnull 12, 3) := by decide +kernel
theorem dX7_printOrderedLink_4 : decode cX7_printOrderedLink 4 = .ok (.aload_n 0, 1) := by decide +kernel
theorem dX7_printOrderedLink_5 : decode cX7_printOrderedLink 5 = .ok (.bipush 45, 2) := by decide +kernel
theorem dX7_printOrderedLink_7 : decode cX7_printOrderedLink 7 = .ok (.invokevirtual 38, 3) := by decide +kernel
theorem dX7_printOrderedLink_10 : decode cX7_printOrderedLink 10 = .ok (.goto 8, 3) := by decide +kernel
theorem dX7_printOrderedLink_13 : decode cX7_printOrderedLink 13 = .ok (.aload_n 0, 1) := by decide +kernel
theorem dX7_printOrderedLink_14 : decode cX7_printOrderedLink 14 = .ok (.aload_n 1, 1) := by decide +kernel
theorem dX7_printOrderedLink_15 : decode cX7_printOrderedLink 15 = .ok (.invokevirtual 106, 3) := by decide +kernel
theorem dX7_printOrderedLink_18 : decode cX7_printOrderedLink 18 = .ok (.return_, 1) := by decide +kernel
theorem dX7_printShort_0 : decode cX7_printShort 0 = .ok (.aload_n 0, 1) := by decide +kernel
theorem dX7_printShort_1 : decode cX7_printShort 1 = .ok (.ldc 177, 2) := by decide +kernel
theorem dX7_printShort_3 : decode cX7_printShort 3 = .ok (.invokevirtual 60, 3) := by decide +kernel
theorem dX7_printShort_6 : decode cX7_printShort 6 = .ok (.aload_n 0, 1) := by decide +kernel
theorem dX7_printShort_7 : decode cX7_printShort 7 = .ok (.aload_n 1, 1) := by decide +kernel
theorem dX7_printShort_8 : decode cX7_printShort 8 = .ok (.getfield 64, 3) := by decide +kernel
theorem dX7_printShort_11 : decode cX7_printShort 11 = .ok (.invokevirtual 70, 3) := by decide +kernel
theorem dX7_printShort_14 : decode cX7_printShort 14 = .ok (.aload_n 0, 1) := by decide +kernel
theorem dX7_printShort_15 : decode cX7_printShort 15 = .ok (.ldc 113, 2) := by decide +kernel
theorem dX7_printShort_17 : decode cX7_printShort 17 = .ok (.invokevirtual 60, 3) := by decide +kernel
theorem dX7_printShort_20 : decode cX7_printShort 20 = .ok (.iconst 0, 1) := by decide +kernel
theorem dX7_printShort_21 : decode cX7_printShort 21 = .ok (.istore_n 2, 1) := by decide +kernel
theorem dX7_printShort_22 : decode cX7_printShort 22 = .ok (.iload_n 2, 1) := by decide +kernel
theorem dX7_printShort_23 : decode cX7_printShort 23 = .ok (.aload_n 1, 1) := by decide +kernel
theorem dX7_printShort_24 : decode cX7_printShort 24 = .ok (.getfield 90, 3) := by decide +kernel
theorem dX7_printShort_27 : decode cX7_printShort 27 = .ok (.if_icmp .ge 19, 3) := by decide +kernel
theorem dX7_printShort_30 : decode cX7_printShort 30 = .ok (.aload_n 0, 1) := by decide +kernel
theorem dX7_printShort_31 : decode cX7_printShort 31 = .ok (.aload_n 1, 1) := by decide +kernel
theorem dX7_printShort_32 : decode cX7_printShort 32 = .ok (.getfield 81, 3) := by decide +kernel
theorem dX7_printShort_35 : decode cX7_printShort 35 = .ok (.iload_n 2, 1) := by decide +kernel
theorem dX7_printShort_36 : decode cX7_printShort 36 = .ok (.aaload, 1) := by decide +kernel
theorem dX7_printShort_37 : decode cX7_printShort 37 = .ok (.invokevirtual 179, 3) := by decide +kernel
theorem dX7_printShort_40 : decode cX7_printShort 40 = .ok (.iinc 2 1, 3) := by decide +kernel
theorem dX7_printShort_43 : decode cX7_printShort 43 = .ok (.goto (-21), 3) := by decide +kernel
theorem dX7_printShort_46 : decode cX7_printShort 46 = .ok (.iconst 0, 1) := by decide +kernel
theorem dX7_printShort_47 : decode cX7_printShort 47 = .ok (.istore_n 2, 1) := by decide +kernel
theorem dX7_printShort_48 : decode cX7_printShort 48 = .ok (.iload_n 2, 1) := by decide +kernel
theorem dX7_printShort_49 : decode cX7_printShort 49 = .ok (.aload_n 1, 1) := by decide +kernel
theorem dX7_printShort_50 : decode cX7_printShort 50 = .ok (.getfield 97, 3) := by decide +kernel
theorem dX7_printShort_53 : decode cX7_printShort 53 = .ok (.if_icmp .ge 47, 3) := by decide +kernel
theorem dX7_printShort_56 : decode cX7_printShort 56 = .ok (.aload_n 0, 1) := by decide +kernel
theorem dX7_printShort_57 : decode cX7_printShort 57 = .ok (.ldc 182, 2) := by decide +kernel
theorem dX7_printShort_59 : decode cX7_printShort 59 = .ok (.invokevirtual 60, 3) := by decide +kernel
theorem dX7_printShort_62 : decode cX7_printShort 62 = .ok (.aload_n 0, 1) := by decide +kernel
theorem dX7_printShort_63 : decode cX7_printShort 63 = .ok (.aload_n 1, 1) := by decide +kernel
theorem dX7_printShort_64 : decode cX7_printShort 64 = .ok (.getfield 102, 3) := by decide +kernel
theorem dX7_printShort_67 : decode cX7_printShort 67 = .ok (.iload_n 2, 1) := by decide +kernel
theorem dX7_printShort_68 : decode cX7_printShort 68 = .ok (.aaload, 1) := by decide +kernel
theorem dX7_printShort_69 : decode cX7_printShort 69 = .ok (.invokevirtual 106, 3) := by decide +kernel
theorem dX7_printShort_72 : decode cX7_printShort 72 = .ok (.aload_n 0, 1) := by decide +kernel
theorem dX7_printShort_73 : decode cX7_printShort 73 = .ok (.bipush 32, 2) := by decide +kernel
theorem dX7_printShort_75 : decode cX7_printShort 75 = .ok (.invokevirtual 38, 3) := by decide +kernel
theorem dX7_printShort_78 : decode cX7_printShort 78 = .ok (.aload_n 0, 1) := by decide +kernel
theorem dX7_printShort_79 : decode cX7_printShort 79 = .ok (.aload_n 1, 1) := by decide +kernel
theorem dX7_printShort_80 : decode cX7_printShort 80 = .ok (.getfield 110, 3) := by decide +kernel
theorem dX7_printShort_83 : decode cX7_printShort 83 = .ok (.iload_n 2, 1) := by decide +kernel
theorem dX7_printShort_84 : decode cX7_printShort 84 = .ok (.aaload, 1) := by decide +kernel
theorem dX7_printShort_85 : decode cX7_printShort 85 = .ok (.invokevirtual 106, 3) := by decide +kernel
theorem dX7_printShort_88 : decode cX7_printShort 88 = .ok (.aload_n 0, 1) := by decide +kernel
theorem dX7_printShort_89 : decode cX7_printShort 89 = .ok (.ldc 113, 2) := by decide +kernel
theorem dX7_printShort_91 : decode cX7_printShort 91 = .ok (.invokevirtual 60, 3) := by decide +kernel
theorem dX7_printShort_94 : decode cX7_printShort 94 = .ok (.iinc 2 1, 3) := by decide +kernel
theorem dX7_printShort_97 : decode cX7_printShort 97 = .ok (.goto (-49), 3) := by decide +kernel
theorem dX7_printShort_100 : decode cX7_printShort 100 = .ok (.iconst 0, 1) := by decide +kernel
theorem dX7_printShort_101 : decode cX7_printShort 101 = .ok (.istore_n 2, 1) := by decide +kernel
theorem dX7_printShort_102 : decode cX7_printShort 102 = .ok (.iload_n 2, 1) := by decide +kernel
theorem dX7_printShort_103 : decode cX7_printShort 103 = .ok (.aload_n 1, 1) := by decide +kernel
theorem dX7_printShort_104 : decode cX7_printShort 104 = .ok (.getfield 115, 3) := by decide +kernel
theorem dX7_printShort_107 : decode cX7_printShort 107 = .ok (.if_icmp .ge 19, 3) := by decide +kernel
theorem dX7_printShort_110 : decode cX7_printShort 110 = .ok (.aload_n 0, 1) := by decide +kernel
theorem dX7_printShort_111 : decode cX7_printShort 111 = .ok (.aload_n 1, 1) := by decide +kernel
theorem dX7_printShort_112 : decode cX7_printShort 112 = .ok (.getfield 118, 3) := by decide +kernel
theorem dX7_printShort_115 : decode cX7_printShort 115 = .ok (.iload_n 2, 1) := by decide +kernel
theorem dX7_printShort_116 : decode cX7_printShort 116 = .ok (.aaload, 1) := by decide +kernel
theorem dX7_printShort_117 : decode cX7_printShort 117 = .ok (.invokevirtual 184, 3) := by decide +kernel
theorem dX7_printShort_120 : decode cX7_printShort 120 = .ok (.iinc 2 1, 3) := by decide +kernel
theorem dX7_printShort_123 : decode cX7_printShort 123 = .ok (.goto (-21), 3) := by decide +kernel
theorem dX7_printShort_126 : decode cX7_printShort 126 = .ok (.aload_n 0, 1) := by decide +kernel
theorem dX7_printShort_127 : decode cX7_printShort 127 = .ok (.ldc 187, 2) := by decide +kernel
theorem dX7_printShort_129 : decode cX7_printShort 129 = .ok (.invokevirtual 60, 3) := by decide +kernel
theorem dX7_printShort_132 : decode cX7_printShort 132 = .ok (.return_, 1) := by decide +kernel
theorem dX7_printShortNet_0 : decode cX7_printShortNet 0 = .ok (.aload_n 0, 1) := by decide +kernel
theorem dX7_printShortNet_1 : decode cX7_printShortNet 1 = .ok (.aload_n 1, 1) := by decide +kernel
theorem dX7_printShortNet_2 : decode cX7_printShortNet 2 = .ok (.getfield 128, 3) := by decide +kernel
theorem dX7_printShortNet_5 : decode cX7_printShortNet 5 = .ok (.ifCond .ne 8, 3) := by decide +kernel
theorem dX7_printShortNet_8 : decode cX7_printShortNet 8 = .ok (.ldc 189, 2) := by decide +kernel
theorem dX7_printShortNet_10 : decode cX7_printShortNet 10 = .ok (.goto 18, 3) := by decide +kernel
theorem dX7_printShortNet_13 : decode cX7_printShortNet 13 = .ok (.aload_n 1, 1) := by decide +kernel
theorem dX7_printShortNet_14 : decode cX7_printShortNet 14 = .ok (.getfield 128, 3) := by decide +kernel
theorem dX7_printShortNet_17 : decode cX7_printShortNet 17 = .ok (.iconst 1, 1) := by decide +kernel
theorem dX7_printShortNet_18 : decode cX7_printShortNet 18 = .ok (.if_icmp .ne 8, 3) := by decide +kernel
theorem dX7_printShortNet_21 : decode cX7_printShortNet 21 = .ok (.ldc 191, 2) := by decide +kernel
theorem dX7_printShortNet_23 : decode cX7_printShortNet 23 = .ok (.goto 5, 3) := by decide +kernel
theorem dX7_printShortNet_26 : decode cX7_printShortNet 26 = .ok (.ldc 193, 2) := by decide +kernel
theorem dX7_printShortNet_28 : decode cX7_printShortNet 28 = .ok (.invokevirtual 60, 3) := by decide +kernel
theorem dX7_printShortNet_31 : decode cX7_printShortNet 31 = .ok (.aload_n 0, 1) := by decide +kernel
theorem dX7_printShortNet_32 : decode cX7_printShortNet 32 = .ok (.aload_n 1, 1) := by decide +kernel
theorem dX7_printShortNet_33 : decode cX7_printShortNet 33 = .ok (.getfield 85, 3) := by decide +kernel
theorem dX7_printShortNet_36 : decode cX7_printShortNet 36 = .ok (.invokevirtual 70, 3) := by decide +kernel
theorem dX7_printShortNet_39 : decode cX7_printShortNet 39 = .ok (.aload_n 0, 1) := by decide +kernel
theorem dX7_printShortNet_40 : decode cX7_printShortNet 40 = .ok (.bipush 32, 2) := by decide +kernel
theorem dX7_printShortNet_42 : decode cX7_printShortNet 42 = .ok (.invokevirtual 38, 3) := by decide +kernel
theorem dX7_printShortNet_45 : decode cX7_printShortNet 45 = .ok (.aload_n 0, 1) := by decide +kernel
theorem dX7_printShortNet_46 : decode cX7_printShortNet 46 = .ok (.aload_n 1, 1) := by decide +kernel
theorem dX7_printShortNet_47 : decode cX7_printShortNet 47 = .ok (.getfield 137, 3) := by decide +kernel
theorem dX7_printShortNet_50 : decode cX7_printShortNet 50 = .ok (.invokevirtual 140, 3) := by decide +kernel
theorem dX7_printShortNet_53 : decode cX7_printShortNet 53 = .ok (.aload_n 0, 1) := by decide +kernel
theorem dX7_printShortNet_54 : decode cX7_printShortNet 54 = .ok (.ldc 113, 2) := by decide +kernel
theorem dX7_printShortNet_56 : decode cX7_printShortNet 56 = .ok (.invokevirtual 60, 3) := by decide +kernel
theorem dX7_printShortNet_59 : decode cX7_printShortNet 59 = .ok (.return_, 1) := by decide +kernel
theorem dX7_printShortInstance_0 : decode cX7_printShortInstance 0 = .ok (.aload_n 0, 1) := by decide +kernel
theorem dX7_printShortInstance_1 : decode cX7_printShortInstance 1 = .ok (.ldc 195, 2) := by decide +kernel
theorem dX7_printShortInstance_3 : decode cX7_printShortInstance 3 = .ok (.invokevirtual 60, 3) := by decide +kernel
theorem dX7_printShortInstance_6 : decode cX7_printShortInstance 6 = .ok (.aload_n 0, 1) := by decide +kernel
theorem dX7_printShortInstance_7 : decode cX7_printShortInstance 7 = .ok (.aload_n 1, 1) := by decide +kernel
theorem dX7_printShortInstance_8 : decode cX7_printShortInstance 8 = .ok (.getfield 155, 3) := by decide +kernel
theorem dX7_printShortInstance_11 : decode cX7_printShortInstance 11 = .ok (.invokevirtual 70, 3) := by decide +kernel
theorem dX7_printShortInstance_14 : decode cX7_printShortInstance 14 = .ok (.aload_n 0, 1) := by decide +kernel
theorem dX7_printShortInstance_15 : decode cX7_printShortInstance 15 = .ok (.bipush 32, 2) := by decide +kernel
theorem dX7_printShortInstance_17 : decode cX7_printShortInstance 17 = .ok (.invokevirtual 38, 3) := by decide +kernel
theorem dX7_printShortInstance_20 : decode cX7_printShortInstance 20 = .ok (.aload_n 0, 1) := by decide +kernel
theorem dX7_printShortInstance_21 : decode cX7_printShortInstance 21 = .ok (.aload_n 1, 1) := by decide +kernel
theorem dX7_printShortInstance_22 : decode cX7_printShortInstance 22 = .ok (.getfield 158, 3) := by decide +kernel
theorem dX7_printShortInstance_25 : decode cX7_printShortInstance 25 = .ok (.invokevirtual 70, 3) := by decide +kernel
theorem dX7_printShortInstance_28 : decode cX7_printShortInstance 28 = .ok (.iconst 0, 1) := by decide +kernel
theorem dX7_printShortInstance_29 : decode cX7_printShortInstance 29 = .ok (.istore_n 2, 1) := by decide +kernel
theorem dX7_printShortInstance_30 : decode cX7_printShortInstance 30 = .ok (.iload_n 2, 1) := by decide +kernel
theorem dX7_printShortInstance_31 : decode cX7_printShortInstance 31 = .ok (.aload_n 1, 1) := by decide +kernel
theorem dX7_printShortInstance_32 : decode cX7_printShortInstance 32 = .ok (.invokevirtual 159, 3) := by decide +kernel
theorem dX7_printShortInstance_35 : decode cX7_printShortInstance 35 = .ok (.if_icmp .ge 24, 3) := by decide +kernel
theorem dX7_printShortInstance_38 : decode cX7_printShortInstance 38 = .ok (.aload_n 0, 1) := by decide +kernel
theorem dX7_printShortInstance_39 : decode cX7_printShortInstance 39 = .ok (.bipush 32, 2) := by decide +kernel
theorem dX7_printShortInstance_41 : decode cX7_printShortInstance 41 = .ok (.invokevirtual 38, 3) := by decide +kernel
theorem dX7_printShortInstance_44 : decode cX7_printShortInstance 44 = .ok (.aload_n 0, 1) := by decide +kernel
theorem dX7_printShortInstance_45 : decode cX7_printShortInstance 45 = .ok (.aload_n 1, 1) := by decide +kernel
theorem dX7_printShortInstance_46 : decode cX7_printShortInstance 46 = .ok (.iload_n 2, 1) := by decide +kernel
theorem dX7_printShortInstance_47 : decode cX7_printShortInstance 47 = .ok (.invokevirtual 166, 3) := by decide +kernel
theorem dX7_printShortInstance_50 : decode cX7_printShortInstance 50 = .ok (.invokevirtual 174, 3) := by decide +kernel
theorem dX7_printShortInstance_53 : decode cX7_printShortInstance 53 = .ok (.iinc 2 1, 3) := by decide +kernel
theorem dX7_printShortInstance_56 : decode cX7_printShortInstance 56 = .ok (.goto (-26), 3) := by decide +kernel
theorem dX7_printShortInstance_59 : decode cX7_printShortInstance 59 = .ok (.aload_n 0, 1) := by decide +kernel
theorem dX7_printShortInstance_60 : decode cX7_printShortInstance 60 = .ok (.ldc 113, 2) := by decide +kernel
theorem dX7_printShortInstance_62 : decode cX7_printShortInstance 62 = .ok (.invokevirtual 60, 3) := by decide +kernel
theorem dX7_printShortInstance_65 : decode cX7_printShortInstance 65 = .ok (.return_, 1) := by decide +kernel
theorem dX7_printPart_0 : decode cX7_printPart 0 = .ok (.aload_n 1, 1) := by decide +kernel
theorem dX7_printPart_1 : decode cX7_printPart 1 = .ok (.getfield 197, 3) := by decide +kernel
theorem dX7_printPart_4 : decode cX7_printPart 4 = .ok (.ifnonnull 9, 3) := by decide +kernel
theorem dX7_printPart_7 : decode cX7_printPart 7 = .ok (.aload_n 0, 1) := by decide +kernel
theorem dX7_printPart_8 : decode cX7_printPart 8 = .ok (.aload_n 1, 1) := by decide +kernel
theorem dX7_printPart_9 : decode cX7_printPart 9 = .ok (.invokevirtual 203, 3) := by decide +kernel
theorem dX7_printPart_12 : decode cX7_printPart 12 = .ok (.return_, 1) := by decide +kernel
theorem dX7_printPart_13 : decode cX7_printPart 13 = .ok (.aload_n 0, 1) := by decide +kernel
theorem dX7_printPart_14 : decode cX7_printPart 14 = .ok (.aload_n 1, 1) := by decide +kernel
theorem dX7_printPart_15 : decode cX7_printPart 15 = .ok (.getfield 197, 3) := by decide +kernel
theorem dX7_printPart_18 : decode cX7_printPart 18 = .ok (.getfield 85, 3) := by decide +kernel
theorem dX7_printPart_21 : decode cX7_printPart 21 = .ok (.invokevirtual 70, 3) := by decide +kernel
theorem dX7_printPart_24 : decode cX7_printPart 24 = .ok (.aload_n 1, 1) := by decide +kernel
theorem dX7_printPart_25 : decode cX7_printPart 25 = .ok (.getfield 206, 3) := by decide +kernel
theorem dX7_printPart_28 : decode cX7_printPart 28 = .ok (.ifCond .ne 4, 3) := by decide +kernel
theorem dX7_printPart_31 : decode cX7_printPart 31 = .ok (.return_, 1) := by decide +kernel
theorem dX7_printPart_32 : decode cX7_printPart 32 = .ok (.aload_n 0, 1) := by decide +kernel
theorem dX7_printPart_33 : decode cX7_printPart 33 = .ok (.aload_n 0, 1) := by decide +kernel
theorem dX7_printPart_34 : decode cX7_printPart 34 = .ok (.getfield 9, 3) := by decide +kernel
theorem dX7_printPart_37 : decode cX7_printPart 37 = .ok (.ifCond .eq 8, 3) := by decide +kernel
theorem dX7_printPart_40 : decode cX7_printPart 40 = .ok (.bipush 91, 2) := by decide +kernel
theorem dX7_printPart_42 : decode cX7_printPart 42 = .ok (.goto 5, 3) := by decide +kernel
theorem dX7_printPart_45 : decode cX7_printPart 45 = .ok (.bipush 46, 2) := by decide +kernel
theorem dX7_printPart_47 : decode cX7_printPart 47 = .ok (.invokevirtual 38, 3) := by decide +kernel
theorem dX7_printPart_50 : decode cX7_printPart 50 = .ok (.aload_n 0, 1) := by decide +kernel
theorem dX7_printPart_51 : decode cX7_printPart 51 = .ok (.aload_n 1, 1) := by decide +kernel
theorem dX7_printPart_52 : decode cX7_printPart 52 = .ok (.getfield 209, 3) := by decide +kernel
theorem dX7_printPart_55 : decode cX7_printPart 55 = .ok (.invokevirtual 140, 3) := by decide +kernel
theorem dX7_printPart_58 : decode cX7_printPart 58 = .ok (.aload_n 1, 1) := by decide +kernel
theorem dX7_printPart_59 : decode cX7_printPart 59 = .ok (.getfield 206, 3) := by decide +kernel
theorem dX7_printPart_62 : decode cX7_printPart 62 = .ok (.iconst 2, 1) := by decide +kernel
theorem dX7_printPart_63 : decode cX7_printPart 63 = .ok (.if_icmp .ne 29, 3) := by decide +kernel
theorem dX7_printPart_66 : decode cX7_printPart 66 = .ok (.aload_n 0, 1) := by decide +kernel
theorem dX7_printPart_67 : decode cX7_printPart 67 = .ok (.aload_n 0, 1) := by decide +kernel
theorem dX7_printPart_68 : decode cX7_printPart 68 = .ok (.getfield 9, 3) := by decide +kernel
theorem dX7_printPart_71 : decode cX7_printPart 71 = .ok (.ifCond .eq 8, 3) := by decide +kernel
theorem dX7_printPart_74 : decode cX7_printPart 74 = .ok (.bipush 58, 2) := by decide +kernel
theorem dX7_printPart_76 : decode cX7_printPart 76 = .ok (.goto 5, 3) := by decide +kernel
theorem dX7_printPart_79 : decode cX7_printPart 79 = .ok (.bipush 46, 2) := by decide +kernel
theorem dX7_printPart_81 : decode cX7_printPart 81 = .ok (.invokevirtual 38, 3) := by decide +kernel
theorem dX7_printPart_84 : decode cX7_printPart 84 = .ok (.aload_n 0, 1) := by decide +kernel
theorem dX7_printPart_85 : decode cX7_printPart 85 = .ok (.aload_n 1, 1) := by decide +kernel
theorem dX7_printPart_86 : decode cX7_printPart 86 = .ok (.getfield 212, 3) := by decide +kernel
theorem dX7_printPart_89 : decode cX7_printPart 89 = .ok (.invokevirtual 140, 3) := by decide +kernel
theorem dX7_printPart_92 : decode cX7_printPart 92 = .ok (.aload_n 0, 1) := by decide +kernel
theorem dX7_printPart_93 : decode cX7_printPart 93 = .ok (.getfield 9, 3) := by decide +kernel
theorem dX7_printPart_96 : decode cX7_printPart 96 = .ok (.ifCond .eq 9, 3) := by decide +kernel
theorem dX7_printPart_99 : decode cX7_printPart 99 = .ok (.aload_n 0, 1) := by decide +kernel
theorem dX7_printPart_100 : decode cX7_printPart 100 = .ok (.bipush 93, 2) := by decide +kernel
theorem dX7_printPart_102 : decode cX7_printPart 102 = .ok (.invokevirtual 38, 3) := by decide +kernel
theorem dX7_printPart_105 : decode cX7_printPart 105 = .ok (.return_, 1) := by decide +kernel
theorem dX7_putConstant_0 : decode cX7_putConstant 0 = .ok (.aload_n 0, 1) := by decide +kernel
theorem dX7_putConstant_1 : decode cX7_putConstant 1 = .ok (.getfield 9, 3) := by decide +kernel
theorem dX7_putConstant_4 : decode cX7_putConstant 4 = .ok (.ifCond .eq 15, 3) := by decide +kernel
theorem dX7_putConstant_7 : decode cX7_putConstant 7 = .ok (.aload_n 0, 1) := by decide +kernel
theorem dX7_putConstant_8 : decode cX7_putConstant 8 = .ok (.bipush 48, 2) := by decide +kernel
theorem dX7_putConstant_10 : decode cX7_putConstant 10 = .ok (.aload_n 1, 1) := by decide +kernel
theorem dX7_putConstant_11 : decode cX7_putConstant 11 = .ok (.invokevirtual 215, 3) := by decide +kernel
theorem dX7_putConstant_14 : decode cX7_putConstant 14 = .ok (.iadd, 1) := by decide +kernel
theorem dX7_putConstant_15 : decode cX7_putConstant 15 = .ok (.i2c, 1) := by decide +kernel
theorem dX7_putConstant_16 : decode cX7_putConstant 16 = .ok (.invokevirtual 38, 3) := by decide +kernel
theorem dX7_putConstant_19 : decode cX7_putConstant 19 = .ok (.aload_n 0, 1) := by decide +kernel
theorem dX7_putConstant_20 : decode cX7_putConstant 20 = .ok (.bipush 39, 2) := by decide +kernel
theorem dX7_putConstant_22 : decode cX7_putConstant 22 = .ok (.invokevirtual 38, 3) := by decide +kernel
theorem dX7_putConstant_25 : decode cX7_putConstant 25 = .ok (.aload_n 0, 1) := by decide +kernel
theorem dX7_putConstant_26 : decode cX7_putConstant 26 = .ok (.bipush 98, 2) := by decide +kernel
theorem dX7_putConstant_28 : decode cX7_putConstant 28 = .ok (.invokevirtual 38, 3) := by decide +kernel
theorem dX7_putConstant_31 : decode cX7_putConstant 31 = .ok (.aload_n 1, 1) := by decide +kernel
theorem dX7_putConstant_32 : decode cX7_putConstant 32 = .ok (.invokevirtual 215, 3) := by decide +kernel
theorem dX7_putConstant_35 : decode cX7_putConstant 35 = .ok (.iconst 1, 1) := by decide +kernel
theorem dX7_putConstant_36 : decode cX7_putConstant 36 = .ok (.isub, 1) := by decide +kernel
theorem dX7_putConstant_37 : decode cX7_putConstant 37 = .ok (.istore_n 2, 1) := by decide +kernel
theorem dX7_putConstant_38 : decode cX7_putConstant 38 = .ok (.iload_n 2, 1) := by decide +kernel
theorem dX7_putConstant_39 : decode cX7_putConstant 39 = .ok (.ifCond .lt 30, 3) := by decide +kernel
theorem dX7_putConstant_42 : decode cX7_putConstant 42 = .ok (.aload_n 0, 1) := by decide +kernel
theorem dX7_putConstant_43 : decode cX7_putConstant 43 = .ok (.aload_n 1, 1) := by decide +kernel
theorem dX7_putConstant_44 : decode cX7_putConstant 44 = .ok (.iload_n 2, 1) := by decide +kernel
theorem dX7_putConstant_45 : decode cX7_putConstant 45 = .ok (.invokevirtual 217, 3) := by decide +kernel
theorem dX7_putConstant_48 : decode cX7_putConstant 48 = .ok (.bipush (-3), 2) := by decide +kernel
theorem dX7_putConstant_50 : decode cX7_putConstant 50 = .ok (.if_icmp .ne 8, 3) := by decide +kernel
theorem dX7_putConstant_53 : decode cX7_putConstant 53 = .ok (.bipush 49, 2) := by decide +kernel
theorem dX7_putConstant_55 : decode cX7_putConstant 55 = .ok (.goto 5, 3) := by decide +kernel
theorem dX7_putConstant_58 : decode cX7_putConstant 58 = .ok (.bipush 48, 2) := by decide +kernel
theorem dX7_putConstant_60 : decode cX7_putConstant 60 = .ok (.invokevirtual 38, 3) := by decide +kernel
theorem dX7_putConstant_63 : decode cX7_putConstant 63 = .ok (.iinc 2 (-1), 3) := by decide +kernel
theorem dX7_putConstant_66 : decode cX7_putConstant 66 = .ok (.goto (-28), 3) := by decide +kernel
theorem dX7_putConstant_69 : decode cX7_putConstant 69 = .ok (.return_, 1) := by decide +kernel
theorem dX8_init_0 : decode cX8_init 0 = .ok (.aload_n 0, 1) := by decide +kernel
theorem dX8_init_1 : decode cX8_init 1 = .ok (.invokespecial 3, 3) := by decide +kernel
theorem dX8_init_4 : decode cX8_init 4 = .ok (.aload_n 0, 1) := by decide +kernel
theorem dX8_init_5 : decode cX8_init 5 = .ok (.aconst_null, 1) := by decide +kernel
theorem dX8_init_6 : decode cX8_init 6 = .ok (.putfield 9, 3) := by decide +kernel
theorem dX8_init_9 : decode cX8_init 9 = .ok (.aload_n 0, 1) := by decide +kernel
theorem dX8_init_10 : decode cX8_init 10 = .ok (.aconst_null, 1) := by decide +kernel
theorem dX8_init_11 : decode cX8_init 11 = .ok (.putfield 15, 3) := by decide +kernel
theorem dX8_init_14 : decode cX8_init 14 = .ok (.aload_n 0, 1) := by decide +kernel
theorem dX8_init_15 : decode cX8_init 15 = .ok (.aload_n 1, 1) := by decide +kernel
theorem dX8_init_16 : decode cX8_init 16 = .ok (.putfield 19, 3) := by decide +kernel
theorem dX8_init_19 : decode cX8_init 19 = .ok (.return_, 1) := by decide +kernel
theorem dX8_faultOf_0 : decode cX8_faultOf 0 = .ok (.aload_n 0, 1) := by decide +kernel
theorem dX8_faultOf_1 : decode cX8_faultOf 1 = .ok (.aload_n 1, 1) := by decide +kernel
theorem dX8_faultOf_2 : decode cX8_faultOf 2 = .ok (.putfield 9, 3) := by decide +kernel
theorem dX8_faultOf_5 : decode cX8_faultOf 5 = .ok (.aload_n 0, 1) := by decide +kernel
theorem dX8_faultOf_6 : decode cX8_faultOf 6 = .ok (.aconst_null, 1) := by decide +kernel
theorem dX8_faultOf_7 : decode cX8_faultOf 7 = .ok (.putfield 15, 3) := by decide +kernel
theorem dX8_faultOf_10 : decode cX8_faultOf 10 = .ok (.iconst 0, 1) := by decide +kernel
theorem dX8_faultOf_11 : decode cX8_faultOf 11 = .ok (.istore_n 2, 1) := by decide +kernel
theorem dX8_faultOf_12 : decode cX8_faultOf 12 = .ok (.iload_n 2, 1) := by decide +kernel
theorem dX8_faultOf_13 : decode cX8_faultOf 13 = .ok (.sipush 1000, 3) := by decide +kernel
theorem dX8_faultOf_16 : decode cX8_faultOf 16 = .ok (.if_icmp .gt 30, 3) := by decide +kernel
theorem dX8_faultOf_19 : decode cX8_faultOf 19 = .ok (.aload_n 0, 1) := by decide +kernel
theorem dX8_faultOf_20 : decode cX8_faultOf 20 = .ok (.getfield 15, 3) := by decide +kernel
theorem dX8_faultOf_23 : decode cX8_faultOf 23 = .ok (.ifnonnull 13, 3) := by decide +kernel
theorem dX8_faultOf_26 : decode cX8_faultOf 26 = .ok (.aload_n 0, 1) := by decide +kernel
theorem dX8_faultOf_27 : decode cX8_faultOf 27 = .ok (.getfield 19, 3) := by decide +kernel
theorem dX8_faultOf_30 : decode cX8_faultOf 30 = .ok (.invokevirtual 23, 3) := by decide +kernel
theorem dX8_faultOf_33 : decode cX8_faultOf 33 = .ok (.ifCond .ne 13, 3) := by decide +kernel
theorem dX8_faultOf_36 : decode cX8_faultOf 36 = .ok (.aload_n 0, 1) := by decide +kernel
theorem dX8_faultOf_37 : decode cX8_faultOf 37 = .ok (.invokevirtual 29, 3) := by decide +kernel
theorem dX8_faultOf_40 : decode cX8_faultOf 40 = .ok (.iinc 2 1, 3) := by decide +kernel
theorem dX8_faultOf_43 : decode cX8_faultOf 43 = .ok (.goto (-31), 3) := by decide +kernel
theorem dX8_faultOf_46 : decode cX8_faultOf 46 = .ok (.goto 12, 3) := by decide +kernel
theorem dX8_faultOf_49 : decode cX8_faultOf 49 = .ok (.astore_n 2, 1) := by decide +kernel
theorem dX8_faultOf_50 : decode cX8_faultOf 50 = .ok (.aload_n 0, 1) := by decide +kernel
theorem dX8_faultOf_51 : decode cX8_faultOf 51 = .ok (.getfield 19, 3) := by decide +kernel
theorem dX8_faultOf_54 : decode cX8_faultOf 54 = .ok (.invokevirtual 34, 3) := by decide +kernel
theorem dX8_faultOf_57 : decode cX8_faultOf 57 = .ok (.ireturn, 1) := by decide +kernel
theorem dX8_faultOf_58 : decode cX8_faultOf 58 = .ok (.aload_n 1, 1) := by decide +kernel
theorem dX8_faultOf_59 : decode cX8_faultOf 59 = .ok (.invokevirtual 38, 3) := by decide +kernel
theorem dX8_faultOf_62 : decode cX8_faultOf 62 = .ok (.ireturn, 1) := by decide +kernel
theorem dX8_startModule_0 : decode cX8_startModule 0 = .ok (.aload_n 0, 1) := by decide +kernel
theorem dX8_startModule_1 : decode cX8_startModule 1 = .ok (.getfield 19, 3) := by decide +kernel
theorem dX8_startModule_4 : decode cX8_startModule 4 = .ok (.invokevirtual 43, 3) := by decide +kernel
theorem dX8_startModule_7 : decode cX8_startModule 7 = .ok (.lstore_n 1, 1) := by decide +kernel
theorem dX8_startModule_8 : decode cX8_startModule 8 = .ok (.aload_n 0, 1) := by decide +kernel
theorem dX8_startModule_9 : decode cX8_startModule 9 = .ok (.getfield 19, 3) := by decide +kernel
theorem dX8_startModule_12 : decode cX8_startModule 12 = .ok (.aload_n 0, 1) := by decide +kernel
theorem dX8_startModule_13 : decode cX8_startModule 13 = .ok (.getfield 9, 3) := by decide +kernel
theorem dX8_startModule_16 : decode cX8_startModule 16 = .ok (.lload_n 1, 1) := by decide +kernel
theorem dX8_startModule_17 : decode cX8_startModule 17 = .ok (.invokevirtual 47, 3) := by decide +kernel
theorem dX8_startModule_20 : decode cX8_startModule 20 = .ok (.ifCond .ne 7, 3) := by decide +kernel
theorem dX8_startModule_23 : decode cX8_startModule 23 = .ok (.iconst 1, 1) := by decide +kernel
theorem dX8_startModule_24 : decode cX8_startModule 24 = .ok (.goto 4, 3) := by decide +kernel
theorem dX8_startModule_27 : decode cX8_startModule 27 = .ok (.iconst 0, 1) := by decide +kernel
theorem dX8_startModule_28 : decode cX8_startModule 28 = .ok (.invokevirtual 51, 3) := by decide +kernel
theorem dX8_startModule_31 : decode cX8_startModule 31 = .ok (.aload_n 0, 1) := by decide +kernel
theorem dX8_startModule_32 : decode cX8_startModule 32 = .ok (.aload_n 0, 1) := by decide +kernel
theorem dX8_startModule_33 : decode cX8_startModule 33 = .ok (.getfield 9, 3) := by decide +kernel
theorem dX8_startModule_36 : decode cX8_startModule 36 = .ok (.lload_n 1, 1) := by decide +kernel
theorem dX8_startModule_37 : decode cX8_startModule 37 = .ok (.aload_n 0, 1) := by decide +kernel
theorem dX8_startModule_38 : decode cX8_startModule 38 = .ok (.getfield 19, 3) := by decide +kernel
theorem dX8_startModule_41 : decode cX8_startModule 41 = .ok (.invokevirtual 34, 3) := by decide +kernel
theorem dX8_startModule_44 : decode cX8_startModule 44 = .ok (.invokevirtual 55, 3) := by decide +kernel
theorem dX8_startModule_47 : decode cX8_startModule 47 = .ok (.putfield 15, 3) := by decide +kernel
theorem dX8_startModule_50 : decode cX8_startModule 50 = .ok (.aload_n 0, 1) := by decide +kernel
theorem dX8_startModule_51 : decode cX8_startModule 51 = .ok (.getfield 19, 3) := by decide +kernel
theorem dX8_startModule_54 : decode cX8_startModule 54 = .ok (.invokevirtual 59, 3) := by decide +kernel
theorem dX8_startModule_57 : decode cX8_startModule 57 = .ok (.return_, 1) := by decide +kernel
theorem dX8_endModule_0 : decode cX8_endModule 0 = .ok (.aload_n 0, 1) := by decide +kernel
theorem dX8_endModule_1 : decode cX8_endModule 1 = .ok (.getfield 15, 3) := by decide +kernel
theorem dX8_endModule_4 : decode cX8_endModule 4 = .ok (.invokevirtual 62, 3) := by decide +kernel
theorem dX8_endModule_7 : decode cX8_endModule 7 = .ok (.aload_n 0, 1) := by decide +kernel
theorem dX8_endModule_8 : decode cX8_endModule 8 = .ok (.aconst_null, 1) := by decide +kernel
theorem dX8_endModule_9 : decode cX8_endModule 9 = .ok (.putfield 15, 3) := by decide +kernel
theorem dX8_endModule_12 : decode cX8_endModule 12 = .ok (.return_, 1) := by decide +kernel
theorem dX8_readAssign_0 : decode cX8_readAssign 0 = .ok (.aload_n 0, 1) := by decide +kernel
theorem dX8_readAssign_1 : decode cX8_readAssign 1 = .ok (.getfield 19, 3) := by decide +kernel
theorem dX8_readAssign_4 : decode cX8_readAssign 4 = .ok (.aload_n 0, 1) := by decide +kernel
theorem dX8_readAssign_5 : decode cX8_readAssign 5 = .ok (.getfield 15, 3) := by decide +kernel
theorem dX8_readAssign_8 : decode cX8_readAssign 8 = .ok (.getfield 67, 3) := by decide +kernel
theorem dX8_readAssign_11 : decode cX8_readAssign 11 = .ok (.bipush 8, 2) := by decide +kernel
theorem dX8_readAssign_13 : decode cX8_readAssign 13 = .ok (.if_icmp .lt 7, 3) := by decide +kernel
theorem dX8_readAssign_16 : decode cX8_readAssign 16 = .ok (.iconst 1, 1) := by decide +kernel
theorem dX8_readAssign_17 : decode cX8_readAssign 17 = .ok (.goto 4, 3) := by decide +kernel
theorem dX8_readAssign_20 : decode cX8_readAssign 20 = .ok (.iconst 0, 1) := by decide +kernel
theorem dX8_readAssign_21 : decode cX8_readAssign 21 = .ok (.invokevirtual 51, 3) := by decide +kernel
theorem dX8_readAssign_24 : decode cX8_readAssign 24 = .ok (.aload_n 0, 1) := by decide +kernel
theorem dX8_readAssign_25 : decode cX8_readAssign 25 = .ok (.getfield 19, 3) := by decide +kernel
theorem dX8_readAssign_28 : decode cX8_readAssign 28 = .ok (.invokevirtual 59, 3) := by decide +kernel
theorem dX8_readAssign_31 : decode cX8_readAssign 31 = .ok (.aload_n 0, 1) := by decide +kernel
theorem dX8_readAssign_32 : decode cX8_readAssign 32 = .ok (.invokevirtual 71, 3) := by decide +kernel
theorem dX8_readAssign_35 : decode cX8_readAssign 35 = .ok (.astore_n 2, 1) := by decide +kernel
theorem dX8_readAssign_36 : decode cX8_readAssign 36 = .ok (.iload_n 1, 1) := by decide +kernel
theorem dX8_readAssign_37 : decode cX8_readAssign 37 = .ok (.ifCond .eq 12, 3) := by decide +kernel
theorem dX8_readAssign_40 : decode cX8_readAssign 40 = .ok (.aload_n 0, 1) := by decide +kernel
theorem dX8_readAssign_41 : decode cX8_readAssign 41 = .ok (.getfield 19, 3) := by decide +kernel
theorem dX8_readAssign_44 : decode cX8_readAssign 44 = .ok (.bipush 61, 2) := by decide +kernel
theorem dX8_readAssign_46 : decode cX8_readAssign 46 = .ok (.invokevirtual 75, 3) := by decide +kernel
theorem dX8_readAssign_49 : decode cX8_readAssign 49 = .ok (.aload_n 0, 1) := by decide +kernel
theorem dX8_readAssign_50 : decode cX8_readAssign 50 = .ok (.invokevirtual 71, 3) := by decide +kernel
theorem dX8_readAssign_53 : decode cX8_readAssign 53 = .ok (.astore_n 3, 1) := by decide +kernel
theorem dX8_readAssign_54 : decode cX8_readAssign 54 = .ok (.aload_n 0, 1) := by decide +kernel
theorem dX8_readAssign_55 : decode cX8_readAssign 55 = .ok (.getfield 19, 3) := by decide +kernel
theorem dX8_readAssign_58 : decode cX8_readAssign 58 = .ok (.bipush 59, 2) := by decide +kernel
theorem dX8_readAssign_60 : decode cX8_readAssign 60 = .ok (.invokevirtual 75, 3) := by decide +kernel
theorem dX8_readAssign_63 : decode cX8_readAssign 63 = .ok (.aload_n 0, 1) := by decide +kernel
theorem dX8_readAssign_64 : decode cX8_readAssign 64 = .ok (.getfield 15, 3) := by decide +kernel
theorem dX8_readAssign_67 : decode cX8_readAssign 67 = .ok (.aload_n 2, 1) := by decide +kernel
theorem dX8_readAssign_68 : decode cX8_readAssign 68 = .ok (.aload_n 3, 1) := by decide +kernel
theorem dX8_readAssign_69 : decode cX8_readAssign 69 = .ok (.invokevirtual 79, 3) := by decide +kernel
theorem dX8_readAssign_72 : decode cX8_readAssign 72 = .ok (.return_, 1) := by decide +kernel
theorem dX8_startInstance_0 : decode cX8_startInstance 0 = .ok (.aload_n 0, 1) := by decide +kernel
theorem dX8_startInstance_1 : decode cX8_startInstance 1 = .ok (.getfield 19, 3) := by decide +kernel
theorem dX8_startInstance_4 : decode cX8_startInstance 4 = .ok (.invokevirtual 43, 3) := by decide +kernel
theorem dX8_startInstance_7 : decode cX8_startInstance 7 = .ok (.lstore_n 1, 1) := by decide +kernel
theorem dX8_startInstance_8 : decode cX8_startInstance 8 = .ok (.aload_n 0, 1) := by decide +kernel
theorem dX8_startInstance_9 : decode cX8_startInstance 9 = .ok (.getfield 19, 3) := by decide +kernel
theorem dX8_startInstance_12 : decode cX8_startInstance 12 = .ok (.invokevirtual 59, 3) := by decide +kernel
theorem dX8_startInstance_15 : decode cX8_startInstance 15 = .ok (.aload_n 0, 1) := by decide +kernel
theorem dX8_startInstance_16 : decode cX8_startInstance 16 = .ok (.getfield 19, 3) := by decide +kernel
theorem dX8_startInstance_19 : decode cX8_startInstance 19 = .ok (.invokevirtual 43, 3) := by decide +kernel
theorem dX8_startInstance_22 : decode cX8_startInstance 22 = .ok (.lstore_n 3, 1) := by decide +kernel
theorem dX8_startInstance_23 : decode cX8_startInstance 23 = .ok (.aload_n 0, 1) := by decide +kernel
theorem dX8_startInstance_24 : decode cX8_startInstance 24 = .ok (.getfield 19, 3) := by decide +kernel
theorem dX8_startInstance_27 : decode cX8_startInstance 27 = .ok (.aload_n 0, 1) := by decide +kernel
theorem dX8_startInstance_28 : decode cX8_startInstance 28 = .ok (.getfield 15, 3) := by decide +kernel
theorem dX8_startInstance_31 : decode cX8_startInstance 31 = .ok (.getfield 83, 3) := by decide +kernel
theorem dX8_startInstance_34 : decode cX8_startInstance 34 = .ok (.bipush 12, 2) := by decide +kernel
theorem dX8_startInstance_36 : decode cX8_startInstance 36 = .ok (.if_icmp .ge 14, 3) := by decide +kernel
theorem dX8_startInstance_39 : decode cX8_startInstance 39 = .ok (.aload_n 0, 1) := by decide +kernel
theorem dX8_startInstance_40 : decode cX8_startInstance 40 = .ok (.getfield 15, 3) := by decide +kernel
theorem dX8_startInstance_43 : decode cX8_startInstance 43 = .ok (.lload_n 3, 1) := by decide +kernel
theorem dX8_startInstance_44 : decode cX8_startInstance 44 = .ok (.invokevirtual 86, 3) := by decide +kernel
theorem dX8_startInstance_47 : decode cX8_startInstance 47 = .ok (.ifCond .eq 7, 3) := by decide +kernel
theorem dX8_startInstance_50 : decode cX8_startInstance 50 = .ok (.iconst 1, 1) := by decide +kernel
theorem dX8_startInstance_51 : decode cX8_startInstance 51 = .ok (.goto 4, 3) := by decide +kernel
theorem dX8_startInstance_54 : decode cX8_startInstance 54 = .ok (.iconst 0, 1) := by decide +kernel
theorem dX8_startInstance_55 : decode cX8_startInstance 55 = .ok (.invokevirtual 51, 3) := by decide +kernel
theorem dX8_startInstance_58 : decode cX8_startInstance 58 = .ok (.new 89, 3) := by decide +kernel
theorem dX8_startInstance_61 : decode cX8_startInstance 61 = .ok (.dup, 1) := by decide +kernel
theorem dX8_startInstance_62 : decode cX8_startInstance 62 = .ok (.lload_n 1, 1) := by decide +kernel
theorem dX8_startInstance_63 : decode cX8_startInstance 63 = .ok (.lload_n 3, 1) := by decide +kernel
theorem dX8_startInstance_64 : decode cX8_startInstance 64 = .ok (.aload_n 0, 1) := by decide +kernel
theorem dX8_startInstance_65 : decode cX8_startInstance 65 = .ok (.getfield 19, 3) := by decide +kernel
theorem dX8_startInstance_68 : decode cX8_startInstance 68 = .ok (.invokevirtual 34, 3) := by decide +kernel
theorem dX8_startInstance_71 : decode cX8_startInstance 71 = .ok (.invokespecial 91, 3) := by decide +kernel
theorem dX8_startInstance_74 : decode cX8_startInstance 74 = .ok (.astore 5, 2) := by decide +kernel
theorem dX8_startInstance_76 : decode cX8_startInstance 76 = .ok (.aload_n 0, 1) := by decide +kernel
theorem dX8_startInstance_77 : decode cX8_startInstance 77 = .ok (.getfield 15, 3) := by decide +kernel
theorem dX8_startInstance_80 : decode cX8_startInstance 80 = .ok (.aload 5, 2) := by decide +kernel
theorem dX8_startInstance_82 : decode cX8_startInstance 82 = .ok (.invokevirtual 94, 3) := by decide +kernel
theorem dX8_startInstance_85 : decode cX8_startInstance 85 = .ok (.aload_n 0, 1) := by decide +kernel
theorem dX8_startInstance_86 : decode cX8_startInstance 86 = .ok (.getfield 19, 3) := by decide +kernel
theorem dX8_startInstance_89 : decode cX8_startInstance 89 = .ok (.invokevirtual 59, 3) := by decide +kernel
theorem dX8_startInstance_92 : decode cX8_startInstance 92 = .ok (.aload 5, 2) := by decide +kernel
theorem dX8_startInstance_94 : decode cX8_startInstance 94 = .ok (.areturn, 1) := by decide +kernel
theorem dX8_readOrderedLink_0 : decode cX8_readOrderedLink 0 = .ok (.aload_n 0, 1) := by decide +kernel
theorem dX8_readOrderedLink_1 : decode cX8_readOrderedLink 1 = .ok (.getfield 19, 3) := by decide +kernel
theorem dX8_readOrderedLink_4 : decode cX8_readOrderedLink 4 = .ok (.aload_n 1, 1) := by decide +kernel
theorem dX8_readOrderedLink_5 : decode cX8_readOrderedLink 5 = .ok (.invokevirtual 98, 3) := by decide +kernel
theorem dX8_readOrderedLink_8 : decode cX8_readOrderedLink 8 = .ok (.invokevirtual 51, 3) := by decide +kernel
theorem dX8_readOrderedLink_11 : decode cX8_readOrderedLink 11 = .ok (.aload_n 0, 1) := by decide +kernel
theorem dX8_readOrderedLink_12 : decode cX8_readOrderedLink 12 = .ok (.getfield 19, 3) := by decide +kernel
theorem dX8_readOrderedLink_15 : decode cX8_readOrderedLink 15 = .ok (.invokevirtual 34, 3) := by decide +kernel
theorem dX8_readOrderedLink_18 : decode cX8_readOrderedLink 18 = .ok (.istore_n 2, 1) := by decide +kernel
theorem dX8_readOrderedLink_19 : decode cX8_readOrderedLink 19 = .ok (.aload_n 0, 1) := by decide +kernel
theorem dX8_readOrderedLink_20 : decode cX8_readOrderedLink 20 = .ok (.getfield 19, 3) := by decide +kernel
theorem dX8_readOrderedLink_23 : decode cX8_readOrderedLink 23 = .ok (.bipush 45, 2) := by decide +kernel
theorem dX8_readOrderedLink_25 : decode cX8_readOrderedLink 25 = .ok (.invokevirtual 101, 3) := by decide +kernel
theorem dX8_readOrderedLink_28 : decode cX8_readOrderedLink 28 = .ok (.ifCond .eq 7, 3) := by decide +kernel
theorem dX8_readOrderedLink_31 : decode cX8_readOrderedLink 31 = .ok (.aconst_null, 1) := by decide +kernel
theorem dX8_readOrderedLink_32 : decode cX8_readOrderedLink 32 = .ok (.goto 7, 3) := by decide +kernel
theorem dX8_readOrderedLink_35 : decode cX8_readOrderedLink 35 = .ok (.aload_n 0, 1) := by decide +kernel
theorem dX8_readOrderedLink_36 : decode cX8_readOrderedLink 36 = .ok (.invokevirtual 71, 3) := by decide +kernel
theorem dX8_readOrderedLink_39 : decode cX8_readOrderedLink 39 = .ok (.astore_n 3, 1) := by decide +kernel
theorem dX8_readOrderedLink_40 : decode cX8_readOrderedLink 40 = .ok (.aload_n 1, 1) := by decide +kernel
theorem dX8_readOrderedLink_41 : decode cX8_readOrderedLink 41 = .ok (.new 105, 3) := by decide +kernel
theorem dX8_readOrderedLink_44 : decode cX8_readOrderedLink 44 = .ok (.dup, 1) := by decide +kernel
theorem dX8_readOrderedLink_45 : decode cX8_readOrderedLink 45 = .ok (.lconst 0, 1) := by decide +kernel
theorem dX8_readOrderedLink_46 : decode cX8_readOrderedLink 46 = .ok (.iload_n 2, 1) := by decide +kernel
theorem dX8_readOrderedLink_47 : decode cX8_readOrderedLink 47 = .ok (.aload_n 3, 1) := by decide +kernel
theorem dX8_readOrderedLink_48 : decode cX8_readOrderedLink 48 = .ok (.invokespecial 107, 3) := by decide +kernel
theorem dX8_readOrderedLink_51 : decode cX8_readOrderedLink 51 = .ok (.invokevirtual 110, 3) := by decide +kernel
theorem dX8_readOrderedLink_54 : decode cX8_readOrderedLink 54 = .ok (.return_, 1) := by decide +kernel
theorem dX8_readNetPart_0 : decode cX8_readNetPart 0 = .ok (.aload_n 0, 1) := by decide +kernel
theorem dX8_readNetPart_1 : decode cX8_readNetPart 1 = .ok (.getfield 19, 3) := by decide +kernel
theorem dX8_readNetPart_4 : decode cX8_readNetPart 4 = .ok (.invokevirtual 34, 3) := by decide +kernel
theorem dX8_readNetPart_7 : decode cX8_readNetPart 7 = .ok (.istore_n 3, 1) := by decide +kernel
theorem dX8_readNetPart_8 : decode cX8_readNetPart 8 = .ok (.aload_n 0, 1) := by decide +kernel
theorem dX8_readNetPart_9 : decode cX8_readNetPart 9 = .ok (.getfield 15, 3) := by decide +kernel
theorem dX8_readNetPart_12 : decode cX8_readNetPart 12 = .ok (.aload_n 0, 1) := by decide +kernel
theorem dX8_readNetPart_13 : decode cX8_readNetPart 13 = .ok (.getfield 15, 3) := by decide +kernel
theorem dX8_readNetPart_16 : decode cX8_readNetPart 16 = .ok (.getfield 114, 3) := by decide +kernel
theorem dX8_readNetPart_19 : decode cX8_readNetPart 19 = .ok (.aload_n 0, 1) := by decide +kernel
theorem dX8_readNetPart_20 : decode cX8_readNetPart 20 = .ok (.getfield 19, 3) := by decide +kernel
theorem dX8_readNetPart_23 : decode cX8_readNetPart 23 = .ok (.invokevirtual 43, 3) := by decide +kernel
theorem dX8_readNetPart_26 : decode cX8_readNetPart 26 = .ok (.invokevirtual 117, 3) := by decide +kernel
theorem dX8_readNetPart_29 : decode cX8_readNetPart 29 = .ok (.astore 4, 2) := by decide +kernel
theorem dX8_readNetPart_31 : decode cX8_readNetPart 31 = .ok (.aload_n 0, 1) := by decide +kernel
theorem dX8_readNetPart_32 : decode cX8_readNetPart 32 = .ok (.getfield 19, 3) := by decide +kernel
theorem dX8_readNetPart_35 : decode cX8_readNetPart 35 = .ok (.aload 4, 2) := by decide +kernel
theorem dX8_readNetPart_37 : decode cX8_readNetPart 37 = .ok (.ifnull 12, 3) := by decide +kernel
theorem dX8_readNetPart_40 : decode cX8_readNetPart 40 = .ok (.aload 4, 2) := by decide +kernel
theorem dX8_readNetPart_42 : decode cX8_readNetPart 42 = .ok (.getfield 121, 3) := by decide +kernel
theorem dX8_readNetPart_45 : decode cX8_readNetPart 45 = .ok (.iconst (-1), 1) := by decide +kernel
theorem dX8_readNetPart_46 : decode cX8_readNetPart 46 = .ok (.if_icmp .ne 7, 3) := by decide +kernel
theorem dX8_readNetPart_49 : decode cX8_readNetPart 49 = .ok (.iconst 1, 1) := by decide +kernel
theorem dX8_readNetPart_50 : decode cX8_readNetPart 50 = .ok (.goto 4, 3) := by decide +kernel
theorem dX8_readNetPart_53 : decode cX8_readNetPart 53 = .ok (.iconst 0, 1) := by decide +kernel
theorem dX8_readNetPart_54 : decode cX8_readNetPart 54 = .ok (.invokevirtual 51, 3) := by decide +kernel
theorem dX8_readNetPart_57 : decode cX8_readNetPart 57 = .ok (.aload_n 0, 1) := by decide +kernel
theorem dX8_readNetPart_58 : decode cX8_readNetPart 58 = .ok (.getfield 19, 3) := by decide +kernel
theorem dX8_readNetPart_61 : decode cX8_readNetPart 61 = .ok (.invokevirtual 59, 3) := by decide +kernel
theorem dX8_readNetPart_64 : decode cX8_readNetPart 64 = .ok (.aload_n 0, 1) := by decide +kernel
theorem dX8_readNetPart_65 : decode cX8_readNetPart 65 = .ok (.getfield 19, 3) := by decide +kernel
theorem dX8_readNetPart_68 : decode cX8_readNetPart 68 = .ok (.iload_n 1, 1) := by decide +kernel
theorem dX8_readNetPart_69 : decode cX8_readNetPart 69 = .ok (.invokevirtual 101, 3) := by decide +kernel
theorem dX8_readNetPart_72 : decode cX8_readNetPart 72 = .ok (.ifCond .ne 23, 3) := by decide +kernel
theorem dX8_readNetPart_75 : decode cX8_readNetPart 75 = .ok (.new 126, 3) := by decide +kernel
theorem dX8_readNetPart_78 : decode cX8_readNetPart 78 = .ok (.dup, 1) := by decide +kernel
theorem dX8_readNetPart_79 : decode cX8_readNetPart 79 = .ok (.iconst 0, 1) := by decide +kernel
theorem dX8_readNetPart_80 : decode cX8_readNetPart 80 = .ok (.iload_n 3, 1) := by decide +kernel
theorem dX8_readNetPart_81 : decode cX8_readNetPart 81 = .ok (.aload 4, 2) := by decide +kernel
theorem dX8_readNetPart_83 : decode cX8_readNetPart 83 = .ok (.aload 4, 2) := by decide +kernel
theorem dX8_readNetPart_85 : decode cX8_readNetPart 85 = .ok (.getfield 128, 3) := by decide +kernel
theorem dX8_readNetPart_88 : decode cX8_readNetPart 88 = .ok (.iconst 1, 1) := by decide +kernel
theorem dX8_readNetPart_89 : decode cX8_readNetPart 89 = .ok (.isub, 1) := by decide +kernel
theorem dX8_readNetPart_90 : decode cX8_readNetPart 90 = .ok (.iconst 0, 1) := by decide +kernel
theorem dX8_readNetPart_91 : decode cX8_readNetPart 91 = .ok (.invokespecial 131, 3) := by decide +kernel
theorem dX8_readNetPart_94 : decode cX8_readNetPart 94 = .ok (.areturn, 1) := by decide +kernel
theorem dX8_readNetPart_95 : decode cX8_readNetPart 95 = .ok (.aload_n 0, 1) := by decide +kernel
theorem dX8_readNetPart_96 : decode cX8_readNetPart 96 = .ok (.getfield 19, 3) := by decide +kernel
theorem dX8_readNetPart_99 : decode cX8_readNetPart 99 = .ok (.iconst 0, 1) := by decide +kernel
theorem dX8_readNetPart_100 : decode cX8_readNetPart 100 = .ok (.aload 4, 2) := by decide +kernel
theorem dX8_readNetPart_102 : decode cX8_readNetPart 102 = .ok (.getfield 128, 3) := by decide +kernel
theorem dX8_readNetPart_105 : decode cX8_readNetPart 105 = .ok (.iconst 1, 1) := by decide +kernel
theorem dX8_readNetPart_106 : decode cX8_readNetPart 106 = .ok (.isub, 1) := by decide +kernel
theorem dX8_readNetPart_107 : decode cX8_readNetPart 107 = .ok (.invokevirtual 134, 3) := by decide +kernel
theorem dX8_readNetPart_110 : decode cX8_readNetPart 110 = .ok (.istore 5, 2) := by decide +kernel
theorem dX8_readNetPart_112 : decode cX8_readNetPart 112 = .ok (.aload_n 0, 1) := by decide +kernel
theorem dX8_readNetPart_113 : decode cX8_readNetPart 113 = .ok (.getfield 19, 3) := by decide +kernel
theorem dX8_readNetPart_116 : decode cX8_readNetPart 116 = .ok (.iload_n 2, 1) := by decide +kernel
theorem dX8_readNetPart_117 : decode cX8_readNetPart 117 = .ok (.invokevirtual 101, 3) := by decide +kernel
theorem dX8_readNetPart_120 : decode cX8_readNetPart 120 = .ok (.ifCond .ne 19, 3) := by decide +kernel
theorem dX8_readNetPart_123 : decode cX8_readNetPart 123 = .ok (.new 126, 3) := by decide +kernel
theorem dX8_readNetPart_126 : decode cX8_readNetPart 126 = .ok (.dup, 1) := by decide +kernel
theorem dX8_readNetPart_127 : decode cX8_readNetPart 127 = .ok (.iconst 1, 1) := by decide +kernel
theorem dX8_readNetPart_128 : decode cX8_readNetPart 128 = .ok (.iload_n 3, 1) := by decide +kernel
theorem dX8_readNetPart_129 : decode cX8_readNetPart 129 = .ok (.aload 4, 2) := by decide +kernel
theorem dX8_readNetPart_131 : decode cX8_readNetPart 131 = .ok (.iload 5, 2) := by decide +kernel
theorem dX8_readNetPart_133 : decode cX8_readNetPart 133 = .ok (.iload 5, 2) := by decide +kernel
theorem dX8_readNetPart_135 : decode cX8_readNetPart 135 = .ok (.invokespecial 131, 3) := by decide +kernel
theorem dX8_readNetPart_138 : decode cX8_readNetPart 138 = .ok (.areturn, 1) := by decide +kernel
theorem dX8_readNetPart_139 : decode cX8_readNetPart 139 = .ok (.aload_n 0, 1) := by decide +kernel
theorem dX8_readNetPart_140 : decode cX8_readNetPart 140 = .ok (.getfield 19, 3) := by decide +kernel
theorem dX8_readNetPart_143 : decode cX8_readNetPart 143 = .ok (.iconst 0, 1) := by decide +kernel
theorem dX8_readNetPart_144 : decode cX8_readNetPart 144 = .ok (.iload 5, 2) := by decide +kernel
theorem dX8_readNetPart_146 : decode cX8_readNetPart 146 = .ok (.invokevirtual 134, 3) := by decide +kernel
theorem dX8_readNetPart_149 : decode cX8_readNetPart 149 = .ok (.istore 6, 2) := by decide +kernel
theorem dX8_readNetPart_151 : decode cX8_readNetPart 151 = .ok (.new 126, 3) := by decide +kernel
theorem dX8_readNetPart_154 : decode cX8_readNetPart 154 = .ok (.dup, 1) := by decide +kernel
theorem dX8_readNetPart_155 : decode cX8_readNetPart 155 = .ok (.iconst 2, 1) := by decide +kernel
theorem dX8_readNetPart_156 : decode cX8_readNetPart 156 = .ok (.iload_n 3, 1) := by decide +kernel
theorem dX8_readNetPart_157 : decode cX8_readNetPart 157 = .ok (.aload 4, 2) := by decide +kernel
theorem dX8_readNetPart_159 : decode cX8_readNetPart 159 = .ok (.iload 5, 2) := by decide +kernel
theorem dX8_readNetPart_161 : decode cX8_readNetPart 161 = .ok (.iload 6, 2) := by decide +kernel
theorem dX8_readNetPart_163 : decode cX8_readNetPart 163 = .ok (.invokespecial 131, 3) := by decide +kernel
theorem dX8_readNetPart_166 : decode cX8_readNetPart 166 = .ok (.areturn, 1) := by decide +kernel
theorem dX8_readDigits_0 : decode cX8_readDigits 0 = .ok (.aload_n 0, 1) := by decide +kernel
theorem dX8_readDigits_1 : decode cX8_readDigits 1 = .ok (.getfield 19, 3) := by decide +kernel
theorem dX8_readDigits_4 : decode cX8_readDigits 4 = .ok (.invokevirtual 43, 3) := by decide +kernel
theorem dX8_readDigits_7 : decode cX8_readDigits 7 = .ok (.lstore 4, 2) := by decide +kernel
theorem dX8_readDigits_9 : decode cX8_readDigits 9 = .ok (.aload_n 0, 1) := by decide +kernel
theorem dX8_readDigits_10 : decode cX8_readDigits 10 = .ok (.getfield 19, 3) := by decide +kernel
theorem dX8_readDigits_13 : decode cX8_readDigits 13 = .ok (.lload 4, 2) := by decide +kernel
theorem dX8_readDigits_15 : decode cX8_readDigits 15 = .ok (.iconst 0, 1) := by decide +kernel
theorem dX8_readDigits_16 : decode cX8_readDigits 16 = .ok (.invokestatic 138, 3) := by decide +kernel
theorem dX8_readDigits_19 : decode cX8_readDigits 19 = .ok (.bipush 98, 2) := by decide +kernel
theorem dX8_readDigits_21 : decode cX8_readDigits 21 = .ok (.if_icmp .eq 7, 3) := by decide +kernel
theorem dX8_readDigits_24 : decode cX8_readDigits 24 = .ok (.iconst 1, 1) := by decide +kernel
theorem dX8_readDigits_25 : decode cX8_readDigits 25 = .ok (.goto 4, 3) := by decide +kernel
theorem dX8_readDigits_28 : decode cX8_readDigits 28 = .ok (.iconst 0, 1) := by decide +kernel
theorem dX8_readDigits_29 : decode cX8_readDigits 29 = .ok (.invokevirtual 51, 3) := by decide +kernel
theorem dX8_readDigits_32 : decode cX8_readDigits 32 = .ok (.iconst 0, 1) := by decide +kernel
theorem dX8_readDigits_33 : decode cX8_readDigits 33 = .ok (.istore 6, 2) := by decide +kernel
theorem dX8_readDigits_35 : decode cX8_readDigits 35 = .ok (.iconst 0, 1) := by decide +kernel
theorem dX8_readDigits_36 : decode cX8_readDigits 36 = .ok (.istore 7, 2) := by decide +kernel
theorem dX8_readDigits_38 : decode cX8_readDigits 38 = .ok (.iconst 1, 1) := by decide +kernel
theorem dX8_readDigits_39 : decode cX8_readDigits 39 = .ok (.istore 8, 2) := by decide +kernel
theorem dX8_readDigits_41 : decode cX8_readDigits 41 = .ok (.iload 8, 2) := by decide +kernel
theorem dX8_readDigits_43 : decode cX8_readDigits 43 = .ok (.bipush 8, 2) := by decide +kernel
theorem dX8_readDigits_45 : decode cX8_readDigits 45 = .ok (.if_icmp .ge 66, 3) := by decide +kernel
theorem dX8_readDigits_48 : decode cX8_readDigits 48 = .ok (.lload 4, 2) := by decide +kernel
theorem dX8_readDigits_50 : decode cX8_readDigits 50 = .ok (.iload 8, 2) := by decide +kernel
theorem dX8_readDigits_52 : decode cX8_readDigits 52 = .ok (.invokestatic 138, 3) := by decide +kernel
theorem dX8_readDigits_55 : decode cX8_readDigits 55 = .ok (.ifCond .eq 56, 3) := by decide +kernel
theorem dX8_readDigits_58 : decode cX8_readDigits 58 = .ok (.lload 4, 2) := by decide +kernel
theorem dX8_readDigits_60 : decode cX8_readDigits 60 = .ok (.iload 8, 2) := by decide +kernel
theorem dX8_readDigits_62 : decode cX8_readDigits 62 = .ok (.invokestatic 138, 3) := by decide +kernel
theorem dX8_readDigits_65 : decode cX8_readDigits 65 = .ok (.bipush 48, 2) := by decide +kernel
theorem dX8_readDigits_67 : decode cX8_readDigits 67 = .ok (.isub, 1) := by decide +kernel
theorem dX8_readDigits_68 : decode cX8_readDigits 68 = .ok (.istore 9, 2) := by decide +kernel
theorem dX8_readDigits_70 : decode cX8_readDigits 70 = .ok (.aload_n 0, 1) := by decide +kernel
theorem dX8_readDigits_71 : decode cX8_readDigits 71 = .ok (.getfield 19, 3) := by decide +kernel
theorem dX8_readDigits_74 : decode cX8_readDigits 74 = .ok (.iload 9, 2) := by decide +kernel
theorem dX8_readDigits_76 : decode cX8_readDigits 76 = .ok (.ifCond .eq 13, 3) := by decide +kernel
theorem dX8_readDigits_79 : decode cX8_readDigits 79 = .ok (.iload 9, 2) := by decide +kernel
theorem dX8_readDigits_81 : decode cX8_readDigits 81 = .ok (.iconst 1, 1) := by decide +kernel
theorem dX8_readDigits_82 : decode cX8_readDigits 82 = .ok (.if_icmp .eq 7, 3) := by decide +kernel
theorem dX8_readDigits_85 : decode cX8_readDigits 85 = .ok (.iconst 1, 1) := by decide +kernel
theorem dX8_readDigits_86 : decode cX8_readDigits 86 = .ok (.goto 4, 3) := by decide +kernel
theorem dX8_readDigits_89 : decode cX8_readDigits 89 = .ok (.iconst 0, 1) := by decide +kernel
theorem dX8_readDigits_90 : decode cX8_readDigits 90 = .ok (.invokevirtual 51, 3) := by decide +kernel
theorem dX8_readDigits_93 : decode cX8_readDigits 93 = .ok (.iload 7, 2) := by decide +kernel
theorem dX8_readDigits_95 : decode cX8_readDigits 95 = .ok (.iconst 2, 1) := by decide +kernel
theorem dX8_readDigits_96 : decode cX8_readDigits 96 = .ok (.imul, 1) := by decide +kernel
theorem dX8_readDigits_97 : decode cX8_readDigits 97 = .ok (.iload 9, 2) := by decide +kernel
theorem dX8_readDigits_99 : decode cX8_readDigits 99 = .ok (.iadd, 1) := by decide +kernel
theorem dX8_readDigits_100 : decode cX8_readDigits 100 = .ok (.istore 7, 2) := by decide +kernel
theorem dX8_readDigits_102 : decode cX8_readDigits 102 = .ok (.iinc 6 1, 3) := by decide +kernel
theorem dX8_readDigits_105 : decode cX8_readDigits 105 = .ok (.iinc 8 1, 3) := by decide +kernel
theorem dX8_readDigits_108 : decode cX8_readDigits 108 = .ok (.goto (-67), 3) := by decide +kernel
theorem dX8_readDigits_111 : decode cX8_readDigits 111 = .ok (.aload_n 0, 1) := by decide +kernel
theorem dX8_readDigits_112 : decode cX8_readDigits 112 = .ok (.getfield 19, 3) := by decide +kernel
theorem dX8_readDigits_115 : decode cX8_readDigits 115 = .ok (.iload 6, 2) := by decide +kernel
theorem dX8_readDigits_117 : decode cX8_readDigits 117 = .ok (.iload_n 2, 1) := by decide +kernel
theorem dX8_readDigits_118 : decode cX8_readDigits 118 = .ok (.if_icmp .lt 9, 3) := by decide +kernel
theorem dX8_readDigits_121 : decode cX8_readDigits 121 = .ok (.iload 6, 2) := by decide +kernel
theorem dX8_readDigits_123 : decode cX8_readDigits 123 = .ok (.iload_n 3, 1) := by decide +kernel
theorem dX8_readDigits_124 : decode cX8_readDigits 124 = .ok (.if_icmp .le 7, 3) := by decide +kernel
theorem dX8_readDigits_127 : decode cX8_readDigits 127 = .ok (.iconst 1, 1) := by decide +kernel
theorem dX8_readDigits_128 : decode cX8_readDigits 128 = .ok (.goto 4, 3) := by decide +kernel
theorem dX8_readDigits_131 : decode cX8_readDigits 131 = .ok (.iconst 0, 1) := by decide +kernel
theorem dX8_readDigits_132 : decode cX8_readDigits 132 = .ok (.invokevirtual 51, 3) := by decide +kernel
theorem dX8_readDigits_135 : decode cX8_readDigits 135 = .ok (.aload_n 0, 1) := by decide +kernel
theorem dX8_readDigits_136 : decode cX8_readDigits 136 = .ok (.getfield 19, 3) := by decide +kernel
theorem dX8_readDigits_139 : decode cX8_readDigits 139 = .ok (.invokevirtual 59, 3) := by decide +kernel
theorem dX8_readDigits_142 : decode cX8_readDigits 142 = .ok (.new 126, 3) := by decide +kernel
theorem dX8_readDigits_145 : decode cX8_readDigits 145 = .ok (.dup, 1) := by decide +kernel
theorem dX8_readDigits_146 : decode cX8_readDigits 146 = .ok (.iload_n 1, 1) := by decide +kernel
theorem dX8_readDigits_147 : decode cX8_readDigits 147 = .ok (.iload 6, 2) := by decide +kernel
theorem dX8_readDigits_149 : decode cX8_readDigits 149 = .ok (.iload 7, 2) := by decide +kernel
theorem dX8_readDigits_151 : decode cX8_readDigits 151 = .ok (.invokespecial 142, 3) := by decide +kernel
theorem dX8_readDigits_154 : decode cX8_readDigits 154 = .ok (.areturn, 1) := by decide +kernel
theorem dX9_init_0 : decode cX9_init 0 = .ok (.aload_n 0, 1) := by decide +kernel
theorem dX9_init_1 : decode cX9_init 1 = .ok (.aload_n 1, 1) := by decide +kernel
theorem dX9_init_2 : decode cX9_init 2 = .ok (.invokespecial 3, 3) := by decide +kernel
theorem dX9_init_5 : decode cX9_init 5 = .ok (.return_, 1) := by decide +kernel
theorem dX9_readPiece_0 : decode cX9_readPiece 0 = .ok (.aload_n 0, 1) := by decide +kernel
theorem dX9_readPiece_1 : decode cX9_readPiece 1 = .ok (.getfield 9, 3) := by decide +kernel
theorem dX9_readPiece_4 : decode cX9_readPiece 4 = .ok (.ifnonnull 28, 3) := by decide +kernel
theorem dX9_readPiece_7 : decode cX9_readPiece 7 = .ok (.aload_n 0, 1) := by decide +kernel
theorem dX9_readPiece_8 : decode cX9_readPiece 8 = .ok (.getfield 15, 3) := by decide +kernel
theorem dX9_readPiece_11 : decode cX9_readPiece 11 = .ok (.ldc 19, 2) := by decide +kernel
theorem dX9_readPiece_13 : decode cX9_readPiece 13 = .ok (.invokevirtual 21, 3) := by decide +kernel
theorem dX9_readPiece_16 : decode cX9_readPiece 16 = .ok (.aload_n 0, 1) := by decide +kernel
theorem dX9_readPiece_17 : decode cX9_readPiece 17 = .ok (.invokevirtual 27, 3) := by decide +kernel
theorem dX9_readPiece_20 : decode cX9_readPiece 20 = .ok (.aload_n 0, 1) := by decide +kernel
theorem dX9_readPiece_21 : decode cX9_readPiece 21 = .ok (.getfield 15, 3) := by decide +kernel
theorem dX9_readPiece_24 : decode cX9_readPiece 24 = .ok (.bipush 59, 2) := by decide +kernel
theorem dX9_readPiece_26 : decode cX9_readPiece 26 = .ok (.invokevirtual 31, 3) := by decide +kernel
theorem dX9_readPiece_29 : decode cX9_readPiece 29 = .ok (.goto 124, 3) := by decide +kernel
theorem dX9_readPiece_32 : decode cX9_readPiece 32 = .ok (.aload_n 0, 1) := by decide +kernel
theorem dX9_readPiece_33 : decode cX9_readPiece 33 = .ok (.getfield 15, 3) := by decide +kernel
theorem dX9_readPiece_36 : decode cX9_readPiece 36 = .ok (.ldc 35, 2) := by decide +kernel
theorem dX9_readPiece_38 : decode cX9_readPiece 38 = .ok (.invokevirtual 37, 3) := by decide +kernel
theorem dX9_readPiece_41 : decode cX9_readPiece 41 = .ok (.ifCond .eq 11, 3) := by decide +kernel
theorem dX9_readPiece_44 : decode cX9_readPiece 44 = .ok (.aload_n 0, 1) := by decide +kernel
theorem dX9_readPiece_45 : decode cX9_readPiece 45 = .ok (.iconst 0, 1) := by decide +kernel
theorem dX9_readPiece_46 : decode cX9_readPiece 46 = .ok (.invokevirtual 43, 3) := by decide +kernel
theorem dX9_readPiece_49 : decode cX9_readPiece 49 = .ok (.goto 104, 3) := by decide +kernel
theorem dX9_readPiece_52 : decode cX9_readPiece 52 = .ok (.aload_n 0, 1) := by decide +kernel
theorem dX9_readPiece_53 : decode cX9_readPiece 53 = .ok (.getfield 15, 3) := by decide +kernel
theorem dX9_readPiece_56 : decode cX9_readPiece 56 = .ok (.ldc 47, 2) := by decide +kernel
theorem dX9_readPiece_58 : decode cX9_readPiece 58 = .ok (.invokevirtual 37, 3) := by decide +kernel
theorem dX9_readPiece_61 : decode cX9_readPiece 61 = .ok (.ifCond .eq 11, 3) := by decide +kernel
theorem dX9_readPiece_64 : decode cX9_readPiece 64 = .ok (.aload_n 0, 1) := by decide +kernel
theorem dX9_readPiece_65 : decode cX9_readPiece 65 = .ok (.iconst 1, 1) := by decide +kernel
theorem dX9_readPiece_66 : decode cX9_readPiece 66 = .ok (.invokevirtual 43, 3) := by decide +kernel
theorem dX9_readPiece_69 : decode cX9_readPiece 69 = .ok (.goto 84, 3) := by decide +kernel
theorem dX9_readPiece_72 : decode cX9_readPiece 72 = .ok (.aload_n 0, 1) := by decide +kernel
theorem dX9_readPiece_73 : decode cX9_readPiece 73 = .ok (.getfield 15, 3) := by decide +kernel
theorem dX9_readPiece_76 : decode cX9_readPiece 76 = .ok (.ldc 49, 2) := by decide +kernel
theorem dX9_readPiece_78 : decode cX9_readPiece 78 = .ok (.invokevirtual 37, 3) := by decide +kernel
theorem dX9_readPiece_81 : decode cX9_readPiece 81 = .ok (.ifCond .eq 11, 3) := by decide +kernel
theorem dX9_readPiece_84 : decode cX9_readPiece 84 = .ok (.aload_n 0, 1) := by decide +kernel
theorem dX9_readPiece_85 : decode cX9_readPiece 85 = .ok (.iconst 2, 1) := by decide +kernel
theorem dX9_readPiece_86 : decode cX9_readPiece 86 = .ok (.invokevirtual 43, 3) := by decide +kernel
theorem dX9_readPiece_89 : decode cX9_readPiece 89 = .ok (.goto 64, 3) := by decide +kernel
theorem dX9_readPiece_92 : decode cX9_readPiece 92 = .ok (.aload_n 0, 1) := by decide +kernel
theorem dX9_readPiece_93 : decode cX9_readPiece 93 = .ok (.getfield 15, 3) := by decide +kernel
theorem dX9_readPiece_96 : decode cX9_readPiece 96 = .ok (.ldc 51, 2) := by decide +kernel
theorem dX9_readPiece_98 : decode cX9_readPiece 98 = .ok (.invokevirtual 37, 3) := by decide +kernel
theorem dX9_readPiece_101 : decode cX9_readPiece 101 = .ok (.ifCond .eq 11, 3) := by decide +kernel
theorem dX9_readPiece_104 : decode cX9_readPiece 104 = .ok (.aload_n 0, 1) := by decide +kernel
theorem dX9_readPiece_105 : decode cX9_readPiece 105 = .ok (.iconst 0, 1) := by decide +kernel
theorem dX9_readPiece_106 : decode cX9_readPiece 106 = .ok (.invokevirtual 53, 3) := by decide +kernel
theorem dX9_readPiece_109 : decode cX9_readPiece 109 = .ok (.goto 44, 3) := by decide +kernel
theorem dX9_readPiece_112 : decode cX9_readPiece 112 = .ok (.aload_n 0, 1) := by decide +kernel
theorem dX9_readPiece_113 : decode cX9_readPiece 113 = .ok (.getfield 15, 3) := by decide +kernel
theorem dX9_readPiece_116 : decode cX9_readPiece 116 = .ok (.ldc 57, 2) := by decide +kernel
theorem dX9_readPiece_118 : decode cX9_readPiece 118 = .ok (.invokevirtual 37, 3) := by decide +kernel
theorem dX9_readPiece_121 : decode cX9_readPiece 121 = .ok (.ifCond .eq 10, 3) := by decide +kernel
theorem dX9_readPiece_124 : decode cX9_readPiece 124 = .ok (.aload_n 0, 1) := by decide +kernel
theorem dX9_readPiece_125 : decode cX9_readPiece 125 = .ok (.invokevirtual 59, 3) := by decide +kernel
theorem dX9_readPiece_128 : decode cX9_readPiece 128 = .ok (.goto 25, 3) := by decide +kernel
theorem dX9_readPiece_131 : decode cX9_readPiece 131 = .ok (.aload_n 0, 1) := by decide +kernel
theorem dX9_readPiece_132 : decode cX9_readPiece 132 = .ok (.getfield 15, 3) := by decide +kernel
theorem dX9_readPiece_135 : decode cX9_readPiece 135 = .ok (.ldc 62, 2) := by decide +kernel
theorem dX9_readPiece_137 : decode cX9_readPiece 137 = .ok (.invokevirtual 21, 3) := by decide +kernel
theorem dX9_readPiece_140 : decode cX9_readPiece 140 = .ok (.aload_n 0, 1) := by decide +kernel
theorem dX9_readPiece_141 : decode cX9_readPiece 141 = .ok (.getfield 15, 3) := by decide +kernel
theorem dX9_readPiece_144 : decode cX9_readPiece 144 = .ok (.bipush 59, 2) := by decide +kernel
theorem dX9_readPiece_146 : decode cX9_readPiece 146 = .ok (.invokevirtual 31, 3) := by decide +kernel
theorem dX9_readPiece_149 : decode cX9_readPiece 149 = .ok (.aload_n 0, 1) := by decide +kernel
theorem dX9_readPiece_150 : decode cX9_readPiece 150 = .ok (.invokevirtual 64, 3) := by decide +kernel
theorem dX9_readPiece_153 : decode cX9_readPiece 153 = .ok (.return_, 1) := by decide +kernel
theorem dX9_readNet_0 : decode cX9_readNet 0 = .ok (.aload_n 0, 1) := by decide +kernel
theorem dX9_readNet_1 : decode cX9_readNet 1 = .ok (.getfield 15, 3) := by decide +kernel
theorem dX9_readNet_4 : decode cX9_readNet 4 = .ok (.invokevirtual 67, 3) := by decide +kernel
theorem dX9_readNet_7 : decode cX9_readNet 7 = .ok (.aload_n 0, 1) := by decide +kernel
theorem dX9_readNet_8 : decode cX9_readNet 8 = .ok (.getfield 15, 3) := by decide +kernel
theorem dX9_readNet_11 : decode cX9_readNet 11 = .ok (.invokevirtual 70, 3) := by decide +kernel
theorem dX9_readNet_14 : decode cX9_readNet 14 = .ok (.lstore_n 2, 1) := by decide +kernel
theorem dX9_readNet_15 : decode cX9_readNet 15 = .ok (.aload_n 0, 1) := by decide +kernel
theorem dX9_readNet_16 : decode cX9_readNet 16 = .ok (.getfield 15, 3) := by decide +kernel
theorem dX9_readNet_19 : decode cX9_readNet 19 = .ok (.aload_n 0, 1) := by decide +kernel
theorem dX9_readNet_20 : decode cX9_readNet 20 = .ok (.getfield 9, 3) := by decide +kernel
theorem dX9_readNet_23 : decode cX9_readNet 23 = .ok (.lload_n 2, 1) := by decide +kernel
theorem dX9_readNet_24 : decode cX9_readNet 24 = .ok (.invokevirtual 74, 3) := by decide +kernel
theorem dX9_readNet_27 : decode cX9_readNet 27 = .ok (.ifCond .ne 7, 3) := by decide +kernel
theorem dX9_readNet_30 : decode cX9_readNet 30 = .ok (.iconst 1, 1) := by decide +kernel
theorem dX9_readNet_31 : decode cX9_readNet 31 = .ok (.goto 4, 3) := by decide +kernel
theorem dX9_readNet_34 : decode cX9_readNet 34 = .ok (.iconst 0, 1) := by decide +kernel
theorem dX9_readNet_35 : decode cX9_readNet 35 = .ok (.invokevirtual 80, 3) := by decide +kernel
theorem dX9_readNet_38 : decode cX9_readNet 38 = .ok (.aload_n 0, 1) := by decide +kernel
theorem dX9_readNet_39 : decode cX9_readNet 39 = .ok (.getfield 15, 3) := by decide +kernel
theorem dX9_readNet_42 : decode cX9_readNet 42 = .ok (.invokevirtual 67, 3) := by decide +kernel
theorem dX9_readNet_45 : decode cX9_readNet 45 = .ok (.aload_n 0, 1) := by decide +kernel
theorem dX9_readNet_46 : decode cX9_readNet 46 = .ok (.getfield 9, 3) := by decide +kernel
theorem dX9_readNet_49 : decode cX9_readNet 49 = .ok (.new 41, 3) := by decide +kernel
theorem dX9_readNet_52 : decode cX9_readNet 52 = .ok (.dup, 1) := by decide +kernel
theorem dX9_readNet_53 : decode cX9_readNet 53 = .ok (.lload_n 2, 1) := by decide +kernel
theorem dX9_readNet_54 : decode cX9_readNet 54 = .ok (.iload_n 1, 1) := by decide +kernel
theorem dX9_readNet_55 : decode cX9_readNet 55 = .ok (.aload_n 0, 1) := by decide +kernel
theorem dX9_readNet_56 : decode cX9_readNet 56 = .ok (.getfield 15, 3) := by decide +kernel
theorem dX9_readNet_59 : decode cX9_readNet 59 = .ok (.iconst 1, 1) := by decide +kernel
theorem dX9_readNet_60 : decode cX9_readNet 60 = .ok (.bipush 8, 2) := by decide +kernel
theorem dX9_readNet_62 : decode cX9_readNet 62 = .ok (.invokevirtual 83, 3) := by decide +kernel
theorem dX9_readNet_65 : decode cX9_readNet 65 = .ok (.invokespecial 87, 3) := by decide +kernel
theorem dX9_readNet_68 : decode cX9_readNet 68 = .ok (.invokevirtual 90, 3) := by decide +kernel
theorem dX9_readNet_71 : decode cX9_readNet 71 = .ok (.aload_n 0, 1) := by decide +kernel
theorem dX9_readNet_72 : decode cX9_readNet 72 = .ok (.getfield 15, 3) := by decide +kernel
theorem dX9_readNet_75 : decode cX9_readNet 75 = .ok (.bipush 59, 2) := by decide +kernel
theorem dX9_readNet_77 : decode cX9_readNet 77 = .ok (.invokevirtual 31, 3) := by decide +kernel
theorem dX9_readNet_80 : decode cX9_readNet 80 = .ok (.return_, 1) := by decide +kernel
theorem dX9_readInstance_0 : decode cX9_readInstance 0 = .ok (.aload_n 0, 1) := by decide +kernel
theorem dX9_readInstance_1 : decode cX9_readInstance 1 = .ok (.getfield 15, 3) := by decide +kernel
theorem dX9_readInstance_4 : decode cX9_readInstance 4 = .ok (.invokevirtual 67, 3) := by decide +kernel
theorem dX9_readInstance_7 : decode cX9_readInstance 7 = .ok (.aload_n 0, 1) := by decide +kernel
theorem dX9_readInstance_8 : decode cX9_readInstance 8 = .ok (.invokevirtual 94, 3) := by decide +kernel
theorem dX9_readInstance_11 : decode cX9_readInstance 11 = .ok (.astore_n 1, 1) := by decide +kernel
theorem dX9_readInstance_12 : decode cX9_readInstance 12 = .ok (.iconst 0, 1) := by decide +kernel
theorem dX9_readInstance_13 : decode cX9_readInstance 13 = .ok (.istore_n 2, 1) := by decide +kernel
theorem dX9_readInstance_14 : decode cX9_readInstance 14 = .ok (.iload_n 2, 1) := by decide +kernel
theorem dX9_readInstance_15 : decode cX9_readInstance 15 = .ok (.bipush 16, 2) := by decide +kernel
theorem dX9_readInstance_17 : decode cX9_readInstance 17 = .ok (.if_icmp .gt 26, 3) := by decide +kernel
theorem dX9_readInstance_20 : decode cX9_readInstance 20 = .ok (.aload_n 0, 1) := by decide +kernel
theorem dX9_readInstance_21 : decode cX9_readInstance 21 = .ok (.getfield 15, 3) := by decide +kernel
theorem dX9_readInstance_24 : decode cX9_readInstance 24 = .ok (.bipush 59, 2) := by decide +kernel
theorem dX9_readInstance_26 : decode cX9_readInstance 26 = .ok (.invokevirtual 98, 3) := by decide +kernel
theorem dX9_readInstance_29 : decode cX9_readInstance 29 = .ok (.ifCond .ne 14, 3) := by decide +kernel
theorem dX9_readInstance_32 : decode cX9_readInstance 32 = .ok (.aload_n 0, 1) := by decide +kernel
theorem dX9_readInstance_33 : decode cX9_readInstance 33 = .ok (.aload_n 1, 1) := by decide +kernel
theorem dX9_readInstance_34 : decode cX9_readInstance 34 = .ok (.invokevirtual 102, 3) := by decide +kernel
theorem dX9_readInstance_37 : decode cX9_readInstance 37 = .ok (.iinc 2 1, 3) := by decide +kernel
theorem dX9_readInstance_40 : decode cX9_readInstance 40 = .ok (.goto (-26), 3) := by decide +kernel
theorem dX9_readInstance_43 : decode cX9_readInstance 43 = .ok (.aload_n 0, 1) := by decide +kernel
theorem dX9_readInstance_44 : decode cX9_readInstance 44 = .ok (.getfield 15, 3) := by decide +kernel
theorem dX9_readInstance_47 : decode cX9_readInstance 47 = .ok (.bipush 59, 2) := by decide +kernel
theorem dX9_readInstance_49 : decode cX9_readInstance 49 = .ok (.invokevirtual 31, 3) := by decide +kernel
theorem dX9_readInstance_52 : decode cX9_readInstance 52 = .ok (.return_, 1) := by decide +kernel
theorem dX9_readPart_0 : decode cX9_readPart 0 = .ok (.aload_n 0, 1) := by decide +kernel
theorem dX9_readPart_1 : decode cX9_readPart 1 = .ok (.getfield 15, 3) := by decide +kernel
theorem dX9_readPart_4 : decode cX9_readPart 4 = .ok (.invokevirtual 106, 3) := by decide +kernel
theorem dX9_readPart_7 : decode cX9_readPart 7 = .ok (.istore_n 1, 1) := by decide +kernel
theorem dX9_readPart_8 : decode cX9_readPart 8 = .ok (.aload_n 0, 1) := by decide +kernel
theorem dX9_readPart_9 : decode cX9_readPart 9 = .ok (.getfield 15, 3) := by decide +kernel
theorem dX9_readPart_12 : decode cX9_readPart 12 = .ok (.bipush 39, 2) := by decide +kernel
theorem dX9_readPart_14 : decode cX9_readPart 14 = .ok (.invokevirtual 110, 3) := by decide +kernel
theorem dX9_readPart_17 : decode cX9_readPart 17 = .ok (.ifCond .eq 12, 3) := by decide +kernel
theorem dX9_readPart_20 : decode cX9_readPart 20 = .ok (.aload_n 0, 1) := by decide +kernel
theorem dX9_readPart_21 : decode cX9_readPart 21 = .ok (.iload_n 1, 1) := by decide +kernel
theorem dX9_readPart_22 : decode cX9_readPart 22 = .ok (.iconst 1, 1) := by decide +kernel
theorem dX9_readPart_23 : decode cX9_readPart 23 = .ok (.bipush 7, 2) := by decide +kernel
theorem dX9_readPart_25 : decode cX9_readPart 25 = .ok (.invokevirtual 113, 3) := by decide +kernel
theorem dX9_readPart_28 : decode cX9_readPart 28 = .ok (.areturn, 1) := by decide +kernel
theorem dX9_readPart_29 : decode cX9_readPart 29 = .ok (.aload_n 0, 1) := by decide +kernel
theorem dX9_readPart_30 : decode cX9_readPart 30 = .ok (.bipush 46, 2) := by decide +kernel
theorem dX9_readPart_32 : decode cX9_readPart 32 = .ok (.bipush 46, 2) := by decide +kernel
theorem dX9_readPart_34 : decode cX9_readPart 34 = .ok (.invokevirtual 117, 3) := by decide +kernel
theorem dX9_readPart_37 : decode cX9_readPart 37 = .ok (.areturn, 1) := by decide +kernel
theorem dX10_init_0 : decode cX10_init 0 = .ok (.aload_n 0, 1) := by decide +kernel
theorem dX10_init_1 : decode cX10_init 1 = .ok (.invokespecial 3, 3) := by decide +kernel
theorem dX10_init_4 : decode cX10_init 4 = .ok (.aload_n 0, 1) := by decide +kernel
theorem dX10_init_5 : decode cX10_init 5 = .ok (.sipush 1000, 3) := by decide +kernel
theorem dX10_init_8 : decode cX10_init 8 = .ok (.newarray .char, 2) := by decide +kernel
theorem dX10_init_10 : decode cX10_init 10 = .ok (.putfield 9, 3) := by decide +kernel
theorem dX10_init_13 : decode cX10_init 13 = .ok (.aload_n 0, 1) := by decide +kernel
theorem dX10_init_14 : decode cX10_init 14 = .ok (.iconst 0, 1) := by decide +kernel
theorem dX10_init_15 : decode cX10_init 15 = .ok (.putfield 15, 3) := by decide +kernel
theorem dX10_init_18 : decode cX10_init 18 = .ok (.aload_n 0, 1) := by decide +kernel
theorem dX10_init_19 : decode cX10_init 19 = .ok (.sipush 1001, 3) := by decide +kernel
theorem dX10_init_22 : decode cX10_init 22 = .ok (.newarray .int, 2) := by decide +kernel
theorem dX10_init_24 : decode cX10_init 24 = .ok (.putfield 19, 3) := by decide +kernel
theorem dX10_init_27 : decode cX10_init 27 = .ok (.aload_n 0, 1) := by decide +kernel
theorem dX10_init_28 : decode cX10_init 28 = .ok (.sipush 1001, 3) := by decide +kernel
theorem dX10_init_31 : decode cX10_init 31 = .ok (.newarray .int, 2) := by decide +kernel
theorem dX10_init_33 : decode cX10_init 33 = .ok (.putfield 23, 3) := by decide +kernel
theorem dX10_init_36 : decode cX10_init 36 = .ok (.aload_n 0, 1) := by decide +kernel
theorem dX10_init_37 : decode cX10_init 37 = .ok (.sipush 1001, 3) := by decide +kernel
theorem dX10_init_40 : decode cX10_init 40 = .ok (.newarray .long, 2) := by decide +kernel
theorem dX10_init_42 : decode cX10_init 42 = .ok (.putfield 26, 3) := by decide +kernel
theorem dX10_init_45 : decode cX10_init 45 = .ok (.aload_n 0, 1) := by decide +kernel
theorem dX10_init_46 : decode cX10_init 46 = .ok (.iconst 0, 1) := by decide +kernel
theorem dX10_init_47 : decode cX10_init 47 = .ok (.putfield 30, 3) := by decide +kernel
theorem dX10_init_50 : decode cX10_init 50 = .ok (.aload_n 0, 1) := by decide +kernel
theorem dX10_init_51 : decode cX10_init 51 = .ok (.iconst 0, 1) := by decide +kernel
theorem dX10_init_52 : decode cX10_init 52 = .ok (.putfield 33, 3) := by decide +kernel
theorem dX10_init_55 : decode cX10_init 55 = .ok (.return_, 1) := by decide +kernel
theorem dX10_isCharacter_0 : decode cX10_isCharacter 0 = .ok (.iload_n 0, 1) := by decide +kernel
theorem dX10_isCharacter_1 : decode cX10_isCharacter 1 = .ok (.bipush 32, 2) := by decide +kernel
theorem dX10_isCharacter_3 : decode cX10_isCharacter 3 = .ok (.if_icmp .lt 9, 3) := by decide +kernel
theorem dX10_isCharacter_6 : decode cX10_isCharacter 6 = .ok (.iload_n 0, 1) := by decide +kernel
theorem dX10_isCharacter_7 : decode cX10_isCharacter 7 = .ok (.bipush 126, 2) := by decide +kernel
theorem dX10_isCharacter_9 : decode cX10_isCharacter 9 = .ok (.if_icmp .le 9, 3) := by decide +kernel
theorem dX10_isCharacter_12 : decode cX10_isCharacter 12 = .ok (.iload_n 0, 1) := by decide +kernel
theorem dX10_isCharacter_13 : decode cX10_isCharacter 13 = .ok (.bipush 10, 2) := by decide +kernel
theorem dX10_isCharacter_15 : decode cX10_isCharacter 15 = .ok (.if_icmp .ne 7, 3) := by decide +kernel
theorem dX10_isCharacter_18 : decode cX10_isCharacter 18 = .ok (.iconst 1, 1) := by decide +kernel
theorem dX10_isCharacter_19 : decode cX10_isCharacter 19 = .ok (.goto 4, 3) := by decide +kernel
theorem dX10_isCharacter_22 : decode cX10_isCharacter 22 = .ok (.iconst 0, 1) := by decide +kernel
theorem dX10_isCharacter_23 : decode cX10_isCharacter 23 = .ok (.ireturn, 1) := by decide +kernel
theorem dX10_isDigit_0 : decode cX10_isDigit 0 = .ok (.iload_n 0, 1) := by decide +kernel
theorem dX10_isDigit_1 : decode cX10_isDigit 1 = .ok (.bipush 48, 2) := by decide +kernel
theorem dX10_isDigit_3 : decode cX10_isDigit 3 = .ok (.if_icmp .lt 13, 3) := by decide +kernel
theorem dX10_isDigit_6 : decode cX10_isDigit 6 = .ok (.iload_n 0, 1) := by decide +kernel
theorem dX10_isDigit_7 : decode cX10_isDigit 7 = .ok (.bipush 57, 2) := by decide +kernel
theorem dX10_isDigit_9 : decode cX10_isDigit 9 = .ok (.if_icmp .gt 7, 3) := by decide +kernel
theorem dX10_isDigit_12 : decode cX10_isDigit 12 = .ok (.iconst 1, 1) := by decide +kernel
theorem dX10_isDigit_13 : decode cX10_isDigit 13 = .ok (.goto 4, 3) := by decide +kernel
theorem dX10_isDigit_16 : decode cX10_isDigit 16 = .ok (.iconst 0, 1) := by decide +kernel
theorem dX10_isDigit_17 : decode cX10_isDigit 17 = .ok (.ireturn, 1) := by decide +kernel
theorem dX10_isLetter_0 : decode cX10_isLetter 0 = .ok (.iload_n 0, 1) := by decide +kernel
theorem dX10_isLetter_1 : decode cX10_isLetter 1 = .ok (.bipush 97, 2) := by decide +kernel
theorem dX10_isLetter_3 : decode cX10_isLetter 3 = .ok (.if_icmp .lt 9, 3) := by decide +kernel
theorem dX10_isLetter_6 : decode cX10_isLetter 6 = .ok (.iload_n 0, 1) := by decide +kernel
theorem dX10_isLetter_7 : decode cX10_isLetter 7 = .ok (.bipush 122, 2) := by decide +kernel
theorem dX10_isLetter_9 : decode cX10_isLetter 9 = .ok (.if_icmp .le 21, 3) := by decide +kernel
theorem dX10_isLetter_12 : decode cX10_isLetter 12 = .ok (.iload_n 0, 1) := by decide +kernel
theorem dX10_isLetter_13 : decode cX10_isLetter 13 = .ok (.bipush 65, 2) := by decide +kernel
theorem dX10_isLetter_15 : decode cX10_isLetter 15 = .ok (.if_icmp .lt 9, 3) := by decide +kernel
theorem dX10_isLetter_18 : decode cX10_isLetter 18 = .ok (.iload_n 0, 1) := by decide +kernel
theorem dX10_isLetter_19 : decode cX10_isLetter 19 = .ok (.bipush 90, 2) := by decide +kernel
theorem dX10_isLetter_21 : decode cX10_isLetter 21 = .ok (.if_icmp .le 9, 3) := by decide +kernel
theorem dX10_isLetter_24 : decode cX10_isLetter 24 = .ok (.iload_n 0, 1) := by decide +kernel
theorem dX10_isLetter_25 : decode cX10_isLetter 25 = .ok (.bipush 95, 2) := by decide +kernel
theorem dX10_isLetter_27 : decode cX10_isLetter 27 = .ok (.if_icmp .ne 7, 3) := by decide +kernel
theorem dX10_isLetter_30 : decode cX10_isLetter 30 = .ok (.iconst 1, 1) := by decide +kernel
theorem dX10_isLetter_31 : decode cX10_isLetter 31 = .ok (.goto 4, 3) := by decide +kernel
theorem dX10_isLetter_34 : decode cX10_isLetter 34 = .ok (.iconst 0, 1) := by decide +kernel
theorem dX10_isLetter_35 : decode cX10_isLetter 35 = .ok (.ireturn, 1) := by decide +kernel
theorem dX10_letterOf_0 : decode cX10_letterOf 0 = .ok (.iload_n 2, 1) := by decide +kernel
theorem dX10_letterOf_1 : decode cX10_letterOf 1 = .ok (.ifCond .lt 9, 3) := by decide +kernel
theorem dX10_letterOf_4 : decode cX10_letterOf 4 = .ok (.iload_n 2, 1) := by decide +kernel
theorem dX10_letterOf_5 : decode cX10_letterOf 5 = .ok (.bipush 8, 2) := by decide +kernel
theorem dX10_letterOf_7 : decode cX10_letterOf 7 = .ok (.if_icmp .lt 7, 3) := by decide +kernel
theorem dX10_letterOf_10 : decode cX10_letterOf 10 = .ok (.iconst 0, 1) := by decide +kernel
theorem dX10_letterOf_11 : decode cX10_letterOf 11 = .ok (.goto 17, 3) := by decide +kernel
theorem dX10_letterOf_14 : decode cX10_letterOf 14 = .ok (.lload_n 0, 1) := by decide +kernel
theorem dX10_letterOf_15 : decode cX10_letterOf 15 = .ok (.bipush 56, 2) := by decide +kernel
theorem dX10_letterOf_17 : decode cX10_letterOf 17 = .ok (.bipush 8, 2) := by decide +kernel
theorem dX10_letterOf_19 : decode cX10_letterOf 19 = .ok (.iload_n 2, 1) := by decide +kernel
theorem dX10_letterOf_20 : decode cX10_letterOf 20 = .ok (.imul, 1) := by decide +kernel
theorem dX10_letterOf_21 : decode cX10_letterOf 21 = .ok (.isub, 1) := by decide +kernel
theorem dX10_letterOf_22 : decode cX10_letterOf 22 = .ok (.lushr, 1) := by decide +kernel
theorem dX10_letterOf_23 : decode cX10_letterOf 23 = .ok (.l2i, 1) := by decide +kernel
theorem dX10_letterOf_24 : decode cX10_letterOf 24 = .ok (.sipush 255, 3) := by decide +kernel
theorem dX10_letterOf_27 : decode cX10_letterOf 27 = .ok (.iand, 1) := by decide +kernel
theorem dX10_letterOf_28 : decode cX10_letterOf 28 = .ok (.ireturn, 1) := by decide +kernel
theorem dX10_packed_0 : decode cX10_packed 0 = .ok (.lconst 0, 1) := by decide +kernel
theorem dX10_packed_1 : decode cX10_packed 1 = .ok (.lstore_n 1, 1) := by decide +kernel
theorem dX10_packed_2 : decode cX10_packed 2 = .ok (.iconst 0, 1) := by decide +kernel
theorem dX10_packed_3 : decode cX10_packed 3 = .ok (.istore_n 3, 1) := by decide +kernel
theorem dX10_packed_4 : decode cX10_packed 4 = .ok (.iload_n 3, 1) := by decide +kernel
theorem dX10_packed_5 : decode cX10_packed 5 = .ok (.aload_n 0, 1) := by decide +kernel
theorem dX10_packed_6 : decode cX10_packed 6 = .ok (.invokevirtual 36, 3) := by decide +kernel
theorem dX10_packed_9 : decode cX10_packed 9 = .ok (.if_icmp .ge 32, 3) := by decide +kernel
theorem dX10_packed_12 : decode cX10_packed 12 = .ok (.iload_n 3, 1) := by decide +kernel
theorem dX10_packed_13 : decode cX10_packed 13 = .ok (.bipush 8, 2) := by decide +kernel
theorem dX10_packed_15 : decode cX10_packed 15 = .ok (.if_icmp .ge 26, 3) := by decide +kernel
theorem dX10_packed_18 : decode cX10_packed 18 = .ok (.lload_n 1, 1) := by decide +kernel
theorem dX10_packed_19 : decode cX10_packed 19 = .ok (.aload_n 0, 1) := by decide +kernel
theorem dX10_packed_20 : decode cX10_packed 20 = .ok (.iload_n 3, 1) := by decide +kernel
theorem dX10_packed_21 : decode cX10_packed 21 = .ok (.invokevirtual 41, 3) := by decide +kernel
theorem dX10_packed_24 : decode cX10_packed 24 = .ok (.i2l, 1) := by decide +kernel
theorem dX10_packed_25 : decode cX10_packed 25 = .ok (.bipush 56, 2) := by decide +kernel
theorem dX10_packed_27 : decode cX10_packed 27 = .ok (.bipush 8, 2) := by decide +kernel
theorem dX10_packed_29 : decode cX10_packed 29 = .ok (.iload_n 3, 1) := by decide +kernel
theorem dX10_packed_30 : decode cX10_packed 30 = .ok (.imul, 1) := by decide +kernel
theorem dX10_packed_31 : decode cX10_packed 31 = .ok (.isub, 1) := by decide +kernel
theorem dX10_packed_32 : decode cX10_packed 32 = .ok (.lshl, 1) := by decide +kernel
theorem dX10_packed_33 : decode cX10_packed 33 = .ok (.lor, 1) := by decide +kernel
theorem dX10_packed_34 : decode cX10_packed 34 = .ok (.lstore_n 1, 1) := by decide +kernel
theorem dX10_packed_35 : decode cX10_packed 35 = .ok (.iinc 3 1, 3) := by decide +kernel
theorem dX10_packed_38 : decode cX10_packed 38 = .ok (.goto (-34), 3) := by decide +kernel
theorem dX10_packed_41 : decode cX10_packed 41 = .ok (.lload_n 1, 1) := by decide +kernel
theorem dX10_packed_42 : decode cX10_packed 42 = .ok (.lreturn, 1) := by decide +kernel
theorem dX10_isKeyword_0 : decode cX10_isKeyword 0 = .ok (.lload_n 0, 1) := by decide +kernel
theorem dX10_isKeyword_1 : decode cX10_isKeyword 1 = .ok (.ldc 45, 2) := by decide +kernel
theorem dX10_isKeyword_3 : decode cX10_isKeyword 3 = .ok (.invokestatic 47, 3) := by decide +kernel
theorem dX10_isKeyword_6 : decode cX10_isKeyword 6 = .ok (.lcmp, 1) := by decide +kernel
theorem dX10_isKeyword_7 : decode cX10_isKeyword 7 = .ok (.ifCond .eq 53, 3) := by decide +kernel
theorem dX10_isKeyword_10 : decode cX10_isKeyword 10 = .ok (.lload_n 0, 1) := by decide +kernel
theorem dX10_isKeyword_11 : decode cX10_isKeyword 11 = .ok (.ldc 51, 2) := by decide +kernel
theorem dX10_isKeyword_13 : decode cX10_isKeyword 13 = .ok (.invokestatic 47, 3) := by decide +kernel
theorem dX10_isKeyword_16 : decode cX10_isKeyword 16 = .ok (.lcmp, 1) := by decide +kernel
theorem dX10_isKeyword_17 : decode cX10_isKeyword 17 = .ok (.ifCond .eq 43, 3) := by decide +kernel
theorem dX10_isKeyword_20 : decode cX10_isKeyword 20 = .ok (.lload_n 0, 1) := by decide +kernel
theorem dX10_isKeyword_21 : decode cX10_isKeyword 21 = .ok (.ldc 53, 2) := by decide +kernel
theorem dX10_isKeyword_23 : decode cX10_isKeyword 23 = .ok (.invokestatic 47, 3) := by decide +kernel
theorem dX10_isKeyword_26 : decode cX10_isKeyword 26 = .ok (.lcmp, 1) := by decide +kernel
theorem dX10_isKeyword_27 : decode cX10_isKeyword 27 = .ok (.ifCond .eq 33, 3) := by decide +kernel
theorem dX10_isKeyword_30 : decode cX10_isKeyword 30 = .ok (.lload_n 0, 1) := by decide +kernel
theorem dX10_isKeyword_31 : decode cX10_isKeyword 31 = .ok (.ldc 55, 2) := by decide +kernel
theorem dX10_isKeyword_33 : decode cX10_isKeyword 33 = .ok (.invokestatic 47, 3) := by decide +kernel
theorem dX10_isKeyword_36 : decode cX10_isKeyword 36 = .ok (.lcmp, 1) := by decide +kernel
theorem dX10_isKeyword_37 : decode cX10_isKeyword 37 = .ok (.ifCond .eq 23, 3) := by decide +kernel
theorem dX10_isKeyword_40 : decode cX10_isKeyword 40 = .ok (.lload_n 0, 1) := by decide +kernel
theorem dX10_isKeyword_41 : decode cX10_isKeyword 41 = .ok (.ldc 57, 2) := by decide +kernel
theorem dX10_isKeyword_43 : decode cX10_isKeyword 43 = .ok (.invokestatic 47, 3) := by decide +kernel
theorem dX10_isKeyword_46 : decode cX10_isKeyword 46 = .ok (.lcmp, 1) := by decide +kernel
theorem dX10_isKeyword_47 : decode cX10_isKeyword 47 = .ok (.ifCond .eq 13, 3) := by decide +kernel
theorem dX10_isKeyword_50 : decode cX10_isKeyword 50 = .ok (.lload_n 0, 1) := by decide +kernel
theorem dX10_isKeyword_51 : decode cX10_isKeyword 51 = .ok (.ldc 59, 2) := by decide +kernel
theorem dX10_isKeyword_53 : decode cX10_isKeyword 53 = .ok (.invokestatic 47, 3) := by decide +kernel
theorem dX10_isKeyword_56 : decode cX10_isKeyword 56 = .ok (.lcmp, 1) := by decide +kernel
theorem dX10_isKeyword_57 : decode cX10_isKeyword 57 = .ok (.ifCond .ne 7, 3) := by decide +kernel
theorem dX10_isKeyword_60 : decode cX10_isKeyword 60 = .ok (.iconst 1, 1) := by decide +kernel
theorem dX10_isKeyword_61 : decode cX10_isKeyword 61 = .ok (.goto 4, 3) := by decide +kernel
theorem dX10_isKeyword_64 : decode cX10_isKeyword 64 = .ok (.iconst 0, 1) := by decide +kernel
theorem dX10_isKeyword_65 : decode cX10_isKeyword 65 = .ok (.ireturn, 1) := by decide +kernel
theorem dX10_room_0 : decode cX10_room 0 = .ok (.sipush 1000, 3) := by decide +kernel
theorem dX10_room_3 : decode cX10_room 3 = .ok (.aload_n 0, 1) := by decide +kernel
theorem dX10_room_4 : decode cX10_room 4 = .ok (.getfield 15, 3) := by decide +kernel
theorem dX10_room_7 : decode cX10_room 7 = .ok (.isub, 1) := by decide +kernel
theorem dX10_room_8 : decode cX10_room 8 = .ok (.ireturn, 1) := by decide +kernel
theorem dX10_append_0 : decode cX10_append 0 = .ok (.aload_n 0, 1) := by decide +kernel
theorem dX10_append_1 : decode cX10_append 1 = .ok (.getfield 15, 3) := by decide +kernel
theorem dX10_append_4 : decode cX10_append 4 = .ok (.sipush 1000, 3) := by decide +kernel
theorem dX10_append_7 : decode cX10_append 7 = .ok (.if_icmp .ge 23, 3) := by decide +kernel
theorem dX10_append_10 : decode cX10_append 10 = .ok (.aload_n 0, 1) := by decide +kernel
theorem dX10_append_11 : decode cX10_append 11 = .ok (.getfield 9, 3) := by decide +kernel
theorem dX10_append_14 : decode cX10_append 14 = .ok (.aload_n 0, 1) := by decide +kernel
theorem dX10_append_15 : decode cX10_append 15 = .ok (.getfield 15, 3) := by decide +kernel
theorem dX10_append_18 : decode cX10_append 18 = .ok (.iload_n 1, 1) := by decide +kernel
theorem dX10_append_19 : decode cX10_append 19 = .ok (.castore, 1) := by decide +kernel
theorem dX10_append_20 : decode cX10_append 20 = .ok (.aload_n 0, 1) := by decide +kernel
theorem dX10_append_21 : decode cX10_append 21 = .ok (.dup, 1) := by decide +kernel
theorem dX10_append_22 : decode cX10_append 22 = .ok (.getfield 15, 3) := by decide +kernel
theorem dX10_append_25 : decode cX10_append 25 = .ok (.iconst 1, 1) := by decide +kernel
theorem dX10_append_26 : decode cX10_append 26 = .ok (.iadd, 1) := by decide +kernel
theorem dX10_append_27 : decode cX10_append 27 = .ok (.putfield 15, 3) := by decide +kernel
theorem dX10_append_30 : decode cX10_append 30 = .ok (.return_, 1) := by decide +kernel
theorem dX10_clear_0 : decode cX10_clear 0 = .ok (.aload_n 0, 1) := by decide +kernel
theorem dX10_clear_1 : decode cX10_clear 1 = .ok (.iconst 0, 1) := by decide +kernel
theorem dX10_clear_2 : decode cX10_clear 2 = .ok (.putfield 15, 3) := by decide +kernel
theorem dX10_clear_5 : decode cX10_clear 5 = .ok (.return_, 1) := by decide +kernel
theorem dX10_scan_0 : decode cX10_scan 0 = .ok (.aload_n 0, 1) := by decide +kernel
theorem dX10_scan_1 : decode cX10_scan 1 = .ok (.iconst 0, 1) := by decide +kernel
theorem dX10_scan_2 : decode cX10_scan 2 = .ok (.putfield 30, 3) := by decide +kernel
theorem dX10_scan_5 : decode cX10_scan 5 = .ok (.aload_n 0, 1) := by decide +kernel
theorem dX10_scan_6 : decode cX10_scan 6 = .ok (.iconst 0, 1) := by decide +kernel
theorem dX10_scan_7 : decode cX10_scan 7 = .ok (.putfield 33, 3) := by decide +kernel
theorem dX10_scan_10 : decode cX10_scan 10 = .ok (.aload_n 0, 1) := by decide +kernel
theorem dX10_scan_11 : decode cX10_scan 11 = .ok (.iconst 0, 1) := by decide +kernel
theorem dX10_scan_12 : decode cX10_scan 12 = .ok (.invokevirtual 61, 3) := by decide +kernel
theorem dX10_scan_15 : decode cX10_scan 15 = .ok (.istore_n 1, 1) := by decide +kernel
theorem dX10_scan_16 : decode cX10_scan 16 = .ok (.iconst 0, 1) := by decide +kernel
theorem dX10_scan_17 : decode cX10_scan 17 = .ok (.istore_n 2, 1) := by decide +kernel
theorem dX10_scan_18 : decode cX10_scan 18 = .ok (.iload_n 2, 1) := by decide +kernel
theorem dX10_scan_19 : decode cX10_scan 19 = .ok (.sipush 1000, 3) := by decide +kernel
theorem dX10_scan_22 : decode cX10_scan 22 = .ok (.if_icmp .ge 35, 3) := by decide +kernel
theorem dX10_scan_25 : decode cX10_scan 25 = .ok (.iload_n 1, 1) := by decide +kernel
theorem dX10_scan_26 : decode cX10_scan 26 = .ok (.aload_n 0, 1) := by decide +kernel
theorem dX10_scan_27 : decode cX10_scan 27 = .ok (.getfield 15, 3) := by decide +kernel
theorem dX10_scan_30 : decode cX10_scan 30 = .ok (.if_icmp .ge 27, 3) := by decide +kernel
theorem dX10_scan_33 : decode cX10_scan 33 = .ok (.aload_n 0, 1) := by decide +kernel
theorem dX10_scan_34 : decode cX10_scan 34 = .ok (.iload_n 1, 1) := by decide +kernel
theorem dX10_scan_35 : decode cX10_scan 35 = .ok (.invokevirtual 65, 3) := by decide +kernel
theorem dX10_scan_38 : decode cX10_scan 38 = .ok (.istore_n 3, 1) := by decide +kernel
theorem dX10_scan_39 : decode cX10_scan 39 = .ok (.aload_n 0, 1) := by decide +kernel
theorem dX10_scan_40 : decode cX10_scan 40 = .ok (.iload_n 1, 1) := by decide +kernel
theorem dX10_scan_41 : decode cX10_scan 41 = .ok (.iload_n 3, 1) := by decide +kernel
theorem dX10_scan_42 : decode cX10_scan 42 = .ok (.invokevirtual 68, 3) := by decide +kernel
theorem dX10_scan_45 : decode cX10_scan 45 = .ok (.aload_n 0, 1) := by decide +kernel
theorem dX10_scan_46 : decode cX10_scan 46 = .ok (.iload_n 3, 1) := by decide +kernel
theorem dX10_scan_47 : decode cX10_scan 47 = .ok (.invokevirtual 61, 3) := by decide +kernel
theorem dX10_scan_50 : decode cX10_scan 50 = .ok (.istore_n 1, 1) := by decide +kernel
theorem dX10_scan_51 : decode cX10_scan 51 = .ok (.iinc 2 1, 3) := by decide +kernel
theorem dX10_scan_54 : decode cX10_scan 54 = .ok (.goto (-36), 3) := by decide +kernel
theorem dX10_scan_57 : decode cX10_scan 57 = .ok (.aload_n 0, 1) := by decide +kernel
theorem dX10_scan_58 : decode cX10_scan 58 = .ok (.getfield 19, 3) := by decide +kernel
theorem dX10_scan_61 : decode cX10_scan 61 = .ok (.aload_n 0, 1) := by decide +kernel
theorem dX10_scan_62 : decode cX10_scan 62 = .ok (.getfield 30, 3) := by decide +kernel
theorem dX10_scan_65 : decode cX10_scan 65 = .ok (.aload_n 0, 1) := by decide +kernel
theorem dX10_scan_66 : decode cX10_scan 66 = .ok (.getfield 15, 3) := by decide +kernel
theorem dX10_scan_69 : decode cX10_scan 69 = .ok (.iastore, 1) := by decide +kernel
theorem dX10_scan_70 : decode cX10_scan 70 = .ok (.aload_n 0, 1) := by decide +kernel
theorem dX10_scan_71 : decode cX10_scan 71 = .ok (.getfield 23, 3) := by decide +kernel
theorem dX10_scan_74 : decode cX10_scan 74 = .ok (.aload_n 0, 1) := by decide +kernel
theorem dX10_scan_75 : decode cX10_scan 75 = .ok (.getfield 30, 3) := by decide +kernel
theorem dX10_scan_78 : decode cX10_scan 78 = .ok (.iconst 5, 1) := by decide +kernel
theorem dX10_scan_79 : decode cX10_scan 79 = .ok (.iastore, 1) := by decide +kernel
theorem dX10_scan_80 : decode cX10_scan 80 = .ok (.aload_n 0, 1) := by decide +kernel
theorem dX10_scan_81 : decode cX10_scan 81 = .ok (.getfield 26, 3) := by decide +kernel
theorem dX10_scan_84 : decode cX10_scan 84 = .ok (.aload_n 0, 1) := by decide +kernel
theorem dX10_scan_85 : decode cX10_scan 85 = .ok (.getfield 30, 3) := by decide +kernel
theorem dX10_scan_88 : decode cX10_scan 88 = .ok (.lconst 0, 1) := by decide +kernel
theorem dX10_scan_89 : decode cX10_scan 89 = .ok (.lastore, 1) := by decide +kernel
theorem dX10_scan_90 : decode cX10_scan 90 = .ok (.return_, 1) := by decide +kernel
theorem dX10_behindBlanks_0 : decode cX10_behindBlanks 0 = .ok (.iconst 0, 1) := by decide +kernel
theorem dX10_behindBlanks_1 : decode cX10_behindBlanks 1 = .ok (.istore_n 2, 1) := by decide +kernel
theorem dX10_behindBlanks_2 : decode cX10_behindBlanks 2 = .ok (.iload_n 1, 1) := by decide +kernel
theorem dX10_behindBlanks_3 : decode cX10_behindBlanks 3 = .ok (.istore_n 3, 1) := by decide +kernel
theorem dX10_behindBlanks_4 : decode cX10_behindBlanks 4 = .ok (.iload_n 3, 1) := by decide +kernel
theorem dX10_behindBlanks_5 : decode cX10_behindBlanks 5 = .ok (.aload_n 0, 1) := by decide +kernel
theorem dX10_behindBlanks_6 : decode cX10_behindBlanks 6 = .ok (.getfield 15, 3) := by decide +kernel
theorem dX10_behindBlanks_9 : decode cX10_behindBlanks 9 = .ok (.if_icmp .ge 81, 3) := by decide +kernel
theorem dX10_behindBlanks_12 : decode cX10_behindBlanks 12 = .ok (.aload_n 0, 1) := by decide +kernel
theorem dX10_behindBlanks_13 : decode cX10_behindBlanks 13 = .ok (.getfield 9, 3) := by decide +kernel
theorem dX10_behindBlanks_16 : decode cX10_behindBlanks 16 = .ok (.iload_n 3, 1) := by decide +kernel
theorem dX10_behindBlanks_17 : decode cX10_behindBlanks 17 = .ok (.caload, 1) := by decide +kernel
theorem dX10_behindBlanks_18 : decode cX10_behindBlanks 18 = .ok (.istore 4, 2) := by decide +kernel
theorem dX10_behindBlanks_20 : decode cX10_behindBlanks 20 = .ok (.iload 4, 2) := by decide +kernel
theorem dX10_behindBlanks_22 : decode cX10_behindBlanks 22 = .ok (.bipush 10, 2) := by decide +kernel
theorem dX10_behindBlanks_24 : decode cX10_behindBlanks 24 = .ok (.if_icmp .ne 8, 3) := by decide +kernel
theorem dX10_behindBlanks_27 : decode cX10_behindBlanks 27 = .ok (.iconst 0, 1) := by decide +kernel
theorem dX10_behindBlanks_28 : decode cX10_behindBlanks 28 = .ok (.istore_n 2, 1) := by decide +kernel
theorem dX10_behindBlanks_29 : decode cX10_behindBlanks 29 = .ok (.goto 55, 3) := by decide +kernel
theorem dX10_behindBlanks_32 : decode cX10_behindBlanks 32 = .ok (.iload_n 2, 1) := by decide +kernel
theorem dX10_behindBlanks_33 : decode cX10_behindBlanks 33 = .ok (.ifCond .ne 38, 3) := by decide +kernel
theorem dX10_behindBlanks_36 : decode cX10_behindBlanks 36 = .ok (.iload 4, 2) := by decide +kernel
theorem dX10_behindBlanks_38 : decode cX10_behindBlanks 38 = .ok (.bipush 47, 2) := by decide +kernel
theorem dX10_behindBlanks_40 : decode cX10_behindBlanks 40 = .ok (.if_icmp .ne 31, 3) := by decide +kernel
theorem dX10_behindBlanks_43 : decode cX10_behindBlanks 43 = .ok (.iload_n 3, 1) := by decide +kernel
theorem dX10_behindBlanks_44 : decode cX10_behindBlanks 44 = .ok (.iconst 1, 1) := by decide +kernel
theorem dX10_behindBlanks_45 : decode cX10_behindBlanks 45 = .ok (.iadd, 1) := by decide +kernel
theorem dX10_behindBlanks_46 : decode cX10_behindBlanks 46 = .ok (.aload_n 0, 1) := by decide +kernel
theorem dX10_behindBlanks_47 : decode cX10_behindBlanks 47 = .ok (.getfield 15, 3) := by decide +kernel
theorem dX10_behindBlanks_50 : decode cX10_behindBlanks 50 = .ok (.if_icmp .ge 21, 3) := by decide +kernel
theorem dX10_behindBlanks_53 : decode cX10_behindBlanks 53 = .ok (.aload_n 0, 1) := by decide +kernel
theorem dX10_behindBlanks_54 : decode cX10_behindBlanks 54 = .ok (.getfield 9, 3) := by decide +kernel
theorem dX10_behindBlanks_57 : decode cX10_behindBlanks 57 = .ok (.iload_n 3, 1) := by decide +kernel
theorem dX10_behindBlanks_58 : decode cX10_behindBlanks 58 = .ok (.iconst 1, 1) := by decide +kernel
theorem dX10_behindBlanks_59 : decode cX10_behindBlanks 59 = .ok (.iadd, 1) := by decide +kernel
theorem dX10_behindBlanks_60 : decode cX10_behindBlanks 60 = .ok (.caload, 1) := by decide +kernel
theorem dX10_behindBlanks_61 : decode cX10_behindBlanks 61 = .ok (.bipush 47, 2) := by decide +kernel
theorem dX10_behindBlanks_63 : decode cX10_behindBlanks 63 = .ok (.if_icmp .ne 8, 3) := by decide +kernel
theorem dX10_behindBlanks_66 : decode cX10_behindBlanks 66 = .ok (.iconst 1, 1) := by decide +kernel
theorem dX10_behindBlanks_67 : decode cX10_behindBlanks 67 = .ok (.istore_n 2, 1) := by decide +kernel
theorem dX10_behindBlanks_68 : decode cX10_behindBlanks 68 = .ok (.goto 16, 3) := by decide +kernel
theorem dX10_behindBlanks_71 : decode cX10_behindBlanks 71 = .ok (.iload_n 2, 1) := by decide +kernel
theorem dX10_behindBlanks_72 : decode cX10_behindBlanks 72 = .ok (.ifCond .ne 12, 3) := by decide +kernel
theorem dX10_behindBlanks_75 : decode cX10_behindBlanks 75 = .ok (.iload 4, 2) := by decide +kernel
theorem dX10_behindBlanks_77 : decode cX10_behindBlanks 77 = .ok (.bipush 32, 2) := by decide +kernel
theorem dX10_behindBlanks_79 : decode cX10_behindBlanks 79 = .ok (.if_icmp .eq 5, 3) := by decide +kernel
theorem dX10_behindBlanks_82 : decode cX10_behindBlanks 82 = .ok (.iload_n 3, 1) := by decide +kernel
theorem dX10_behindBlanks_83 : decode cX10_behindBlanks 83 = .ok (.ireturn, 1) := by decide +kernel
theorem dX10_behindBlanks_84 : decode cX10_behindBlanks 84 = .ok (.iinc 3 1, 3) := by decide +kernel
theorem dX10_behindBlanks_87 : decode cX10_behindBlanks 87 = .ok (.goto (-83), 3) := by decide +kernel
theorem dX10_behindBlanks_90 : decode cX10_behindBlanks 90 = .ok (.aload_n 0, 1) := by decide +kernel
theorem dX10_behindBlanks_91 : decode cX10_behindBlanks 91 = .ok (.getfield 15, 3) := by decide +kernel
theorem dX10_behindBlanks_94 : decode cX10_behindBlanks 94 = .ok (.ireturn, 1) := by decide +kernel
theorem dX10_rowEnd_0 : decode cX10_rowEnd 0 = .ok (.aload_n 0, 1) := by decide +kernel
theorem dX10_rowEnd_1 : decode cX10_rowEnd 1 = .ok (.getfield 9, 3) := by decide +kernel
theorem dX10_rowEnd_4 : decode cX10_rowEnd 4 = .ok (.iload_n 1, 1) := by decide +kernel
theorem dX10_rowEnd_5 : decode cX10_rowEnd 5 = .ok (.caload, 1) := by decide +kernel
theorem dX10_rowEnd_6 : decode cX10_rowEnd 6 = .ok (.invokestatic 72, 3) := by decide +kernel
theorem dX10_rowEnd_9 : decode cX10_rowEnd 9 = .ok (.istore_n 2, 1) := by decide +kernel
theorem dX10_rowEnd_10 : decode cX10_rowEnd 10 = .ok (.iload_n 2, 1) := by decide +kernel
theorem dX10_rowEnd_11 : decode cX10_rowEnd 11 = .ok (.ifCond .ne 19, 3) := by decide +kernel
theorem dX10_rowEnd_14 : decode cX10_rowEnd 14 = .ok (.aload_n 0, 1) := by decide +kernel
theorem dX10_rowEnd_15 : decode cX10_rowEnd 15 = .ok (.getfield 9, 3) := by decide +kernel
theorem dX10_rowEnd_18 : decode cX10_rowEnd 18 = .ok (.iload_n 1, 1) := by decide +kernel
theorem dX10_rowEnd_19 : decode cX10_rowEnd 19 = .ok (.caload, 1) := by decide +kernel
theorem dX10_rowEnd_20 : decode cX10_rowEnd 20 = .ok (.invokestatic 76, 3) := by decide +kernel
theorem dX10_rowEnd_23 : decode cX10_rowEnd 23 = .ok (.ifCond .ne 7, 3) := by decide +kernel
theorem dX10_rowEnd_26 : decode cX10_rowEnd 26 = .ok (.iload_n 1, 1) := by decide +kernel
theorem dX10_rowEnd_27 : decode cX10_rowEnd 27 = .ok (.iconst 1, 1) := by decide +kernel
theorem dX10_rowEnd_28 : decode cX10_rowEnd 28 = .ok (.iadd, 1) := by decide +kernel
theorem dX10_rowEnd_29 : decode cX10_rowEnd 29 = .ok (.ireturn, 1) := by decide +kernel
theorem dX10_rowEnd_30 : decode cX10_rowEnd 30 = .ok (.iload_n 1, 1) := by decide +kernel
theorem dX10_rowEnd_31 : decode cX10_rowEnd 31 = .ok (.iconst 1, 1) := by decide +kernel
theorem dX10_rowEnd_32 : decode cX10_rowEnd 32 = .ok (.iadd, 1) := by decide +kernel
theorem dX10_rowEnd_33 : decode cX10_rowEnd 33 = .ok (.istore_n 3, 1) := by decide +kernel
theorem dX10_rowEnd_34 : decode cX10_rowEnd 34 = .ok (.iload_n 3, 1) := by decide +kernel
theorem dX10_rowEnd_35 : decode cX10_rowEnd 35 = .ok (.aload_n 0, 1) := by decide +kernel
theorem dX10_rowEnd_36 : decode cX10_rowEnd 36 = .ok (.getfield 15, 3) := by decide +kernel
theorem dX10_rowEnd_39 : decode cX10_rowEnd 39 = .ok (.if_icmp .ge 39, 3) := by decide +kernel
theorem dX10_rowEnd_42 : decode cX10_rowEnd 42 = .ok (.aload_n 0, 1) := by decide +kernel
theorem dX10_rowEnd_43 : decode cX10_rowEnd 43 = .ok (.getfield 9, 3) := by decide +kernel
theorem dX10_rowEnd_46 : decode cX10_rowEnd 46 = .ok (.iload_n 3, 1) := by decide +kernel
theorem dX10_rowEnd_47 : decode cX10_rowEnd 47 = .ok (.caload, 1) := by decide +kernel
theorem dX10_rowEnd_48 : decode cX10_rowEnd 48 = .ok (.invokestatic 72, 3) := by decide +kernel
theorem dX10_rowEnd_51 : decode cX10_rowEnd 51 = .ok (.ifCond .ne 21, 3) := by decide +kernel
theorem dX10_rowEnd_54 : decode cX10_rowEnd 54 = .ok (.iload_n 2, 1) := by decide +kernel
theorem dX10_rowEnd_55 : decode cX10_rowEnd 55 = .ok (.ifCond .ne 15, 3) := by decide +kernel
theorem dX10_rowEnd_58 : decode cX10_rowEnd 58 = .ok (.aload_n 0, 1) := by decide +kernel
theorem dX10_rowEnd_59 : decode cX10_rowEnd 59 = .ok (.getfield 9, 3) := by decide +kernel
theorem dX10_rowEnd_62 : decode cX10_rowEnd 62 = .ok (.iload_n 3, 1) := by decide +kernel
theorem dX10_rowEnd_63 : decode cX10_rowEnd 63 = .ok (.caload, 1) := by decide +kernel
theorem dX10_rowEnd_64 : decode cX10_rowEnd 64 = .ok (.invokestatic 76, 3) := by decide +kernel
theorem dX10_rowEnd_67 : decode cX10_rowEnd 67 = .ok (.ifCond .ne 5, 3) := by decide +kernel
theorem dX10_rowEnd_70 : decode cX10_rowEnd 70 = .ok (.iload_n 3, 1) := by decide +kernel
theorem dX10_rowEnd_71 : decode cX10_rowEnd 71 = .ok (.ireturn, 1) := by decide +kernel
theorem dX10_rowEnd_72 : decode cX10_rowEnd 72 = .ok (.iinc 3 1, 3) := by decide +kernel
theorem dX10_rowEnd_75 : decode cX10_rowEnd 75 = .ok (.goto (-41), 3) := by decide +kernel
theorem dX10_rowEnd_78 : decode cX10_rowEnd 78 = .ok (.aload_n 0, 1) := by decide +kernel
theorem dX10_rowEnd_79 : decode cX10_rowEnd 79 = .ok (.getfield 15, 3) := by decide +kernel
theorem dX10_rowEnd_82 : decode cX10_rowEnd 82 = .ok (.ireturn, 1) := by decide +kernel
theorem dX10_addWord_0 : decode cX10_addWord 0 = .ok (.aload_n 0, 1) := by decide +kernel
theorem dX10_addWord_1 : decode cX10_addWord 1 = .ok (.getfield 19, 3) := by decide +kernel
theorem dX10_addWord_4 : decode cX10_addWord 4 = .ok (.aload_n 0, 1) := by decide +kernel
theorem dX10_addWord_5 : decode cX10_addWord 5 = .ok (.getfield 30, 3) := by decide +kernel
theorem dX10_addWord_8 : decode cX10_addWord 8 = .ok (.iload_n 1, 1) := by decide +kernel
theorem dX10_addWord_9 : decode cX10_addWord 9 = .ok (.iastore, 1) := by decide +kernel
theorem dX10_addWord_10 : decode cX10_addWord 10 = .ok (.aload_n 0, 1) := by decide +kernel
theorem dX10_addWord_11 : decode cX10_addWord 11 = .ok (.getfield 9, 3) := by decide +kernel
theorem dX10_addWord_14 : decode cX10_addWord 14 = .ok (.iload_n 1, 1) := by decide +kernel
theorem dX10_addWord_15 : decode cX10_addWord 15 = .ok (.caload, 1) := by decide +kernel
theorem dX10_addWord_16 : decode cX10_addWord 16 = .ok (.invokestatic 72, 3) := by decide +kernel
theorem dX10_addWord_19 : decode cX10_addWord 19 = .ok (.ifCond .eq 43, 3) := by decide +kernel
theorem dX10_addWord_22 : decode cX10_addWord 22 = .ok (.aload_n 0, 1) := by decide +kernel
theorem dX10_addWord_23 : decode cX10_addWord 23 = .ok (.getfield 26, 3) := by decide +kernel
theorem dX10_addWord_26 : decode cX10_addWord 26 = .ok (.aload_n 0, 1) := by decide +kernel
theorem dX10_addWord_27 : decode cX10_addWord 27 = .ok (.getfield 30, 3) := by decide +kernel
theorem dX10_addWord_30 : decode cX10_addWord 30 = .ok (.aload_n 0, 1) := by decide +kernel
theorem dX10_addWord_31 : decode cX10_addWord 31 = .ok (.iload_n 1, 1) := by decide +kernel
theorem dX10_addWord_32 : decode cX10_addWord 32 = .ok (.iload_n 2, 1) := by decide +kernel
theorem dX10_addWord_33 : decode cX10_addWord 33 = .ok (.invokevirtual 79, 3) := by decide +kernel
theorem dX10_addWord_36 : decode cX10_addWord 36 = .ok (.i2l, 1) := by decide +kernel
theorem dX10_addWord_37 : decode cX10_addWord 37 = .ok (.lastore, 1) := by decide +kernel
theorem dX10_addWord_38 : decode cX10_addWord 38 = .ok (.aload_n 0, 1) := by decide +kernel
theorem dX10_addWord_39 : decode cX10_addWord 39 = .ok (.getfield 23, 3) := by decide +kernel
theorem dX10_addWord_42 : decode cX10_addWord 42 = .ok (.aload_n 0, 1) := by decide +kernel
theorem dX10_addWord_43 : decode cX10_addWord 43 = .ok (.getfield 30, 3) := by decide +kernel
theorem dX10_addWord_46 : decode cX10_addWord 46 = .ok (.iload_n 2, 1) := by decide +kernel
theorem dX10_addWord_47 : decode cX10_addWord 47 = .ok (.iload_n 1, 1) := by decide +kernel
theorem dX10_addWord_48 : decode cX10_addWord 48 = .ok (.isub, 1) := by decide +kernel
theorem dX10_addWord_49 : decode cX10_addWord 49 = .ok (.iconst 2, 1) := by decide +kernel
theorem dX10_addWord_50 : decode cX10_addWord 50 = .ok (.if_icmp .le 7, 3) := by decide +kernel
theorem dX10_addWord_53 : decode cX10_addWord 53 = .ok (.iconst 4, 1) := by decide +kernel
theorem dX10_addWord_54 : decode cX10_addWord 54 = .ok (.goto 4, 3) := by decide +kernel
theorem dX10_addWord_57 : decode cX10_addWord 57 = .ok (.iconst 2, 1) := by decide +kernel
theorem dX10_addWord_58 : decode cX10_addWord 58 = .ok (.iastore, 1) := by decide +kernel
theorem dX10_addWord_59 : decode cX10_addWord 59 = .ok (.goto 94, 3) := by decide +kernel
theorem dX10_addWord_62 : decode cX10_addWord 62 = .ok (.aload_n 0, 1) := by decide +kernel
theorem dX10_addWord_63 : decode cX10_addWord 63 = .ok (.getfield 9, 3) := by decide +kernel
theorem dX10_addWord_66 : decode cX10_addWord 66 = .ok (.iload_n 1, 1) := by decide +kernel
theorem dX10_addWord_67 : decode cX10_addWord 67 = .ok (.caload, 1) := by decide +kernel
theorem dX10_addWord_68 : decode cX10_addWord 68 = .ok (.invokestatic 76, 3) := by decide +kernel
theorem dX10_addWord_71 : decode cX10_addWord 71 = .ok (.ifCond .eq 56, 3) := by decide +kernel
theorem dX10_addWord_74 : decode cX10_addWord 74 = .ok (.aload_n 0, 1) := by decide +kernel
theorem dX10_addWord_75 : decode cX10_addWord 75 = .ok (.iload_n 1, 1) := by decide +kernel
theorem dX10_addWord_76 : decode cX10_addWord 76 = .ok (.iload_n 2, 1) := by decide +kernel
theorem dX10_addWord_77 : decode cX10_addWord 77 = .ok (.invokevirtual 83, 3) := by decide +kernel
theorem dX10_addWord_80 : decode cX10_addWord 80 = .ok (.lstore_n 3, 1) := by decide +kernel
theorem dX10_addWord_81 : decode cX10_addWord 81 = .ok (.aload_n 0, 1) := by decide +kernel
theorem dX10_addWord_82 : decode cX10_addWord 82 = .ok (.getfield 26, 3) := by decide +kernel
theorem dX10_addWord_85 : decode cX10_addWord 85 = .ok (.aload_n 0, 1) := by decide +kernel
theorem dX10_addWord_86 : decode cX10_addWord 86 = .ok (.getfield 30, 3) := by decide +kernel
theorem dX10_addWord_89 : decode cX10_addWord 89 = .ok (.lload_n 3, 1) := by decide +kernel
theorem dX10_addWord_90 : decode cX10_addWord 90 = .ok (.lastore, 1) := by decide +kernel
theorem dX10_addWord_91 : decode cX10_addWord 91 = .ok (.aload_n 0, 1) := by decide +kernel
theorem dX10_addWord_92 : decode cX10_addWord 92 = .ok (.getfield 23, 3) := by decide +kernel
theorem dX10_addWord_95 : decode cX10_addWord 95 = .ok (.aload_n 0, 1) := by decide +kernel
theorem dX10_addWord_96 : decode cX10_addWord 96 = .ok (.getfield 30, 3) := by decide +kernel
theorem dX10_addWord_99 : decode cX10_addWord 99 = .ok (.iload_n 2, 1) := by decide +kernel
theorem dX10_addWord_100 : decode cX10_addWord 100 = .ok (.iload_n 1, 1) := by decide +kernel
theorem dX10_addWord_101 : decode cX10_addWord 101 = .ok (.isub, 1) := by decide +kernel
theorem dX10_addWord_102 : decode cX10_addWord 102 = .ok (.bipush 8, 2) := by decide +kernel
theorem dX10_addWord_104 : decode cX10_addWord 104 = .ok (.if_icmp .le 7, 3) := by decide +kernel
theorem dX10_addWord_107 : decode cX10_addWord 107 = .ok (.iconst 4, 1) := by decide +kernel
theorem dX10_addWord_108 : decode cX10_addWord 108 = .ok (.goto 15, 3) := by decide +kernel
theorem dX10_addWord_111 : decode cX10_addWord 111 = .ok (.lload_n 3, 1) := by decide +kernel
theorem dX10_addWord_112 : decode cX10_addWord 112 = .ok (.invokestatic 87, 3) := by decide +kernel
theorem dX10_addWord_115 : decode cX10_addWord 115 = .ok (.ifCond .eq 7, 3) := by decide +kernel
theorem dX10_addWord_118 : decode cX10_addWord 118 = .ok (.iconst 1, 1) := by decide +kernel
theorem dX10_addWord_119 : decode cX10_addWord 119 = .ok (.goto 4, 3) := by decide +kernel
theorem dX10_addWord_122 : decode cX10_addWord 122 = .ok (.iconst 0, 1) := by decide +kernel
theorem dX10_addWord_123 : decode cX10_addWord 123 = .ok (.iastore, 1) := by decide +kernel
theorem dX10_addWord_124 : decode cX10_addWord 124 = .ok (.goto 29, 3) := by decide +kernel
theorem dX10_addWord_127 : decode cX10_addWord 127 = .ok (.aload_n 0, 1) := by decide +kernel
theorem dX10_addWord_128 : decode cX10_addWord 128 = .ok (.getfield 26, 3) := by decide +kernel
theorem dX10_addWord_131 : decode cX10_addWord 131 = .ok (.aload_n 0, 1) := by decide +kernel
theorem dX10_addWord_132 : decode cX10_addWord 132 = .ok (.getfield 30, 3) := by decide +kernel
theorem dX10_addWord_135 : decode cX10_addWord 135 = .ok (.aload_n 0, 1) := by decide +kernel
theorem dX10_addWord_136 : decode cX10_addWord 136 = .ok (.getfield 9, 3) := by decide +kernel
theorem dX10_addWord_139 : decode cX10_addWord 139 = .ok (.iload_n 1, 1) := by decide +kernel
theorem dX10_addWord_140 : decode cX10_addWord 140 = .ok (.caload, 1) := by decide +kernel
theorem dX10_addWord_141 : decode cX10_addWord 141 = .ok (.i2l, 1) := by decide +kernel
theorem dX10_addWord_142 : decode cX10_addWord 142 = .ok (.lastore, 1) := by decide +kernel
theorem dX10_addWord_143 : decode cX10_addWord 143 = .ok (.aload_n 0, 1) := by decide +kernel
theorem dX10_addWord_144 : decode cX10_addWord 144 = .ok (.getfield 23, 3) := by decide +kernel
theorem dX10_addWord_147 : decode cX10_addWord 147 = .ok (.aload_n 0, 1) := by decide +kernel
theorem dX10_addWord_148 : decode cX10_addWord 148 = .ok (.getfield 30, 3) := by decide +kernel
theorem dX10_addWord_151 : decode cX10_addWord 151 = .ok (.iconst 3, 1) := by decide +kernel
theorem dX10_addWord_152 : decode cX10_addWord 152 = .ok (.iastore, 1) := by decide +kernel
theorem dX10_addWord_153 : decode cX10_addWord 153 = .ok (.aload_n 0, 1) := by decide +kernel
theorem dX10_addWord_154 : decode cX10_addWord 154 = .ok (.dup, 1) := by decide +kernel
theorem dX10_addWord_155 : decode cX10_addWord 155 = .ok (.getfield 30, 3) := by decide +kernel
theorem dX10_addWord_158 : decode cX10_addWord 158 = .ok (.iconst 1, 1) := by decide +kernel
theorem dX10_addWord_159 : decode cX10_addWord 159 = .ok (.iadd, 1) := by decide +kernel
theorem dX10_addWord_160 : decode cX10_addWord 160 = .ok (.putfield 30, 3) := by decide +kernel
theorem dX10_addWord_163 : decode cX10_addWord 163 = .ok (.return_, 1) := by decide +kernel
theorem dX10_numberIn_0 : decode cX10_numberIn 0 = .ok (.iconst 0, 1) := by decide +kernel
theorem dX10_numberIn_1 : decode cX10_numberIn 1 = .ok (.istore_n 3, 1) := by decide +kernel
theorem dX10_numberIn_2 : decode cX10_numberIn 2 = .ok (.iload_n 1, 1) := by decide +kernel
theorem dX10_numberIn_3 : decode cX10_numberIn 3 = .ok (.istore 4, 2) := by decide +kernel
theorem dX10_numberIn_5 : decode cX10_numberIn 5 = .ok (.iload 4, 2) := by decide +kernel
theorem dX10_numberIn_7 : decode cX10_numberIn 7 = .ok (.iload_n 2, 1) := by decide +kernel
theorem dX10_numberIn_8 : decode cX10_numberIn 8 = .ok (.if_icmp .ge 33, 3) := by decide +kernel
theorem dX10_numberIn_11 : decode cX10_numberIn 11 = .ok (.iload 4, 2) := by decide +kernel
theorem dX10_numberIn_13 : decode cX10_numberIn 13 = .ok (.iload_n 1, 1) := by decide +kernel
theorem dX10_numberIn_14 : decode cX10_numberIn 14 = .ok (.iconst 2, 1) := by decide +kernel
theorem dX10_numberIn_15 : decode cX10_numberIn 15 = .ok (.iadd, 1) := by decide +kernel
theorem dX10_numberIn_16 : decode cX10_numberIn 16 = .ok (.if_icmp .ge 25, 3) := by decide +kernel
theorem dX10_numberIn_19 : decode cX10_numberIn 19 = .ok (.iload_n 3, 1) := by decide +kernel
theorem dX10_numberIn_20 : decode cX10_numberIn 20 = .ok (.bipush 10, 2) := by decide +kernel
theorem dX10_numberIn_22 : decode cX10_numberIn 22 = .ok (.imul, 1) := by decide +kernel
theorem dX10_numberIn_23 : decode cX10_numberIn 23 = .ok (.aload_n 0, 1) := by decide +kernel
theorem dX10_numberIn_24 : decode cX10_numberIn 24 = .ok (.getfield 9, 3) := by decide +kernel
theorem dX10_numberIn_27 : decode cX10_numberIn 27 = .ok (.iload 4, 2) := by decide +kernel
theorem dX10_numberIn_29 : decode cX10_numberIn 29 = .ok (.caload, 1) := by decide +kernel
theorem dX10_numberIn_30 : decode cX10_numberIn 30 = .ok (.iadd, 1) := by decide +kernel
theorem dX10_numberIn_31 : decode cX10_numberIn 31 = .ok (.bipush 48, 2) := by decide +kernel
theorem dX10_numberIn_33 : decode cX10_numberIn 33 = .ok (.isub, 1) := by decide +kernel
theorem dX10_numberIn_34 : decode cX10_numberIn 34 = .ok (.istore_n 3, 1) := by decide +kernel
theorem dX10_numberIn_35 : decode cX10_numberIn 35 = .ok (.iinc 4 1, 3) := by decide +kernel
theorem dX10_numberIn_38 : decode cX10_numberIn 38 = .ok (.goto (-33), 3) := by decide +kernel
theorem dX10_numberIn_41 : decode cX10_numberIn 41 = .ok (.iload_n 3, 1) := by decide +kernel
theorem dX10_numberIn_42 : decode cX10_numberIn 42 = .ok (.ireturn, 1) := by decide +kernel
theorem dX10_nameIn_0 : decode cX10_nameIn 0 = .ok (.lconst 0, 1) := by decide +kernel
theorem dX10_nameIn_1 : decode cX10_nameIn 1 = .ok (.lstore_n 3, 1) := by decide +kernel
theorem dX10_nameIn_2 : decode cX10_nameIn 2 = .ok (.iconst 0, 1) := by decide +kernel
theorem dX10_nameIn_3 : decode cX10_nameIn 3 = .ok (.istore 5, 2) := by decide +kernel
theorem dX10_nameIn_5 : decode cX10_nameIn 5 = .ok (.iload 5, 2) := by decide +kernel
theorem dX10_nameIn_7 : decode cX10_nameIn 7 = .ok (.bipush 8, 2) := by decide +kernel
theorem dX10_nameIn_9 : decode cX10_nameIn 9 = .ok (.if_icmp .ge 39, 3) := by decide +kernel
theorem dX10_nameIn_12 : decode cX10_nameIn 12 = .ok (.iload_n 1, 1) := by decide +kernel
theorem dX10_nameIn_13 : decode cX10_nameIn 13 = .ok (.iload 5, 2) := by decide +kernel
theorem dX10_nameIn_15 : decode cX10_nameIn 15 = .ok (.iadd, 1) := by decide +kernel
theorem dX10_nameIn_16 : decode cX10_nameIn 16 = .ok (.iload_n 2, 1) := by decide +kernel
theorem dX10_nameIn_17 : decode cX10_nameIn 17 = .ok (.if_icmp .ge 31, 3) := by decide +kernel
theorem dX10_nameIn_20 : decode cX10_nameIn 20 = .ok (.lload_n 3, 1) := by decide +kernel
theorem dX10_nameIn_21 : decode cX10_nameIn 21 = .ok (.aload_n 0, 1) := by decide +kernel
theorem dX10_nameIn_22 : decode cX10_nameIn 22 = .ok (.getfield 9, 3) := by decide +kernel
theorem dX10_nameIn_25 : decode cX10_nameIn 25 = .ok (.iload_n 1, 1) := by decide +kernel
theorem dX10_nameIn_26 : decode cX10_nameIn 26 = .ok (.iload 5, 2) := by decide +kernel
theorem dX10_nameIn_28 : decode cX10_nameIn 28 = .ok (.iadd, 1) := by decide +kernel
theorem dX10_nameIn_29 : decode cX10_nameIn 29 = .ok (.caload, 1) := by decide +kernel
theorem dX10_nameIn_30 : decode cX10_nameIn 30 = .ok (.i2l, 1) := by decide +kernel
theorem dX10_nameIn_31 : decode cX10_nameIn 31 = .ok (.bipush 56, 2) := by decide +kernel
theorem dX10_nameIn_33 : decode cX10_nameIn 33 = .ok (.bipush 8, 2) := by decide +kernel
theorem dX10_nameIn_35 : decode cX10_nameIn 35 = .ok (.iload 5, 2) := by decide +kernel
theorem dX10_nameIn_37 : decode cX10_nameIn 37 = .ok (.imul, 1) := by decide +kernel
theorem dX10_nameIn_38 : decode cX10_nameIn 38 = .ok (.isub, 1) := by decide +kernel
theorem dX10_nameIn_39 : decode cX10_nameIn 39 = .ok (.lshl, 1) := by decide +kernel
theorem dX10_nameIn_40 : decode cX10_nameIn 40 = .ok (.lor, 1) := by decide +kernel
theorem dX10_nameIn_41 : decode cX10_nameIn 41 = .ok (.lstore_n 3, 1) := by decide +kernel
theorem dX10_nameIn_42 : decode cX10_nameIn 42 = .ok (.iinc 5 1, 3) := by decide +kernel
theorem dX10_nameIn_45 : decode cX10_nameIn 45 = .ok (.goto (-40), 3) := by decide +kernel
theorem dX10_nameIn_48 : decode cX10_nameIn 48 = .ok (.lload_n 3, 1) := by decide +kernel
theorem dX10_nameIn_49 : decode cX10_nameIn 49 = .ok (.lreturn, 1) := by decide +kernel
theorem dX10_place_0 : decode cX10_place 0 = .ok (.aload_n 0, 1) := by decide +kernel
theorem dX10_place_1 : decode cX10_place 1 = .ok (.getfield 19, 3) := by decide +kernel
theorem dX10_place_4 : decode cX10_place 4 = .ok (.aload_n 0, 1) := by decide +kernel
theorem dX10_place_5 : decode cX10_place 5 = .ok (.getfield 33, 3) := by decide +kernel
theorem dX10_place_8 : decode cX10_place 8 = .ok (.iaload, 1) := by decide +kernel
theorem dX10_place_9 : decode cX10_place 9 = .ok (.ireturn, 1) := by decide +kernel
theorem dX10_isAtEnd_0 : decode cX10_isAtEnd 0 = .ok (.aload_n 0, 1) := by decide +kernel
theorem dX10_isAtEnd_1 : decode cX10_isAtEnd 1 = .ok (.getfield 33, 3) := by decide +kernel
theorem dX10_isAtEnd_4 : decode cX10_isAtEnd 4 = .ok (.aload_n 0, 1) := by decide +kernel
theorem dX10_isAtEnd_5 : decode cX10_isAtEnd 5 = .ok (.getfield 30, 3) := by decide +kernel
theorem dX10_isAtEnd_8 : decode cX10_isAtEnd 8 = .ok (.if_icmp .lt 7, 3) := by decide +kernel
theorem dX10_isAtEnd_11 : decode cX10_isAtEnd 11 = .ok (.iconst 1, 1) := by decide +kernel
theorem dX10_isAtEnd_12 : decode cX10_isAtEnd 12 = .ok (.goto 4, 3) := by decide +kernel
theorem dX10_isAtEnd_15 : decode cX10_isAtEnd 15 = .ok (.iconst 0, 1) := by decide +kernel
theorem dX10_isAtEnd_16 : decode cX10_isAtEnd 16 = .ok (.ireturn, 1) := by decide +kernel
theorem dX10_isNumber_0 : decode cX10_isNumber 0 = .ok (.aload_n 0, 1) := by decide +kernel
theorem dX10_isNumber_1 : decode cX10_isNumber 1 = .ok (.getfield 23, 3) := by decide +kernel
theorem dX10_isNumber_4 : decode cX10_isNumber 4 = .ok (.aload_n 0, 1) := by decide +kernel
theorem dX10_isNumber_5 : decode cX10_isNumber 5 = .ok (.getfield 33, 3) := by decide +kernel
theorem dX10_isNumber_8 : decode cX10_isNumber 8 = .ok (.iaload, 1) := by decide +kernel
theorem dX10_isNumber_9 : decode cX10_isNumber 9 = .ok (.iconst 2, 1) := by decide +kernel
theorem dX10_isNumber_10 : decode cX10_isNumber 10 = .ok (.if_icmp .ne 7, 3) := by decide +kernel
theorem dX10_isNumber_13 : decode cX10_isNumber 13 = .ok (.iconst 1, 1) := by decide +kernel
theorem dX10_isNumber_14 : decode cX10_isNumber 14 = .ok (.goto 4, 3) := by decide +kernel
theorem dX10_isNumber_17 : decode cX10_isNumber 17 = .ok (.iconst 0, 1) := by decide +kernel
theorem dX10_isNumber_18 : decode cX10_isNumber 18 = .ok (.ireturn, 1) := by decide +kernel
theorem dX10_isSign_0 : decode cX10_isSign 0 = .ok (.aload_n 0, 1) := by decide +kernel
theorem dX10_isSign_1 : decode cX10_isSign 1 = .ok (.getfield 23, 3) := by decide +kernel
theorem dX10_isSign_4 : decode cX10_isSign 4 = .ok (.aload_n 0, 1) := by decide +kernel
theorem dX10_isSign_5 : decode cX10_isSign 5 = .ok (.getfield 33, 3) := by decide +kernel
theorem dX10_isSign_8 : decode cX10_isSign 8 = .ok (.iaload, 1) := by decide +kernel
theorem dX10_isSign_9 : decode cX10_isSign 9 = .ok (.iconst 3, 1) := by decide +kernel
theorem dX10_isSign_10 : decode cX10_isSign 10 = .ok (.if_icmp .ne 22, 3) := by decide +kernel
theorem dX10_isSign_13 : decode cX10_isSign 13 = .ok (.aload_n 0, 1) := by decide +kernel
theorem dX10_isSign_14 : decode cX10_isSign 14 = .ok (.getfield 26, 3) := by decide +kernel
theorem dX10_isSign_17 : decode cX10_isSign 17 = .ok (.aload_n 0, 1) := by decide +kernel
theorem dX10_isSign_18 : decode cX10_isSign 18 = .ok (.getfield 33, 3) := by decide +kernel
theorem dX10_isSign_21 : decode cX10_isSign 21 = .ok (.laload, 1) := by decide +kernel
theorem dX10_isSign_22 : decode cX10_isSign 22 = .ok (.iload_n 1, 1) := by decide +kernel
theorem dX10_isSign_23 : decode cX10_isSign 23 = .ok (.i2l, 1) := by decide +kernel
theorem dX10_isSign_24 : decode cX10_isSign 24 = .ok (.lcmp, 1) := by decide +kernel
theorem dX10_isSign_25 : decode cX10_isSign 25 = .ok (.ifCond .ne 7, 3) := by decide +kernel
theorem dX10_isSign_28 : decode cX10_isSign 28 = .ok (.iconst 1, 1) := by decide +kernel
theorem dX10_isSign_29 : decode cX10_isSign 29 = .ok (.goto 4, 3) := by decide +kernel
theorem dX10_isSign_32 : decode cX10_isSign 32 = .ok (.iconst 0, 1) := by decide +kernel
theorem dX10_isSign_33 : decode cX10_isSign 33 = .ok (.ireturn, 1) := by decide +kernel
theorem dX10_isText_0 : decode cX10_isText 0 = .ok (.aload_n 0, 1) := by decide +kernel
theorem dX10_isText_1 : decode cX10_isText 1 = .ok (.getfield 23, 3) := by decide +kernel
theorem dX10_isText_4 : decode cX10_isText 4 = .ok (.aload_n 0, 1) := by decide +kernel
theorem dX10_isText_5 : decode cX10_isText 5 = .ok (.getfield 33, 3) := by decide +kernel
theorem dX10_isText_8 : decode cX10_isText 8 = .ok (.iaload, 1) := by decide +kernel
theorem dX10_isText_9 : decode cX10_isText 9 = .ok (.ifCond .eq 16, 3) := by decide +kernel
theorem dX10_isText_12 : decode cX10_isText 12 = .ok (.aload_n 0, 1) := by decide +kernel
theorem dX10_isText_13 : decode cX10_isText 13 = .ok (.getfield 23, 3) := by decide +kernel
theorem dX10_isText_16 : decode cX10_isText 16 = .ok (.aload_n 0, 1) := by decide +kernel
theorem dX10_isText_17 : decode cX10_isText 17 = .ok (.getfield 33, 3) := by decide +kernel
theorem dX10_isText_20 : decode cX10_isText 20 = .ok (.iaload, 1) := by decide +kernel
theorem dX10_isText_21 : decode cX10_isText 21 = .ok (.iconst 1, 1) := by decide +kernel
theorem dX10_isText_22 : decode cX10_isText 22 = .ok (.if_icmp .ne 24, 3) := by decide +kernel
theorem dX10_isText_25 : decode cX10_isText 25 = .ok (.aload_n 0, 1) := by decide +kernel
theorem dX10_isText_26 : decode cX10_isText 26 = .ok (.getfield 26, 3) := by decide +kernel
theorem dX10_isText_29 : decode cX10_isText 29 = .ok (.aload_n 0, 1) := by decide +kernel
theorem dX10_isText_30 : decode cX10_isText 30 = .ok (.getfield 33, 3) := by decide +kernel
theorem dX10_isText_33 : decode cX10_isText 33 = .ok (.laload, 1) := by decide +kernel
theorem dX10_isText_34 : decode cX10_isText 34 = .ok (.aload_n 1, 1) := by decide +kernel
theorem dX10_isText_35 : decode cX10_isText 35 = .ok (.invokestatic 47, 3) := by decide +kernel
theorem dX10_isText_38 : decode cX10_isText 38 = .ok (.lcmp, 1) := by decide +kernel
theorem dX10_isText_39 : decode cX10_isText 39 = .ok (.ifCond .ne 7, 3) := by decide +kernel
theorem dX10_isText_42 : decode cX10_isText 42 = .ok (.iconst 1, 1) := by decide +kernel
theorem dX10_isText_43 : decode cX10_isText 43 = .ok (.goto 4, 3) := by decide +kernel
theorem dX10_isText_46 : decode cX10_isText 46 = .ok (.iconst 0, 1) := by decide +kernel
theorem dX10_isText_47 : decode cX10_isText 47 = .ok (.ireturn, 1) := by decide +kernel
theorem dX10_step_0 : decode cX10_step 0 = .ok (.aload_n 0, 1) := by decide +kernel
theorem dX10_step_1 : decode cX10_step 1 = .ok (.getfield 33, 3) := by decide +kernel
theorem dX10_step_4 : decode cX10_step 4 = .ok (.aload_n 0, 1) := by decide +kernel
theorem dX10_step_5 : decode cX10_step 5 = .ok (.getfield 30, 3) := by decide +kernel
theorem dX10_step_8 : decode cX10_step 8 = .ok (.if_icmp .ge 13, 3) := by decide +kernel
theorem dX10_step_11 : decode cX10_step 11 = .ok (.aload_n 0, 1) := by decide +kernel
theorem dX10_step_12 : decode cX10_step 12 = .ok (.dup, 1) := by decide +kernel
theorem dX10_step_13 : decode cX10_step 13 = .ok (.getfield 33, 3) := by decide +kernel
theorem dX10_step_16 : decode cX10_step 16 = .ok (.iconst 1, 1) := by decide +kernel
theorem dX10_step_17 : decode cX10_step 17 = .ok (.iadd, 1) := by decide +kernel
theorem dX10_step_18 : decode cX10_step 18 = .ok (.putfield 33, 3) := by decide +kernel
theorem dX10_step_21 : decode cX10_step 21 = .ok (.return_, 1) := by decide +kernel
theorem dX10_skips_0 : decode cX10_skips 0 = .ok (.aload_n 0, 1) := by decide +kernel
theorem dX10_skips_1 : decode cX10_skips 1 = .ok (.getfield 23, 3) := by decide +kernel
theorem dX10_skips_4 : decode cX10_skips 4 = .ok (.aload_n 0, 1) := by decide +kernel
theorem dX10_skips_5 : decode cX10_skips 5 = .ok (.getfield 33, 3) := by decide +kernel
theorem dX10_skips_8 : decode cX10_skips 8 = .ok (.iaload, 1) := by decide +kernel
theorem dX10_skips_9 : decode cX10_skips 9 = .ok (.iconst 3, 1) := by decide +kernel
theorem dX10_skips_10 : decode cX10_skips 10 = .ok (.if_icmp .ne 22, 3) := by decide +kernel
theorem dX10_skips_13 : decode cX10_skips 13 = .ok (.aload_n 0, 1) := by decide +kernel
theorem dX10_skips_14 : decode cX10_skips 14 = .ok (.getfield 26, 3) := by decide +kernel
theorem dX10_skips_17 : decode cX10_skips 17 = .ok (.aload_n 0, 1) := by decide +kernel
theorem dX10_skips_18 : decode cX10_skips 18 = .ok (.getfield 33, 3) := by decide +kernel
theorem dX10_skips_21 : decode cX10_skips 21 = .ok (.laload, 1) := by decide +kernel
theorem dX10_skips_22 : decode cX10_skips 22 = .ok (.iload_n 1, 1) := by decide +kernel
theorem dX10_skips_23 : decode cX10_skips 23 = .ok (.i2l, 1) := by decide +kernel
theorem dX10_skips_24 : decode cX10_skips 24 = .ok (.lcmp, 1) := by decide +kernel
theorem dX10_skips_25 : decode cX10_skips 25 = .ok (.ifCond .ne 7, 3) := by decide +kernel
theorem dX10_skips_28 : decode cX10_skips 28 = .ok (.iconst 1, 1) := by decide +kernel
theorem dX10_skips_29 : decode cX10_skips 29 = .ok (.goto 4, 3) := by decide +kernel
theorem dX10_skips_32 : decode cX10_skips 32 = .ok (.iconst 0, 1) := by decide +kernel
theorem dX10_skips_33 : decode cX10_skips 33 = .ok (.istore_n 2, 1) := by decide +kernel
theorem dX10_skips_34 : decode cX10_skips 34 = .ok (.iload_n 2, 1) := by decide +kernel
theorem dX10_skips_35 : decode cX10_skips 35 = .ok (.ifCond .eq 13, 3) := by decide +kernel
theorem dX10_skips_38 : decode cX10_skips 38 = .ok (.aload_n 0, 1) := by decide +kernel
theorem dX10_skips_39 : decode cX10_skips 39 = .ok (.dup, 1) := by decide +kernel
theorem dX10_skips_40 : decode cX10_skips 40 = .ok (.getfield 33, 3) := by decide +kernel
theorem dX10_skips_43 : decode cX10_skips 43 = .ok (.iconst 1, 1) := by decide +kernel
theorem dX10_skips_44 : decode cX10_skips 44 = .ok (.iadd, 1) := by decide +kernel
theorem dX10_skips_45 : decode cX10_skips 45 = .ok (.putfield 33, 3) := by decide +kernel
theorem dX10_skips_48 : decode cX10_skips 48 = .ok (.iload_n 2, 1) := by decide +kernel
theorem dX10_skips_49 : decode cX10_skips 49 = .ok (.ireturn, 1) := by decide +kernel
theorem dX10_refuseIf_0 : decode cX10_refuseIf 0 = .ok (.iload_n 1, 1) := by decide +kernel
theorem dX10_refuseIf_1 : decode cX10_refuseIf 1 = .ok (.ifCond .eq 11, 3) := by decide +kernel
theorem dX10_refuseIf_4 : decode cX10_refuseIf 4 = .ok (.new 91, 3) := by decide +kernel
theorem dX10_refuseIf_7 : decode cX10_refuseIf 7 = .ok (.dup, 1) := by decide +kernel
theorem dX10_refuseIf_8 : decode cX10_refuseIf 8 = .ok (.invokespecial 93, 3) := by decide +kernel
theorem dX10_refuseIf_11 : decode cX10_refuseIf 11 = .ok (.athrow, 1) := by decide +kernel
theorem dX10_refuseIf_12 : decode cX10_refuseIf 12 = .ok (.return_, 1) := by decide +kernel
theorem dX10_name_0 : decode cX10_name 0 = .ok (.aload_n 0, 1) := by decide +kernel
theorem dX10_name_1 : decode cX10_name 1 = .ok (.getfield 23, 3) := by decide +kernel
theorem dX10_name_4 : decode cX10_name 4 = .ok (.aload_n 0, 1) := by decide +kernel
theorem dX10_name_5 : decode cX10_name 5 = .ok (.getfield 33, 3) := by decide +kernel
theorem dX10_name_8 : decode cX10_name 8 = .ok (.iaload, 1) := by decide +kernel
theorem dX10_name_9 : decode cX10_name 9 = .ok (.ifCond .eq 11, 3) := by decide +kernel
theorem dX10_name_12 : decode cX10_name 12 = .ok (.new 91, 3) := by decide +kernel
theorem dX10_name_15 : decode cX10_name 15 = .ok (.dup, 1) := by decide +kernel
theorem dX10_name_16 : decode cX10_name 16 = .ok (.invokespecial 93, 3) := by decide +kernel
theorem dX10_name_19 : decode cX10_name 19 = .ok (.athrow, 1) := by decide +kernel
theorem dX10_name_20 : decode cX10_name 20 = .ok (.aload_n 0, 1) := by decide +kernel
theorem dX10_name_21 : decode cX10_name 21 = .ok (.getfield 26, 3) := by decide +kernel
theorem dX10_name_24 : decode cX10_name 24 = .ok (.aload_n 0, 1) := by decide +kernel
theorem dX10_name_25 : decode cX10_name 25 = .ok (.getfield 33, 3) := by decide +kernel
theorem dX10_name_28 : decode cX10_name 28 = .ok (.laload, 1) := by decide +kernel
theorem dX10_name_29 : decode cX10_name 29 = .ok (.lreturn, 1) := by decide +kernel
theorem dX10_takeNumber_0 : decode cX10_takeNumber 0 = .ok (.aload_n 0, 1) := by decide +kernel
theorem dX10_takeNumber_1 : decode cX10_takeNumber 1 = .ok (.getfield 23, 3) := by decide +kernel
theorem dX10_takeNumber_4 : decode cX10_takeNumber 4 = .ok (.aload_n 0, 1) := by decide +kernel
theorem dX10_takeNumber_5 : decode cX10_takeNumber 5 = .ok (.getfield 33, 3) := by decide +kernel
theorem dX10_takeNumber_8 : decode cX10_takeNumber 8 = .ok (.iaload, 1) := by decide +kernel
theorem dX10_takeNumber_9 : decode cX10_takeNumber 9 = .ok (.iconst 2, 1) := by decide +kernel
theorem dX10_takeNumber_10 : decode cX10_takeNumber 10 = .ok (.if_icmp .ne 33, 3) := by decide +kernel
theorem dX10_takeNumber_13 : decode cX10_takeNumber 13 = .ok (.aload_n 0, 1) := by decide +kernel
theorem dX10_takeNumber_14 : decode cX10_takeNumber 14 = .ok (.getfield 26, 3) := by decide +kernel
theorem dX10_takeNumber_17 : decode cX10_takeNumber 17 = .ok (.aload_n 0, 1) := by decide +kernel
theorem dX10_takeNumber_18 : decode cX10_takeNumber 18 = .ok (.getfield 33, 3) := by decide +kernel
theorem dX10_takeNumber_21 : decode cX10_takeNumber 21 = .ok (.laload, 1) := by decide +kernel
theorem dX10_takeNumber_22 : decode cX10_takeNumber 22 = .ok (.iload_n 1, 1) := by decide +kernel
theorem dX10_takeNumber_23 : decode cX10_takeNumber 23 = .ok (.i2l, 1) := by decide +kernel
theorem dX10_takeNumber_24 : decode cX10_takeNumber 24 = .ok (.lcmp, 1) := by decide +kernel
theorem dX10_takeNumber_25 : decode cX10_takeNumber 25 = .ok (.ifCond .lt 18, 3) := by decide +kernel
theorem dX10_takeNumber_28 : decode cX10_takeNumber 28 = .ok (.aload_n 0, 1) := by decide +kernel
theorem dX10_takeNumber_29 : decode cX10_takeNumber 29 = .ok (.getfield 26, 3) := by decide +kernel
theorem dX10_takeNumber_32 : decode cX10_takeNumber 32 = .ok (.aload_n 0, 1) := by decide +kernel
theorem dX10_takeNumber_33 : decode cX10_takeNumber 33 = .ok (.getfield 33, 3) := by decide +kernel
theorem dX10_takeNumber_36 : decode cX10_takeNumber 36 = .ok (.laload, 1) := by decide +kernel
theorem dX10_takeNumber_37 : decode cX10_takeNumber 37 = .ok (.iload_n 2, 1) := by decide +kernel
theorem dX10_takeNumber_38 : decode cX10_takeNumber 38 = .ok (.i2l, 1) := by decide +kernel
theorem dX10_takeNumber_39 : decode cX10_takeNumber 39 = .ok (.lcmp, 1) := by decide +kernel
theorem dX10_takeNumber_40 : decode cX10_takeNumber 40 = .ok (.ifCond .le 11, 3) := by decide +kernel
theorem dX10_takeNumber_43 : decode cX10_takeNumber 43 = .ok (.new 91, 3) := by decide +kernel
theorem dX10_takeNumber_46 : decode cX10_takeNumber 46 = .ok (.dup, 1) := by decide +kernel
theorem dX10_takeNumber_47 : decode cX10_takeNumber 47 = .ok (.invokespecial 93, 3) := by decide +kernel
theorem dX10_takeNumber_50 : decode cX10_takeNumber 50 = .ok (.athrow, 1) := by decide +kernel
theorem dX10_takeNumber_51 : decode cX10_takeNumber 51 = .ok (.aload_n 0, 1) := by decide +kernel
theorem dX10_takeNumber_52 : decode cX10_takeNumber 52 = .ok (.getfield 26, 3) := by decide +kernel
theorem dX10_takeNumber_55 : decode cX10_takeNumber 55 = .ok (.aload_n 0, 1) := by decide +kernel
theorem dX10_takeNumber_56 : decode cX10_takeNumber 56 = .ok (.getfield 33, 3) := by decide +kernel
theorem dX10_takeNumber_59 : decode cX10_takeNumber 59 = .ok (.laload, 1) := by decide +kernel
theorem dX10_takeNumber_60 : decode cX10_takeNumber 60 = .ok (.l2i, 1) := by decide +kernel
theorem dX10_takeNumber_61 : decode cX10_takeNumber 61 = .ok (.istore_n 3, 1) := by decide +kernel
theorem dX10_takeNumber_62 : decode cX10_takeNumber 62 = .ok (.aload_n 0, 1) := by decide +kernel
theorem dX10_takeNumber_63 : decode cX10_takeNumber 63 = .ok (.dup, 1) := by decide +kernel
theorem dX10_takeNumber_64 : decode cX10_takeNumber 64 = .ok (.getfield 33, 3) := by decide +kernel
theorem dX10_takeNumber_67 : decode cX10_takeNumber 67 = .ok (.iconst 1, 1) := by decide +kernel
theorem dX10_takeNumber_68 : decode cX10_takeNumber 68 = .ok (.iadd, 1) := by decide +kernel
theorem dX10_takeNumber_69 : decode cX10_takeNumber 69 = .ok (.putfield 33, 3) := by decide +kernel
theorem dX10_takeNumber_72 : decode cX10_takeNumber 72 = .ok (.iload_n 3, 1) := by decide +kernel
theorem dX10_takeNumber_73 : decode cX10_takeNumber 73 = .ok (.ireturn, 1) := by decide +kernel
theorem dX10_takeSign_0 : decode cX10_takeSign 0 = .ok (.aload_n 0, 1) := by decide +kernel
theorem dX10_takeSign_1 : decode cX10_takeSign 1 = .ok (.getfield 23, 3) := by decide +kernel
theorem dX10_takeSign_4 : decode cX10_takeSign 4 = .ok (.aload_n 0, 1) := by decide +kernel
theorem dX10_takeSign_5 : decode cX10_takeSign 5 = .ok (.getfield 33, 3) := by decide +kernel
theorem dX10_takeSign_8 : decode cX10_takeSign 8 = .ok (.iaload, 1) := by decide +kernel
theorem dX10_takeSign_9 : decode cX10_takeSign 9 = .ok (.iconst 3, 1) := by decide +kernel
theorem dX10_takeSign_10 : decode cX10_takeSign 10 = .ok (.if_icmp .ne 18, 3) := by decide +kernel
theorem dX10_takeSign_13 : decode cX10_takeSign 13 = .ok (.aload_n 0, 1) := by decide +kernel
theorem dX10_takeSign_14 : decode cX10_takeSign 14 = .ok (.getfield 26, 3) := by decide +kernel
theorem dX10_takeSign_17 : decode cX10_takeSign 17 = .ok (.aload_n 0, 1) := by decide +kernel
theorem dX10_takeSign_18 : decode cX10_takeSign 18 = .ok (.getfield 33, 3) := by decide +kernel
theorem dX10_takeSign_21 : decode cX10_takeSign 21 = .ok (.laload, 1) := by decide +kernel
theorem dX10_takeSign_22 : decode cX10_takeSign 22 = .ok (.iload_n 1, 1) := by decide +kernel
theorem dX10_takeSign_23 : decode cX10_takeSign 23 = .ok (.i2l, 1) := by decide +kernel
theorem dX10_takeSign_24 : decode cX10_takeSign 24 = .ok (.lcmp, 1) := by decide +kernel
theorem dX10_takeSign_25 : decode cX10_takeSign 25 = .ok (.ifCond .eq 11, 3) := by decide +kernel
theorem dX10_takeSign_28 : decode cX10_takeSign 28 = .ok (.new 91, 3) := by decide +kernel
theorem dX10_takeSign_31 : decode cX10_takeSign 31 = .ok (.dup, 1) := by decide +kernel
theorem dX10_takeSign_32 : decode cX10_takeSign 32 = .ok (.invokespecial 93, 3) := by decide +kernel
theorem dX10_takeSign_35 : decode cX10_takeSign 35 = .ok (.athrow, 1) := by decide +kernel
theorem dX10_takeSign_36 : decode cX10_takeSign 36 = .ok (.aload_n 0, 1) := by decide +kernel
theorem dX10_takeSign_37 : decode cX10_takeSign 37 = .ok (.dup, 1) := by decide +kernel
theorem dX10_takeSign_38 : decode cX10_takeSign 38 = .ok (.getfield 33, 3) := by decide +kernel
theorem dX10_takeSign_41 : decode cX10_takeSign 41 = .ok (.iconst 1, 1) := by decide +kernel
theorem dX10_takeSign_42 : decode cX10_takeSign 42 = .ok (.iadd, 1) := by decide +kernel
theorem dX10_takeSign_43 : decode cX10_takeSign 43 = .ok (.putfield 33, 3) := by decide +kernel
theorem dX10_takeSign_46 : decode cX10_takeSign 46 = .ok (.return_, 1) := by decide +kernel
theorem dX10_takeText_0 : decode cX10_takeText 0 = .ok (.aload_n 0, 1) := by decide +kernel
theorem dX10_takeText_1 : decode cX10_takeText 1 = .ok (.aload_n 0, 1) := by decide +kernel
theorem dX10_takeText_2 : decode cX10_takeText 2 = .ok (.aload_n 1, 1) := by decide +kernel
theorem dX10_takeText_3 : decode cX10_takeText 3 = .ok (.invokevirtual 94, 3) := by decide +kernel
theorem dX10_takeText_6 : decode cX10_takeText 6 = .ok (.ifCond .ne 7, 3) := by decide +kernel
theorem dX10_takeText_9 : decode cX10_takeText 9 = .ok (.iconst 1, 1) := by decide +kernel
theorem dX10_takeText_10 : decode cX10_takeText 10 = .ok (.goto 4, 3) := by decide +kernel
theorem dX10_takeText_13 : decode cX10_takeText 13 = .ok (.iconst 0, 1) := by decide +kernel
theorem dX10_takeText_14 : decode cX10_takeText 14 = .ok (.invokevirtual 98, 3) := by decide +kernel
theorem dX10_takeText_17 : decode cX10_takeText 17 = .ok (.aload_n 0, 1) := by decide +kernel
theorem dX10_takeText_18 : decode cX10_takeText 18 = .ok (.invokevirtual 102, 3) := by decide +kernel
theorem dX10_takeText_21 : decode cX10_takeText 21 = .ok (.return_, 1) := by decide +kernel
theorem dX11_init_0 : decode cX11_init 0 = .ok (.aload_n 0, 1) := by decide +kernel
theorem dX11_init_1 : decode cX11_init 1 = .ok (.invokespecial 3, 3) := by decide +kernel
theorem dX11_init_4 : decode cX11_init 4 = .ok (.aload_n 0, 1) := by decide +kernel
theorem dX11_init_5 : decode cX11_init 5 = .ok (.new 9, 3) := by decide +kernel
theorem dX11_init_8 : decode cX11_init 8 = .ok (.dup, 1) := by decide +kernel
theorem dX11_init_9 : decode cX11_init 9 = .ok (.invokespecial 11, 3) := by decide +kernel
theorem dX11_init_12 : decode cX11_init 12 = .ok (.putfield 12, 3) := by decide +kernel
theorem dX11_init_15 : decode cX11_init 15 = .ok (.aload_n 0, 1) := by decide +kernel
theorem dX11_init_16 : decode cX11_init 16 = .ok (.new 16, 3) := by decide +kernel
theorem dX11_init_19 : decode cX11_init 19 = .ok (.dup, 1) := by decide +kernel
theorem dX11_init_20 : decode cX11_init 20 = .ok (.aload_n 0, 1) := by decide +kernel
theorem dX11_init_21 : decode cX11_init 21 = .ok (.getfield 12, 3) := by decide +kernel
theorem dX11_init_24 : decode cX11_init 24 = .ok (.invokespecial 18, 3) := by decide +kernel
theorem dX11_init_27 : decode cX11_init 27 = .ok (.putfield 21, 3) := by decide +kernel
theorem dX11_init_30 : decode cX11_init 30 = .ok (.aload_n 0, 1) := by decide +kernel
theorem dX11_init_31 : decode cX11_init 31 = .ok (.new 25, 3) := by decide +kernel
theorem dX11_init_34 : decode cX11_init 34 = .ok (.dup, 1) := by decide +kernel
theorem dX11_init_35 : decode cX11_init 35 = .ok (.aload_n 0, 1) := by decide +kernel
theorem dX11_init_36 : decode cX11_init 36 = .ok (.getfield 12, 3) := by decide +kernel
theorem dX11_init_39 : decode cX11_init 39 = .ok (.invokespecial 27, 3) := by decide +kernel
theorem dX11_init_42 : decode cX11_init 42 = .ok (.putfield 28, 3) := by decide +kernel
theorem dX11_init_45 : decode cX11_init 45 = .ok (.aload_n 0, 1) := by decide +kernel
theorem dX11_init_46 : decode cX11_init 46 = .ok (.new 31, 3) := by decide +kernel
theorem dX11_init_49 : decode cX11_init 49 = .ok (.dup, 1) := by decide +kernel
theorem dX11_init_50 : decode cX11_init 50 = .ok (.invokespecial 33, 3) := by decide +kernel
theorem dX11_init_53 : decode cX11_init 53 = .ok (.putfield 34, 3) := by decide +kernel
theorem dX11_init_56 : decode cX11_init 56 = .ok (.aload_n 0, 1) := by decide +kernel
theorem dX11_init_57 : decode cX11_init 57 = .ok (.new 38, 3) := by decide +kernel
theorem dX11_init_60 : decode cX11_init 60 = .ok (.dup, 1) := by decide +kernel
theorem dX11_init_61 : decode cX11_init 61 = .ok (.invokespecial 40, 3) := by decide +kernel
theorem dX11_init_64 : decode cX11_init 64 = .ok (.putfield 41, 3) := by decide +kernel
theorem dX11_init_67 : decode cX11_init 67 = .ok (.return_, 1) := by decide +kernel
theorem dX11_unit_0 : decode cX11_unit 0 = .ok (.iload_n 1, 1) := by decide +kernel
theorem dX11_unit_1 : decode cX11_unit 1 = .ok (.invokestatic 45, 3) := by decide +kernel
theorem dX11_unit_4 : decode cX11_unit 4 = .ok (.ifCond .eq 14, 3) := by decide +kernel
theorem dX11_unit_7 : decode cX11_unit 7 = .ok (.aload_n 0, 1) := by decide +kernel
theorem dX11_unit_8 : decode cX11_unit 8 = .ok (.getfield 12, 3) := by decide +kernel
theorem dX11_unit_11 : decode cX11_unit 11 = .ok (.invokevirtual 49, 3) := by decide +kernel
theorem dX11_unit_14 : decode cX11_unit 14 = .ok (.iconst 1, 1) := by decide +kernel
theorem dX11_unit_15 : decode cX11_unit 15 = .ok (.if_icmp .ge 5, 3) := by decide +kernel
theorem dX11_unit_18 : decode cX11_unit 18 = .ok (.iconst 0, 1) := by decide +kernel
theorem dX11_unit_19 : decode cX11_unit 19 = .ok (.ireturn, 1) := by decide +kernel
theorem dX11_unit_20 : decode cX11_unit 20 = .ok (.aload_n 0, 1) := by decide +kernel
theorem dX11_unit_21 : decode cX11_unit 21 = .ok (.getfield 12, 3) := by decide +kernel
theorem dX11_unit_24 : decode cX11_unit 24 = .ok (.iload_n 1, 1) := by decide +kernel
theorem dX11_unit_25 : decode cX11_unit 25 = .ok (.i2c, 1) := by decide +kernel
theorem dX11_unit_26 : decode cX11_unit 26 = .ok (.invokevirtual 53, 3) := by decide +kernel
theorem dX11_unit_29 : decode cX11_unit 29 = .ok (.iconst 1, 1) := by decide +kernel
theorem dX11_unit_30 : decode cX11_unit 30 = .ok (.ireturn, 1) := by decide +kernel
theorem dX11_units_0 : decode cX11_units 0 = .ok (.iconst 0, 1) := by decide +kernel
theorem dX11_units_1 : decode cX11_units 1 = .ok (.istore_n 2, 1) := by decide +kernel
theorem dX11_units_2 : decode cX11_units 2 = .ok (.bipush 24, 2) := by decide +kernel
theorem dX11_units_4 : decode cX11_units 4 = .ok (.istore_n 3, 1) := by decide +kernel
theorem dX11_units_5 : decode cX11_units 5 = .ok (.iload_n 3, 1) := by decide +kernel
theorem dX11_units_6 : decode cX11_units 6 = .ok (.ifCond .lt 46, 3) := by decide +kernel
theorem dX11_units_9 : decode cX11_units 9 = .ok (.iload_n 1, 1) := by decide +kernel
theorem dX11_units_10 : decode cX11_units 10 = .ok (.iload_n 3, 1) := by decide +kernel
theorem dX11_units_11 : decode cX11_units 11 = .ok (.iushr, 1) := by decide +kernel
theorem dX11_units_12 : decode cX11_units 12 = .ok (.sipush 255, 3) := by decide +kernel
theorem dX11_units_15 : decode cX11_units 15 = .ok (.iand, 1) := by decide +kernel
theorem dX11_units_16 : decode cX11_units 16 = .ok (.istore 4, 2) := by decide +kernel
theorem dX11_units_18 : decode cX11_units 18 = .ok (.iload 4, 2) := by decide +kernel
theorem dX11_units_20 : decode cX11_units 20 = .ok (.ifCond .eq 13, 3) := by decide +kernel
theorem dX11_units_23 : decode cX11_units 23 = .ok (.iload 4, 2) := by decide +kernel
theorem dX11_units_25 : decode cX11_units 25 = .ok (.invokestatic 45, 3) := by decide +kernel
theorem dX11_units_28 : decode cX11_units 28 = .ok (.ifCond .ne 5, 3) := by decide +kernel
theorem dX11_units_31 : decode cX11_units 31 = .ok (.iconst 0, 1) := by decide +kernel
theorem dX11_units_32 : decode cX11_units 32 = .ok (.ireturn, 1) := by decide +kernel
theorem dX11_units_33 : decode cX11_units 33 = .ok (.iload_n 2, 1) := by decide +kernel
theorem dX11_units_34 : decode cX11_units 34 = .ok (.iload 4, 2) := by decide +kernel
theorem dX11_units_36 : decode cX11_units 36 = .ok (.ifCond .ne 7, 3) := by decide +kernel
theorem dX11_units_39 : decode cX11_units 39 = .ok (.iconst 0, 1) := by decide +kernel
theorem dX11_units_40 : decode cX11_units 40 = .ok (.goto 4, 3) := by decide +kernel
theorem dX11_units_43 : decode cX11_units 43 = .ok (.iconst 1, 1) := by decide +kernel
theorem dX11_units_44 : decode cX11_units 44 = .ok (.iadd, 1) := by decide +kernel
theorem dX11_units_45 : decode cX11_units 45 = .ok (.istore_n 2, 1) := by decide +kernel
theorem dX11_units_46 : decode cX11_units 46 = .ok (.iinc 3 (-8), 3) := by decide +kernel
theorem dX11_units_49 : decode cX11_units 49 = .ok (.goto (-44), 3) := by decide +kernel
theorem dX11_units_52 : decode cX11_units 52 = .ok (.iload_n 2, 1) := by decide +kernel
theorem dX11_units_53 : decode cX11_units 53 = .ok (.aload_n 0, 1) := by decide +kernel
theorem dX11_units_54 : decode cX11_units 54 = .ok (.getfield 12, 3) := by decide +kernel
theorem dX11_units_57 : decode cX11_units 57 = .ok (.invokevirtual 49, 3) := by decide +kernel
theorem dX11_units_60 : decode cX11_units 60 = .ok (.if_icmp .le 5, 3) := by decide +kernel
theorem dX11_units_63 : decode cX11_units 63 = .ok (.iconst 0, 1) := by decide +kernel
theorem dX11_units_64 : decode cX11_units 64 = .ok (.ireturn, 1) := by decide +kernel
theorem dX11_units_65 : decode cX11_units 65 = .ok (.bipush 24, 2) := by decide +kernel
theorem dX11_units_67 : decode cX11_units 67 = .ok (.istore_n 3, 1) := by decide +kernel
theorem dX11_units_68 : decode cX11_units 68 = .ok (.iload_n 3, 1) := by decide +kernel
theorem dX11_units_69 : decode cX11_units 69 = .ok (.ifCond .lt 33, 3) := by decide +kernel
theorem dX11_units_72 : decode cX11_units 72 = .ok (.iload_n 1, 1) := by decide +kernel
theorem dX11_units_73 : decode cX11_units 73 = .ok (.iload_n 3, 1) := by decide +kernel
theorem dX11_units_74 : decode cX11_units 74 = .ok (.iushr, 1) := by decide +kernel
theorem dX11_units_75 : decode cX11_units 75 = .ok (.sipush 255, 3) := by decide +kernel
theorem dX11_units_78 : decode cX11_units 78 = .ok (.iand, 1) := by decide +kernel
theorem dX11_units_79 : decode cX11_units 79 = .ok (.istore 4, 2) := by decide +kernel
theorem dX11_units_81 : decode cX11_units 81 = .ok (.iload 4, 2) := by decide +kernel
theorem dX11_units_83 : decode cX11_units 83 = .ok (.ifCond .eq 13, 3) := by decide +kernel
theorem dX11_units_86 : decode cX11_units 86 = .ok (.aload_n 0, 1) := by decide +kernel
theorem dX11_units_87 : decode cX11_units 87 = .ok (.getfield 12, 3) := by decide +kernel
theorem dX11_units_90 : decode cX11_units 90 = .ok (.iload 4, 2) := by decide +kernel
theorem dX11_units_92 : decode cX11_units 92 = .ok (.i2c, 1) := by decide +kernel
theorem dX11_units_93 : decode cX11_units 93 = .ok (.invokevirtual 53, 3) := by decide +kernel
theorem dX11_units_96 : decode cX11_units 96 = .ok (.iinc 3 (-8), 3) := by decide +kernel
theorem dX11_units_99 : decode cX11_units 99 = .ok (.goto (-31), 3) := by decide +kernel
theorem dX11_units_102 : decode cX11_units 102 = .ok (.iconst 1, 1) := by decide +kernel
theorem dX11_units_103 : decode cX11_units 103 = .ok (.ireturn, 1) := by decide +kernel
theorem dX11_read_0 : decode cX11_read 0 = .ok (.iload_n 1, 1) := by decide +kernel
theorem dX11_read_1 : decode cX11_read 1 = .ok (.ifCond .eq 8, 3) := by decide +kernel
theorem dX11_read_4 : decode cX11_read 4 = .ok (.iload_n 1, 1) := by decide +kernel
theorem dX11_read_5 : decode cX11_read 5 = .ok (.iconst 1, 1) := by decide +kernel
theorem dX11_read_6 : decode cX11_read 6 = .ok (.if_icmp .ne 7, 3) := by decide +kernel
theorem dX11_read_9 : decode cX11_read 9 = .ok (.iconst 1, 1) := by decide +kernel
theorem dX11_read_10 : decode cX11_read 10 = .ok (.goto 4, 3) := by decide +kernel
theorem dX11_read_13 : decode cX11_read 13 = .ok (.iconst 0, 1) := by decide +kernel
theorem dX11_read_14 : decode cX11_read 14 = .ok (.invokestatic 57, 3) := by decide +kernel
theorem dX11_read_17 : decode cX11_read 17 = .ok (.new 38, 3) := by decide +kernel
theorem dX11_read_20 : decode cX11_read 20 = .ok (.dup, 1) := by decide +kernel
theorem dX11_read_21 : decode cX11_read 21 = .ok (.invokespecial 40, 3) := by decide +kernel
theorem dX11_read_24 : decode cX11_read 24 = .ok (.astore_n 2, 1) := by decide +kernel
theorem dX11_read_25 : decode cX11_read 25 = .ok (.iload_n 1, 1) := by decide +kernel
theorem dX11_read_26 : decode cX11_read 26 = .ok (.ifCond .ne 10, 3) := by decide +kernel
theorem dX11_read_29 : decode cX11_read 29 = .ok (.aload_n 0, 1) := by decide +kernel
theorem dX11_read_30 : decode cX11_read 30 = .ok (.getfield 21, 3) := by decide +kernel
theorem dX11_read_33 : decode cX11_read 33 = .ok (.goto 7, 3) := by decide +kernel
theorem dX11_read_36 : decode cX11_read 36 = .ok (.aload_n 0, 1) := by decide +kernel
theorem dX11_read_37 : decode cX11_read 37 = .ok (.getfield 28, 3) := by decide +kernel
theorem dX11_read_40 : decode cX11_read 40 = .ok (.astore_n 3, 1) := by decide +kernel
theorem dX11_read_41 : decode cX11_read 41 = .ok (.aload_n 0, 1) := by decide +kernel
theorem dX11_read_42 : decode cX11_read 42 = .ok (.getfield 12, 3) := by decide +kernel
theorem dX11_read_45 : decode cX11_read 45 = .ok (.invokevirtual 61, 3) := by decide +kernel
theorem dX11_read_48 : decode cX11_read 48 = .ok (.aload_n 3, 1) := by decide +kernel
theorem dX11_read_49 : decode cX11_read 49 = .ok (.aload_n 2, 1) := by decide +kernel
theorem dX11_read_50 : decode cX11_read 50 = .ok (.invokevirtual 64, 3) := by decide +kernel
theorem dX11_read_53 : decode cX11_read 53 = .ok (.istore 4, 2) := by decide +kernel
theorem dX11_read_55 : decode cX11_read 55 = .ok (.aload_n 0, 1) := by decide +kernel
theorem dX11_read_56 : decode cX11_read 56 = .ok (.getfield 12, 3) := by decide +kernel
theorem dX11_read_59 : decode cX11_read 59 = .ok (.invokevirtual 70, 3) := by decide +kernel
theorem dX11_read_62 : decode cX11_read 62 = .ok (.iload 4, 2) := by decide +kernel
theorem dX11_read_64 : decode cX11_read 64 = .ok (.sipush 1001, 3) := by decide +kernel
theorem dX11_read_67 : decode cX11_read 67 = .ok (.if_icmp .eq 8, 3) := by decide +kernel
theorem dX11_read_70 : decode cX11_read 70 = .ok (.iconst (-1), 1) := by decide +kernel
theorem dX11_read_71 : decode cX11_read 71 = .ok (.iload 4, 2) := by decide +kernel
theorem dX11_read_73 : decode cX11_read 73 = .ok (.isub, 1) := by decide +kernel
theorem dX11_read_74 : decode cX11_read 74 = .ok (.ireturn, 1) := by decide +kernel
theorem dX11_read_75 : decode cX11_read 75 = .ok (.aload_n 0, 1) := by decide +kernel
theorem dX11_read_76 : decode cX11_read 76 = .ok (.aload_n 2, 1) := by decide +kernel
theorem dX11_read_77 : decode cX11_read 77 = .ok (.putfield 41, 3) := by decide +kernel
theorem dX11_read_80 : decode cX11_read 80 = .ok (.aload_n 0, 1) := by decide +kernel
theorem dX11_read_81 : decode cX11_read 81 = .ok (.getfield 41, 3) := by decide +kernel
theorem dX11_read_84 : decode cX11_read 84 = .ok (.getfield 73, 3) := by decide +kernel
theorem dX11_read_87 : decode cX11_read 87 = .ok (.ireturn, 1) := by decide +kernel
theorem dX11_module_0 : decode cX11_module 0 = .ok (.aload_n 0, 1) := by decide +kernel
theorem dX11_module_1 : decode cX11_module 1 = .ok (.iload_n 1, 1) := by decide +kernel
theorem dX11_module_2 : decode cX11_module 2 = .ok (.invokevirtual 77, 3) := by decide +kernel
theorem dX11_module_5 : decode cX11_module 5 = .ok (.astore_n 3, 1) := by decide +kernel
theorem dX11_module_6 : decode cX11_module 6 = .ok (.iload_n 2, 1) := by decide +kernel
theorem dX11_module_7 : decode cX11_module 7 = .ok (.tableswitch 67 0 5 #[37, 42, 47, 52, 57, 62], 37) := by decide +kernel
theorem dX11_module_44 : decode cX11_module 44 = .ok (.aload_n 3, 1) := by decide +kernel
theorem dX11_module_45 : decode cX11_module 45 = .ok (.getfield 81, 3) := by decide +kernel
theorem dX11_module_48 : decode cX11_module 48 = .ok (.ireturn, 1) := by decide +kernel
theorem dX11_module_49 : decode cX11_module 49 = .ok (.aload_n 3, 1) := by decide +kernel
theorem dX11_module_50 : decode cX11_module 50 = .ok (.getfield 86, 3) := by decide +kernel
theorem dX11_module_53 : decode cX11_module 53 = .ok (.ireturn, 1) := by decide +kernel
theorem dX11_module_54 : decode cX11_module 54 = .ok (.aload_n 3, 1) := by decide +kernel
theorem dX11_module_55 : decode cX11_module 55 = .ok (.getfield 89, 3) := by decide +kernel
theorem dX11_module_58 : decode cX11_module 58 = .ok (.ireturn, 1) := by decide +kernel
theorem dX11_module_59 : decode cX11_module 59 = .ok (.aload_n 3, 1) := by decide +kernel
theorem dX11_module_60 : decode cX11_module 60 = .ok (.getfield 92, 3) := by decide +kernel
theorem dX11_module_63 : decode cX11_module 63 = .ok (.ireturn, 1) := by decide +kernel
theorem dX11_module_64 : decode cX11_module 64 = .ok (.aload_n 3, 1) := by decide +kernel
theorem dX11_module_65 : decode cX11_module 65 = .ok (.getfield 95, 3) := by decide +kernel
theorem dX11_module_68 : decode cX11_module 68 = .ok (.ireturn, 1) := by decide +kernel
theorem dX11_module_69 : decode cX11_module 69 = .ok (.aload_n 3, 1) := by decide +kernel
theorem dX11_module_70 : decode cX11_module 70 = .ok (.getfield 98, 3) := by decide +kernel
theorem dX11_module_73 : decode cX11_module 73 = .ok (.ireturn, 1) := by decide +kernel
theorem dX11_module_74 : decode cX11_module 74 = .ok (.new 101, 3) := by decide +kernel
theorem dX11_module_77 : decode cX11_module 77 = .ok (.dup, 1) := by decide +kernel
theorem dX11_module_78 : decode cX11_module 78 = .ok (.invokespecial 103, 3) := by decide +kernel
theorem dX11_module_81 : decode cX11_module 81 = .ok (.athrow, 1) := by decide +kernel
theorem dX11_net_0 : decode cX11_net 0 = .ok (.aload_n 0, 1) := by decide +kernel
theorem dX11_net_1 : decode cX11_net 1 = .ok (.iload_n 1, 1) := by decide +kernel
theorem dX11_net_2 : decode cX11_net 2 = .ok (.iload_n 2, 1) := by decide +kernel
theorem dX11_net_3 : decode cX11_net 3 = .ok (.invokevirtual 104, 3) := by decide +kernel
theorem dX11_net_6 : decode cX11_net 6 = .ok (.astore 4, 2) := by decide +kernel
theorem dX11_net_8 : decode cX11_net 8 = .ok (.iload_n 3, 1) := by decide +kernel
theorem dX11_net_9 : decode cX11_net 9 = .ok (.tableswitch 45 0 2 #[27, 33, 39], 27) := by decide +kernel
theorem dX11_net_36 : decode cX11_net 36 = .ok (.aload 4, 2) := by decide +kernel
theorem dX11_net_38 : decode cX11_net 38 = .ok (.getfield 108, 3) := by decide +kernel
theorem dX11_net_41 : decode cX11_net 41 = .ok (.ireturn, 1) := by decide +kernel
theorem dX11_net_42 : decode cX11_net 42 = .ok (.aload 4, 2) := by decide +kernel
theorem dX11_net_44 : decode cX11_net 44 = .ok (.getfield 113, 3) := by decide +kernel
theorem dX11_net_47 : decode cX11_net 47 = .ok (.ireturn, 1) := by decide +kernel
theorem dX11_net_48 : decode cX11_net 48 = .ok (.aload 4, 2) := by decide +kernel
theorem dX11_net_50 : decode cX11_net 50 = .ok (.getfield 116, 3) := by decide +kernel
theorem dX11_net_53 : decode cX11_net 53 = .ok (.ireturn, 1) := by decide +kernel
theorem dX11_net_54 : decode cX11_net 54 = .ok (.new 101, 3) := by decide +kernel
theorem dX11_net_57 : decode cX11_net 57 = .ok (.dup, 1) := by decide +kernel
theorem dX11_net_58 : decode cX11_net 58 = .ok (.invokespecial 103, 3) := by decide +kernel
theorem dX11_net_61 : decode cX11_net 61 = .ok (.athrow, 1) := by decide +kernel
theorem dX11_instance_0 : decode cX11_instance 0 = .ok (.aload_n 0, 1) := by decide +kernel
theorem dX11_instance_1 : decode cX11_instance 1 = .ok (.iload_n 1, 1) := by decide +kernel
theorem dX11_instance_2 : decode cX11_instance 2 = .ok (.iload_n 2, 1) := by decide +kernel
theorem dX11_instance_3 : decode cX11_instance 3 = .ok (.invokevirtual 119, 3) := by decide +kernel
theorem dX11_instance_6 : decode cX11_instance 6 = .ok (.astore 4, 2) := by decide +kernel
theorem dX11_instance_8 : decode cX11_instance 8 = .ok (.iload_n 3, 1) := by decide +kernel
theorem dX11_instance_9 : decode cX11_instance 9 = .ok (.tableswitch 78 0 3 #[31, 52, 58, 64], 31) := by decide +kernel
theorem dX11_instance_40 : decode cX11_instance 40 = .ok (.aload 4, 2) := by decide +kernel
theorem dX11_instance_42 : decode cX11_instance 42 = .ok (.getfield 123, 3) := by decide +kernel
theorem dX11_instance_45 : decode cX11_instance 45 = .ok (.ifnonnull 7, 3) := by decide +kernel
theorem dX11_instance_48 : decode cX11_instance 48 = .ok (.iconst (-1), 1) := by decide +kernel
theorem dX11_instance_49 : decode cX11_instance 49 = .ok (.goto 11, 3) := by decide +kernel
theorem dX11_instance_52 : decode cX11_instance 52 = .ok (.aload 4, 2) := by decide +kernel
theorem dX11_instance_54 : decode cX11_instance 54 = .ok (.getfield 123, 3) := by decide +kernel
theorem dX11_instance_57 : decode cX11_instance 57 = .ok (.getfield 129, 3) := by decide +kernel
theorem dX11_instance_60 : decode cX11_instance 60 = .ok (.ireturn, 1) := by decide +kernel
theorem dX11_instance_61 : decode cX11_instance 61 = .ok (.aload 4, 2) := by decide +kernel
theorem dX11_instance_63 : decode cX11_instance 63 = .ok (.invokevirtual 132, 3) := by decide +kernel
theorem dX11_instance_66 : decode cX11_instance 66 = .ok (.ireturn, 1) := by decide +kernel
theorem dX11_instance_67 : decode cX11_instance 67 = .ok (.aload 4, 2) := by decide +kernel
theorem dX11_instance_69 : decode cX11_instance 69 = .ok (.getfield 135, 3) := by decide +kernel
theorem dX11_instance_72 : decode cX11_instance 72 = .ok (.ireturn, 1) := by decide +kernel
theorem dX11_instance_73 : decode cX11_instance 73 = .ok (.aload 4, 2) := by decide +kernel
theorem dX11_instance_75 : decode cX11_instance 75 = .ok (.getfield 138, 3) := by decide +kernel
theorem dX11_instance_78 : decode cX11_instance 78 = .ok (.ifCond .eq 7, 3) := by decide +kernel
theorem dX11_instance_81 : decode cX11_instance 81 = .ok (.iconst 1, 1) := by decide +kernel
theorem dX11_instance_82 : decode cX11_instance 82 = .ok (.goto 4, 3) := by decide +kernel
theorem dX11_instance_85 : decode cX11_instance 85 = .ok (.iconst 0, 1) := by decide +kernel
theorem dX11_instance_86 : decode cX11_instance 86 = .ok (.ireturn, 1) := by decide +kernel
theorem dX11_instance_87 : decode cX11_instance 87 = .ok (.new 101, 3) := by decide +kernel
theorem dX11_instance_90 : decode cX11_instance 90 = .ok (.dup, 1) := by decide +kernel
theorem dX11_instance_91 : decode cX11_instance 91 = .ok (.invokespecial 103, 3) := by decide +kernel
theorem dX11_instance_94 : decode cX11_instance 94 = .ok (.athrow, 1) := by decide +kernel
theorem dX11_joined_0 : decode cX11_joined 0 = .ok (.aload_n 0, 1) := by decide +kernel
theorem dX11_joined_1 : decode cX11_joined 1 = .ok (.iload_n 1, 1) := by decide +kernel
theorem dX11_joined_2 : decode cX11_joined 2 = .ok (.iload_n 2, 1) := by decide +kernel
theorem dX11_joined_3 : decode cX11_joined 3 = .ok (.invokevirtual 119, 3) := by decide +kernel
theorem dX11_joined_6 : decode cX11_joined 6 = .ok (.astore 5, 2) := by decide +kernel
theorem dX11_joined_8 : decode cX11_joined 8 = .ok (.iload_n 3, 1) := by decide +kernel
theorem dX11_joined_9 : decode cX11_joined 9 = .ok (.ifCond .lt 16, 3) := by decide +kernel
theorem dX11_joined_12 : decode cX11_joined 12 = .ok (.iload_n 3, 1) := by decide +kernel
theorem dX11_joined_13 : decode cX11_joined 13 = .ok (.aload 5, 2) := by decide +kernel
theorem dX11_joined_15 : decode cX11_joined 15 = .ok (.invokevirtual 132, 3) := by decide +kernel
theorem dX11_joined_18 : decode cX11_joined 18 = .ok (.if_icmp .ge 7, 3) := by decide +kernel
theorem dX11_joined_21 : decode cX11_joined 21 = .ok (.iconst 1, 1) := by decide +kernel
theorem dX11_joined_22 : decode cX11_joined 22 = .ok (.goto 4, 3) := by decide +kernel
theorem dX11_joined_25 : decode cX11_joined 25 = .ok (.iconst 0, 1) := by decide +kernel
theorem dX11_joined_26 : decode cX11_joined 26 = .ok (.invokestatic 57, 3) := by decide +kernel
theorem dX11_joined_29 : decode cX11_joined 29 = .ok (.iload 4, 2) := by decide +kernel
theorem dX11_joined_31 : decode cX11_joined 31 = .ok (.ifCond .lt 18, 3) := by decide +kernel
theorem dX11_joined_34 : decode cX11_joined 34 = .ok (.iload 4, 2) := by decide +kernel
theorem dX11_joined_36 : decode cX11_joined 36 = .ok (.aload 5, 2) := by decide +kernel
theorem dX11_joined_38 : decode cX11_joined 38 = .ok (.iload_n 3, 1) := by decide +kernel
theorem dX11_joined_39 : decode cX11_joined 39 = .ok (.invokevirtual 142, 3) := by decide +kernel
theorem dX11_joined_42 : decode cX11_joined 42 = .ok (.if_icmp .ge 7, 3) := by decide +kernel
theorem dX11_joined_45 : decode cX11_joined 45 = .ok (.iconst 1, 1) := by decide +kernel
theorem dX11_joined_46 : decode cX11_joined 46 = .ok (.goto 4, 3) := by decide +kernel
theorem dX11_joined_49 : decode cX11_joined 49 = .ok (.iconst 0, 1) := by decide +kernel
theorem dX11_joined_50 : decode cX11_joined 50 = .ok (.invokestatic 57, 3) := by decide +kernel
theorem dX11_joined_53 : decode cX11_joined 53 = .ok (.aload 5, 2) := by decide +kernel
theorem dX11_joined_55 : decode cX11_joined 55 = .ok (.iload_n 3, 1) := by decide +kernel
theorem dX11_joined_56 : decode cX11_joined 56 = .ok (.invokevirtual 146, 3) := by decide +kernel
theorem dX11_joined_59 : decode cX11_joined 59 = .ok (.astore 6, 2) := by decide +kernel
theorem dX11_joined_61 : decode cX11_joined 61 = .ok (.aload 6, 2) := by decide +kernel
theorem dX11_joined_63 : decode cX11_joined 63 = .ok (.ifnonnull 7, 3) := by decide +kernel
theorem dX11_joined_66 : decode cX11_joined 66 = .ok (.iconst (-1), 1) := by decide +kernel
theorem dX11_joined_67 : decode cX11_joined 67 = .ok (.goto 10, 3) := by decide +kernel
theorem dX11_joined_70 : decode cX11_joined 70 = .ok (.aload 6, 2) := by decide +kernel
theorem dX11_joined_72 : decode cX11_joined 72 = .ok (.iload 4, 2) := by decide +kernel
theorem dX11_joined_74 : decode cX11_joined 74 = .ok (.invokevirtual 150, 3) := by decide +kernel
theorem dX11_joined_77 : decode cX11_joined 77 = .ok (.ireturn, 1) := by decide +kernel
theorem dX11_assign_0 : decode cX11_assign 0 = .ok (.aload_n 0, 1) := by decide +kernel
theorem dX11_assign_1 : decode cX11_assign 1 = .ok (.iload_n 1, 1) := by decide +kernel
theorem dX11_assign_2 : decode cX11_assign 2 = .ok (.invokevirtual 77, 3) := by decide +kernel
theorem dX11_assign_5 : decode cX11_assign 5 = .ok (.astore 5, 2) := by decide +kernel
theorem dX11_assign_7 : decode cX11_assign 7 = .ok (.iload_n 2, 1) := by decide +kernel
theorem dX11_assign_8 : decode cX11_assign 8 = .ok (.ifCond .lt 16, 3) := by decide +kernel
theorem dX11_assign_11 : decode cX11_assign 11 = .ok (.iload_n 2, 1) := by decide +kernel
theorem dX11_assign_12 : decode cX11_assign 12 = .ok (.aload 5, 2) := by decide +kernel
theorem dX11_assign_14 : decode cX11_assign 14 = .ok (.getfield 92, 3) := by decide +kernel
theorem dX11_assign_17 : decode cX11_assign 17 = .ok (.if_icmp .ge 7, 3) := by decide +kernel
theorem dX11_assign_20 : decode cX11_assign 20 = .ok (.iconst 1, 1) := by decide +kernel
theorem dX11_assign_21 : decode cX11_assign 21 = .ok (.goto 4, 3) := by decide +kernel
theorem dX11_assign_24 : decode cX11_assign 24 = .ok (.iconst 0, 1) := by decide +kernel
theorem dX11_assign_25 : decode cX11_assign 25 = .ok (.invokestatic 57, 3) := by decide +kernel
theorem dX11_assign_28 : decode cX11_assign 28 = .ok (.iload_n 3, 1) := by decide +kernel
theorem dX11_assign_29 : decode cX11_assign 29 = .ok (.ifCond .eq 8, 3) := by decide +kernel
theorem dX11_assign_32 : decode cX11_assign 32 = .ok (.iload_n 3, 1) := by decide +kernel
theorem dX11_assign_33 : decode cX11_assign 33 = .ok (.iconst 1, 1) := by decide +kernel
theorem dX11_assign_34 : decode cX11_assign 34 = .ok (.if_icmp .ne 7, 3) := by decide +kernel
theorem dX11_assign_37 : decode cX11_assign 37 = .ok (.iconst 1, 1) := by decide +kernel
theorem dX11_assign_38 : decode cX11_assign 38 = .ok (.goto 4, 3) := by decide +kernel
theorem dX11_assign_41 : decode cX11_assign 41 = .ok (.iconst 0, 1) := by decide +kernel
theorem dX11_assign_42 : decode cX11_assign 42 = .ok (.invokestatic 57, 3) := by decide +kernel
theorem dX11_assign_45 : decode cX11_assign 45 = .ok (.iload_n 3, 1) := by decide +kernel
theorem dX11_assign_46 : decode cX11_assign 46 = .ok (.ifCond .ne 13, 3) := by decide +kernel
theorem dX11_assign_49 : decode cX11_assign 49 = .ok (.aload 5, 2) := by decide +kernel
theorem dX11_assign_51 : decode cX11_assign 51 = .ok (.getfield 155, 3) := by decide +kernel
theorem dX11_assign_54 : decode cX11_assign 54 = .ok (.iload_n 2, 1) := by decide +kernel
theorem dX11_assign_55 : decode cX11_assign 55 = .ok (.aaload, 1) := by decide +kernel
theorem dX11_assign_56 : decode cX11_assign 56 = .ok (.goto 10, 3) := by decide +kernel
theorem dX11_assign_59 : decode cX11_assign 59 = .ok (.aload 5, 2) := by decide +kernel
theorem dX11_assign_61 : decode cX11_assign 61 = .ok (.getfield 159, 3) := by decide +kernel
theorem dX11_assign_64 : decode cX11_assign 64 = .ok (.iload_n 2, 1) := by decide +kernel
theorem dX11_assign_65 : decode cX11_assign 65 = .ok (.aaload, 1) := by decide +kernel
theorem dX11_assign_66 : decode cX11_assign 66 = .ok (.astore 6, 2) := by decide +kernel
theorem dX11_assign_68 : decode cX11_assign 68 = .ok (.iload 4, 2) := by decide +kernel
theorem dX11_assign_70 : decode cX11_assign 70 = .ok (.ifCond .lt 17, 3) := by decide +kernel
theorem dX11_assign_73 : decode cX11_assign 73 = .ok (.iload 4, 2) := by decide +kernel
theorem dX11_assign_75 : decode cX11_assign 75 = .ok (.aload 6, 2) := by decide +kernel
theorem dX11_assign_77 : decode cX11_assign 77 = .ok (.invokevirtual 162, 3) := by decide +kernel
theorem dX11_assign_80 : decode cX11_assign 80 = .ok (.if_icmp .ge 7, 3) := by decide +kernel
theorem dX11_assign_83 : decode cX11_assign 83 = .ok (.iconst 1, 1) := by decide +kernel
theorem dX11_assign_84 : decode cX11_assign 84 = .ok (.goto 4, 3) := by decide +kernel
theorem dX11_assign_87 : decode cX11_assign 87 = .ok (.iconst 0, 1) := by decide +kernel
theorem dX11_assign_88 : decode cX11_assign 88 = .ok (.invokestatic 57, 3) := by decide +kernel
theorem dX11_assign_91 : decode cX11_assign 91 = .ok (.aload 6, 2) := by decide +kernel
theorem dX11_assign_93 : decode cX11_assign 93 = .ok (.iload 4, 2) := by decide +kernel
theorem dX11_assign_95 : decode cX11_assign 95 = .ok (.invokevirtual 150, 3) := by decide +kernel
theorem dX11_assign_98 : decode cX11_assign 98 = .ok (.ireturn, 1) := by decide +kernel
theorem dX11_letter_0 : decode cX11_letter 0 = .ok (.iload 4, 2) := by decide +kernel
theorem dX11_letter_2 : decode cX11_letter 2 = .ok (.ifCond .lt 7, 3) := by decide +kernel
theorem dX11_letter_5 : decode cX11_letter 5 = .ok (.iconst 1, 1) := by decide +kernel
theorem dX11_letter_6 : decode cX11_letter 6 = .ok (.goto 4, 3) := by decide +kernel
theorem dX11_letter_9 : decode cX11_letter 9 = .ok (.iconst 0, 1) := by decide +kernel
theorem dX11_letter_10 : decode cX11_letter 10 = .ok (.invokestatic 57, 3) := by decide +kernel
theorem dX11_letter_13 : decode cX11_letter 13 = .ok (.aload_n 0, 1) := by decide +kernel
theorem dX11_letter_14 : decode cX11_letter 14 = .ok (.iload_n 1, 1) := by decide +kernel
theorem dX11_letter_15 : decode cX11_letter 15 = .ok (.iload_n 2, 1) := by decide +kernel
theorem dX11_letter_16 : decode cX11_letter 16 = .ok (.iload_n 3, 1) := by decide +kernel
theorem dX11_letter_17 : decode cX11_letter 17 = .ok (.invokevirtual 164, 3) := by decide +kernel
theorem dX11_letter_20 : decode cX11_letter 20 = .ok (.iload 4, 2) := by decide +kernel
theorem dX11_letter_22 : decode cX11_letter 22 = .ok (.invokestatic 168, 3) := by decide +kernel
theorem dX11_letter_25 : decode cX11_letter 25 = .ok (.istore 5, 2) := by decide +kernel
theorem dX11_letter_27 : decode cX11_letter 27 = .ok (.iload 5, 2) := by decide +kernel
theorem dX11_letter_29 : decode cX11_letter 29 = .ok (.ifCond .ne 7, 3) := by decide +kernel
theorem dX11_letter_32 : decode cX11_letter 32 = .ok (.iconst (-1), 1) := by decide +kernel
theorem dX11_letter_33 : decode cX11_letter 33 = .ok (.goto 5, 3) := by decide +kernel
theorem dX11_letter_36 : decode cX11_letter 36 = .ok (.iload 5, 2) := by decide +kernel
theorem dX11_letter_38 : decode cX11_letter 38 = .ok (.ireturn, 1) := by decide +kernel
theorem dX11_write_0 : decode cX11_write 0 = .ok (.iload_n 1, 1) := by decide +kernel
theorem dX11_write_1 : decode cX11_write 1 = .ok (.ifCond .eq 8, 3) := by decide +kernel
theorem dX11_write_4 : decode cX11_write 4 = .ok (.iload_n 1, 1) := by decide +kernel
theorem dX11_write_5 : decode cX11_write 5 = .ok (.iconst 1, 1) := by decide +kernel
theorem dX11_write_6 : decode cX11_write 6 = .ok (.if_icmp .ne 7, 3) := by decide +kernel
theorem dX11_write_9 : decode cX11_write 9 = .ok (.iconst 1, 1) := by decide +kernel
theorem dX11_write_10 : decode cX11_write 10 = .ok (.goto 4, 3) := by decide +kernel
theorem dX11_write_13 : decode cX11_write 13 = .ok (.iconst 0, 1) := by decide +kernel
theorem dX11_write_14 : decode cX11_write 14 = .ok (.invokestatic 57, 3) := by decide +kernel
theorem dX11_write_17 : decode cX11_write 17 = .ok (.iload_n 2, 1) := by decide +kernel
theorem dX11_write_18 : decode cX11_write 18 = .ok (.ifCond .lt 7, 3) := by decide +kernel
theorem dX11_write_21 : decode cX11_write 21 = .ok (.iconst 1, 1) := by decide +kernel
theorem dX11_write_22 : decode cX11_write 22 = .ok (.goto 4, 3) := by decide +kernel
theorem dX11_write_25 : decode cX11_write 25 = .ok (.iconst 0, 1) := by decide +kernel
theorem dX11_write_26 : decode cX11_write 26 = .ok (.invokestatic 57, 3) := by decide +kernel
theorem dX11_write_29 : decode cX11_write 29 = .ok (.aload_n 0, 1) := by decide +kernel
theorem dX11_write_30 : decode cX11_write 30 = .ok (.getfield 34, 3) := by decide +kernel
theorem dX11_write_33 : decode cX11_write 33 = .ok (.aload_n 0, 1) := by decide +kernel
theorem dX11_write_34 : decode cX11_write 34 = .ok (.getfield 41, 3) := by decide +kernel
theorem dX11_write_37 : decode cX11_write 37 = .ok (.iload_n 1, 1) := by decide +kernel
theorem dX11_write_38 : decode cX11_write 38 = .ok (.iload_n 2, 1) := by decide +kernel
theorem dX11_write_39 : decode cX11_write 39 = .ok (.invokevirtual 172, 3) := by decide +kernel
theorem dX11_write_42 : decode cX11_write 42 = .ok (.ireturn, 1) := by decide +kernel
theorem dX11_count_0 : decode cX11_count 0 = .ok (.iload_n 1, 1) := by decide +kernel
theorem dX11_count_1 : decode cX11_count 1 = .ok (.ifCond .eq 8, 3) := by decide +kernel
theorem dX11_count_4 : decode cX11_count 4 = .ok (.iload_n 1, 1) := by decide +kernel
theorem dX11_count_5 : decode cX11_count 5 = .ok (.iconst 1, 1) := by decide +kernel
theorem dX11_count_6 : decode cX11_count 6 = .ok (.if_icmp .ne 7, 3) := by decide +kernel
theorem dX11_count_9 : decode cX11_count 9 = .ok (.iconst 1, 1) := by decide +kernel
theorem dX11_count_10 : decode cX11_count 10 = .ok (.goto 4, 3) := by decide +kernel
theorem dX11_count_13 : decode cX11_count 13 = .ok (.iconst 0, 1) := by decide +kernel
theorem dX11_count_14 : decode cX11_count 14 = .ok (.invokestatic 57, 3) := by decide +kernel
theorem dX11_count_17 : decode cX11_count 17 = .ok (.iload_n 1, 1) := by decide +kernel
theorem dX11_count_18 : decode cX11_count 18 = .ok (.ifCond .ne 13, 3) := by decide +kernel
theorem dX11_count_21 : decode cX11_count 21 = .ok (.aload_n 0, 1) := by decide +kernel
theorem dX11_count_22 : decode cX11_count 22 = .ok (.getfield 41, 3) := by decide +kernel
theorem dX11_count_25 : decode cX11_count 25 = .ok (.getfield 73, 3) := by decide +kernel
theorem dX11_count_28 : decode cX11_count 28 = .ok (.goto 10, 3) := by decide +kernel
theorem dX11_count_31 : decode cX11_count 31 = .ok (.aload_n 0, 1) := by decide +kernel
theorem dX11_count_32 : decode cX11_count 32 = .ok (.getfield 12, 3) := by decide +kernel
theorem dX11_count_35 : decode cX11_count 35 = .ok (.getfield 176, 3) := by decide +kernel
theorem dX11_count_38 : decode cX11_count 38 = .ok (.ireturn, 1) := by decide +kernel
theorem dX11_refuseUnless_0 : decode cX11_refuseUnless 0 = .ok (.iload_n 0, 1) := by decide +kernel
theorem dX11_refuseUnless_1 : decode cX11_refuseUnless 1 = .ok (.ifCond .ne 11, 3) := by decide +kernel
theorem dX11_refuseUnless_4 : decode cX11_refuseUnless 4 = .ok (.new 101, 3) := by decide +kernel
theorem dX11_refuseUnless_7 : decode cX11_refuseUnless 7 = .ok (.dup, 1) := by decide +kernel
theorem dX11_refuseUnless_8 : decode cX11_refuseUnless 8 = .ok (.invokespecial 103, 3) := by decide +kernel
theorem dX11_refuseUnless_11 : decode cX11_refuseUnless 11 = .ok (.athrow, 1) := by decide +kernel
theorem dX11_refuseUnless_12 : decode cX11_refuseUnless 12 = .ok (.return_, 1) := by decide +kernel
theorem dX11_moduleAt_0 : decode cX11_moduleAt 0 = .ok (.iload_n 1, 1) := by decide +kernel
theorem dX11_moduleAt_1 : decode cX11_moduleAt 1 = .ok (.ifCond .lt 18, 3) := by decide +kernel
theorem dX11_moduleAt_4 : decode cX11_moduleAt 4 = .ok (.iload_n 1, 1) := by decide +kernel
theorem dX11_moduleAt_5 : decode cX11_moduleAt 5 = .ok (.aload_n 0, 1) := by decide +kernel
theorem dX11_moduleAt_6 : decode cX11_moduleAt 6 = .ok (.getfield 41, 3) := by decide +kernel
theorem dX11_moduleAt_9 : decode cX11_moduleAt 9 = .ok (.getfield 73, 3) := by decide +kernel
theorem dX11_moduleAt_12 : decode cX11_moduleAt 12 = .ok (.if_icmp .ge 7, 3) := by decide +kernel
theorem dX11_moduleAt_15 : decode cX11_moduleAt 15 = .ok (.iconst 1, 1) := by decide +kernel
theorem dX11_moduleAt_16 : decode cX11_moduleAt 16 = .ok (.goto 4, 3) := by decide +kernel
theorem dX11_moduleAt_19 : decode cX11_moduleAt 19 = .ok (.iconst 0, 1) := by decide +kernel
theorem dX11_moduleAt_20 : decode cX11_moduleAt 20 = .ok (.invokestatic 57, 3) := by decide +kernel
theorem dX11_moduleAt_23 : decode cX11_moduleAt 23 = .ok (.aload_n 0, 1) := by decide +kernel
theorem dX11_moduleAt_24 : decode cX11_moduleAt 24 = .ok (.getfield 41, 3) := by decide +kernel
theorem dX11_moduleAt_27 : decode cX11_moduleAt 27 = .ok (.getfield 179, 3) := by decide +kernel
theorem dX11_moduleAt_30 : decode cX11_moduleAt 30 = .ok (.iload_n 1, 1) := by decide +kernel
theorem dX11_moduleAt_31 : decode cX11_moduleAt 31 = .ok (.aaload, 1) := by decide +kernel
theorem dX11_moduleAt_32 : decode cX11_moduleAt 32 = .ok (.areturn, 1) := by decide +kernel
theorem dX11_netAt_0 : decode cX11_netAt 0 = .ok (.aload_n 0, 1) := by decide +kernel
theorem dX11_netAt_1 : decode cX11_netAt 1 = .ok (.iload_n 1, 1) := by decide +kernel
theorem dX11_netAt_2 : decode cX11_netAt 2 = .ok (.invokevirtual 77, 3) := by decide +kernel
theorem dX11_netAt_5 : decode cX11_netAt 5 = .ok (.astore_n 3, 1) := by decide +kernel
theorem dX11_netAt_6 : decode cX11_netAt 6 = .ok (.iload_n 2, 1) := by decide +kernel
theorem dX11_netAt_7 : decode cX11_netAt 7 = .ok (.ifCond .lt 15, 3) := by decide +kernel
theorem dX11_netAt_10 : decode cX11_netAt 10 = .ok (.iload_n 2, 1) := by decide +kernel
theorem dX11_netAt_11 : decode cX11_netAt 11 = .ok (.aload_n 3, 1) := by decide +kernel
theorem dX11_netAt_12 : decode cX11_netAt 12 = .ok (.getfield 86, 3) := by decide +kernel
theorem dX11_netAt_15 : decode cX11_netAt 15 = .ok (.if_icmp .ge 7, 3) := by decide +kernel
theorem dX11_netAt_18 : decode cX11_netAt 18 = .ok (.iconst 1, 1) := by decide +kernel
theorem dX11_netAt_19 : decode cX11_netAt 19 = .ok (.goto 4, 3) := by decide +kernel
theorem dX11_netAt_22 : decode cX11_netAt 22 = .ok (.iconst 0, 1) := by decide +kernel
theorem dX11_netAt_23 : decode cX11_netAt 23 = .ok (.invokestatic 57, 3) := by decide +kernel
theorem dX11_netAt_26 : decode cX11_netAt 26 = .ok (.aload_n 3, 1) := by decide +kernel
theorem dX11_netAt_27 : decode cX11_netAt 27 = .ok (.getfield 183, 3) := by decide +kernel
theorem dX11_netAt_30 : decode cX11_netAt 30 = .ok (.iload_n 2, 1) := by decide +kernel
theorem dX11_netAt_31 : decode cX11_netAt 31 = .ok (.aaload, 1) := by decide +kernel
theorem dX11_netAt_32 : decode cX11_netAt 32 = .ok (.areturn, 1) := by decide +kernel
theorem dX11_instanceAt_0 : decode cX11_instanceAt 0 = .ok (.aload_n 0, 1) := by decide +kernel
theorem dX11_instanceAt_1 : decode cX11_instanceAt 1 = .ok (.iload_n 1, 1) := by decide +kernel
theorem dX11_instanceAt_2 : decode cX11_instanceAt 2 = .ok (.invokevirtual 77, 3) := by decide +kernel
theorem dX11_instanceAt_5 : decode cX11_instanceAt 5 = .ok (.astore_n 3, 1) := by decide +kernel
theorem dX11_instanceAt_6 : decode cX11_instanceAt 6 = .ok (.iload_n 2, 1) := by decide +kernel
theorem dX11_instanceAt_7 : decode cX11_instanceAt 7 = .ok (.ifCond .lt 15, 3) := by decide +kernel
theorem dX11_instanceAt_10 : decode cX11_instanceAt 10 = .ok (.iload_n 2, 1) := by decide +kernel
theorem dX11_instanceAt_11 : decode cX11_instanceAt 11 = .ok (.aload_n 3, 1) := by decide +kernel
theorem dX11_instanceAt_12 : decode cX11_instanceAt 12 = .ok (.getfield 95, 3) := by decide +kernel
theorem dX11_instanceAt_15 : decode cX11_instanceAt 15 = .ok (.if_icmp .ge 7, 3) := by decide +kernel
theorem dX11_instanceAt_18 : decode cX11_instanceAt 18 = .ok (.iconst 1, 1) := by decide +kernel
theorem dX11_instanceAt_19 : decode cX11_instanceAt 19 = .ok (.goto 4, 3) := by decide +kernel
theorem dX11_instanceAt_22 : decode cX11_instanceAt 22 = .ok (.iconst 0, 1) := by decide +kernel
theorem dX11_instanceAt_23 : decode cX11_instanceAt 23 = .ok (.invokestatic 57, 3) := by decide +kernel
theorem dX11_instanceAt_26 : decode cX11_instanceAt 26 = .ok (.aload_n 3, 1) := by decide +kernel
theorem dX11_instanceAt_27 : decode cX11_instanceAt 27 = .ok (.getfield 187, 3) := by decide +kernel
theorem dX11_instanceAt_30 : decode cX11_instanceAt 30 = .ok (.iload_n 2, 1) := by decide +kernel
theorem dX11_instanceAt_31 : decode cX11_instanceAt 31 = .ok (.aaload, 1) := by decide +kernel
theorem dX11_instanceAt_32 : decode cX11_instanceAt 32 = .ok (.areturn, 1) := by decide +kernel
theorem dX11_nameOf_0 : decode cX11_nameOf 0 = .ok (.iload_n 1, 1) := by decide +kernel
theorem dX11_nameOf_1 : decode cX11_nameOf 1 = .ok (.tableswitch 70 0 3 #[31, 40, 50, 60], 31) := by decide +kernel
theorem dX11_nameOf_32 : decode cX11_nameOf 32 = .ok (.aload_n 0, 1) := by decide +kernel
theorem dX11_nameOf_33 : decode cX11_nameOf 33 = .ok (.iload_n 2, 1) := by decide +kernel
theorem dX11_nameOf_34 : decode cX11_nameOf 34 = .ok (.invokevirtual 77, 3) := by decide +kernel
theorem dX11_nameOf_37 : decode cX11_nameOf 37 = .ok (.getfield 191, 3) := by decide +kernel
theorem dX11_nameOf_40 : decode cX11_nameOf 40 = .ok (.lreturn, 1) := by decide +kernel
theorem dX11_nameOf_41 : decode cX11_nameOf 41 = .ok (.aload_n 0, 1) := by decide +kernel
theorem dX11_nameOf_42 : decode cX11_nameOf 42 = .ok (.iload_n 2, 1) := by decide +kernel
theorem dX11_nameOf_43 : decode cX11_nameOf 43 = .ok (.iload_n 3, 1) := by decide +kernel
theorem dX11_nameOf_44 : decode cX11_nameOf 44 = .ok (.invokevirtual 104, 3) := by decide +kernel
theorem dX11_nameOf_47 : decode cX11_nameOf 47 = .ok (.getfield 195, 3) := by decide +kernel
theorem dX11_nameOf_50 : decode cX11_nameOf 50 = .ok (.lreturn, 1) := by decide +kernel
theorem dX11_nameOf_51 : decode cX11_nameOf 51 = .ok (.aload_n 0, 1) := by decide +kernel
theorem dX11_nameOf_52 : decode cX11_nameOf 52 = .ok (.iload_n 2, 1) := by decide +kernel
theorem dX11_nameOf_53 : decode cX11_nameOf 53 = .ok (.iload_n 3, 1) := by decide +kernel
theorem dX11_nameOf_54 : decode cX11_nameOf 54 = .ok (.invokevirtual 119, 3) := by decide +kernel
theorem dX11_nameOf_57 : decode cX11_nameOf 57 = .ok (.getfield 196, 3) := by decide +kernel
theorem dX11_nameOf_60 : decode cX11_nameOf 60 = .ok (.lreturn, 1) := by decide +kernel
theorem dX11_nameOf_61 : decode cX11_nameOf 61 = .ok (.aload_n 0, 1) := by decide +kernel
theorem dX11_nameOf_62 : decode cX11_nameOf 62 = .ok (.iload_n 2, 1) := by decide +kernel
theorem dX11_nameOf_63 : decode cX11_nameOf 63 = .ok (.iload_n 3, 1) := by decide +kernel
theorem dX11_nameOf_64 : decode cX11_nameOf 64 = .ok (.invokevirtual 119, 3) := by decide +kernel
theorem dX11_nameOf_67 : decode cX11_nameOf 67 = .ok (.getfield 197, 3) := by decide +kernel
theorem dX11_nameOf_70 : decode cX11_nameOf 70 = .ok (.lreturn, 1) := by decide +kernel
theorem dX11_nameOf_71 : decode cX11_nameOf 71 = .ok (.new 101, 3) := by decide +kernel
theorem dX11_nameOf_74 : decode cX11_nameOf 74 = .ok (.dup, 1) := by decide +kernel
theorem dX11_nameOf_75 : decode cX11_nameOf 75 = .ok (.invokespecial 103, 3) := by decide +kernel
theorem dX11_nameOf_78 : decode cX11_nameOf 78 = .ok (.athrow, 1) := by decide +kernel
