theorem dX1_init_0 : decode cX1_init 0 = .ok (.aload_n 0, 1) := by decide +kernel
theorem dX1_init_1 : decode cX1_init 1 = .ok (.invokespecial 3, 3) := by decide +kernel
theorem dX1_init_4 : decode cX1_init 4 = .ok (.aload_n 0, 1) := by decide +kernel
theorem dX1_init_5 : decode cX1_init 5 = .ok (.sipush 1601, 3) := by decide +kernel
theorem dX1_init_8 : decode cX1_init 8 = .ok (.newarray .int, 2) := by decide +kernel
theorem dX1_init_10 : decode cX1_init 10 = .ok (.putfield 9, 3) := by decide +kernel
theorem dX1_init_13 : decode cX1_init 13 = .ok (.aload_n 0, 1) := by decide +kernel
theorem dX1_init_14 : decode cX1_init 14 = .ok (.sipush 1601, 3) := by decide +kernel
theorem dX1_init_17 : decode cX1_init 17 = .ok (.newarray .int, 2) := by decide +kernel
theorem dX1_init_19 : decode cX1_init 19 = .ok (.putfield 13, 3) := by decide +kernel
theorem dX1_init_22 : decode cX1_init 22 = .ok (.aload_n 0, 1) := by decide +kernel
theorem dX1_init_23 : decode cX1_init 23 = .ok (.sipush 1601, 3) := by decide +kernel
theorem dX1_init_26 : decode cX1_init 26 = .ok (.newarray .int, 2) := by decide +kernel
theorem dX1_init_28 : decode cX1_init 28 = .ok (.putfield 16, 3) := by decide +kernel
theorem dX1_init_31 : decode cX1_init 31 = .ok (.aload_n 0, 1) := by decide +kernel
theorem dX1_init_32 : decode cX1_init 32 = .ok (.sipush 1601, 3) := by decide +kernel
theorem dX1_init_35 : decode cX1_init 35 = .ok (.newarray .int, 2) := by decide +kernel
theorem dX1_init_37 : decode cX1_init 37 = .ok (.putfield 19, 3) := by decide +kernel
theorem dX1_init_40 : decode cX1_init 40 = .ok (.aload_n 0, 1) := by decide +kernel
theorem dX1_init_41 : decode cX1_init 41 = .ok (.sipush 1601, 3) := by decide +kernel
theorem dX1_init_44 : decode cX1_init 44 = .ok (.newarray .int, 2) := by decide +kernel
theorem dX1_init_46 : decode cX1_init 46 = .ok (.putfield 22, 3) := by decide +kernel
theorem dX1_init_49 : decode cX1_init 49 = .ok (.aload_n 0, 1) := by decide +kernel
theorem dX1_init_50 : decode cX1_init 50 = .ok (.sipush 1601, 3) := by decide +kernel
theorem dX1_init_53 : decode cX1_init 53 = .ok (.newarray .int, 2) := by decide +kernel
theorem dX1_init_55 : decode cX1_init 55 = .ok (.putfield 25, 3) := by decide +kernel
theorem dX1_init_58 : decode cX1_init 58 = .ok (.aload_n 0, 1) := by decide +kernel
theorem dX1_init_59 : decode cX1_init 59 = .ok (.sipush 1601, 3) := by decide +kernel
theorem dX1_init_62 : decode cX1_init 62 = .ok (.newarray .int, 2) := by decide +kernel
theorem dX1_init_64 : decode cX1_init 64 = .ok (.putfield 28, 3) := by decide +kernel
theorem dX1_init_67 : decode cX1_init 67 = .ok (.aload_n 0, 1) := by decide +kernel
theorem dX1_init_68 : decode cX1_init 68 = .ok (.iconst 1, 1) := by decide +kernel
theorem dX1_init_69 : decode cX1_init 69 = .ok (.putfield 31, 3) := by decide +kernel
theorem dX1_init_72 : decode cX1_init 72 = .ok (.aload_n 0, 1) := by decide +kernel
theorem dX1_init_73 : decode cX1_init 73 = .ok (.sipush 1600, 3) := by decide +kernel
theorem dX1_init_76 : decode cX1_init 76 = .ok (.newarray .int, 2) := by decide +kernel
theorem dX1_init_78 : decode cX1_init 78 = .ok (.putfield 35, 3) := by decide +kernel
theorem dX1_init_81 : decode cX1_init 81 = .ok (.aload_n 0, 1) := by decide +kernel
theorem dX1_init_82 : decode cX1_init 82 = .ok (.sipush 6400, 3) := by decide +kernel
theorem dX1_init_85 : decode cX1_init 85 = .ok (.newarray .int, 2) := by decide +kernel
theorem dX1_init_87 : decode cX1_init 87 = .ok (.putfield 38, 3) := by decide +kernel
theorem dX1_init_90 : decode cX1_init 90 = .ok (.aload_n 0, 1) := by decide +kernel
theorem dX1_init_91 : decode cX1_init 91 = .ok (.iconst 4, 1) := by decide +kernel
theorem dX1_init_92 : decode cX1_init 92 = .ok (.newarray .int, 2) := by decide +kernel
theorem dX1_init_94 : decode cX1_init 94 = .ok (.putfield 41, 3) := by decide +kernel
theorem dX1_init_97 : decode cX1_init 97 = .ok (.aload_n 0, 1) := by decide +kernel
theorem dX1_init_98 : decode cX1_init 98 = .ok (.bipush 16, 2) := by decide +kernel
theorem dX1_init_100 : decode cX1_init 100 = .ok (.newarray .int, 2) := by decide +kernel
theorem dX1_init_102 : decode cX1_init 102 = .ok (.putfield 44, 3) := by decide +kernel
theorem dX1_init_105 : decode cX1_init 105 = .ok (.aload_n 0, 1) := by decide +kernel
theorem dX1_init_106 : decode cX1_init 106 = .ok (.sipush 1601, 3) := by decide +kernel
theorem dX1_init_109 : decode cX1_init 109 = .ok (.newarray .int, 2) := by decide +kernel
theorem dX1_init_111 : decode cX1_init 111 = .ok (.putfield 47, 3) := by decide +kernel
theorem dX1_init_114 : decode cX1_init 114 = .ok (.aload_n 0, 1) := by decide +kernel
theorem dX1_init_115 : decode cX1_init 115 = .ok (.sipush 1601, 3) := by decide +kernel
theorem dX1_init_118 : decode cX1_init 118 = .ok (.newarray .boolean, 2) := by decide +kernel
theorem dX1_init_120 : decode cX1_init 120 = .ok (.putfield 50, 3) := by decide +kernel
theorem dX1_init_123 : decode cX1_init 123 = .ok (.aload_n 0, 1) := by decide +kernel
theorem dX1_init_124 : decode cX1_init 124 = .ok (.iconst (-1), 1) := by decide +kernel
theorem dX1_init_125 : decode cX1_init 125 = .ok (.putfield 54, 3) := by decide +kernel
theorem dX1_init_128 : decode cX1_init 128 = .ok (.return_, 1) := by decide +kernel
theorem dX1_thrown_0 : decode cX1_thrown 0 = .ok (.aload_n 0, 1) := by decide +kernel
theorem dX1_thrown_1 : decode cX1_thrown 1 = .ok (.getfield 57, 3) := by decide +kernel
theorem dX1_thrown_4 : decode cX1_thrown 4 = .ok (.ireturn, 1) := by decide +kernel
theorem dX1_bad_0 : decode cX1_bad 0 = .ok (.aload_n 0, 1) := by decide +kernel
theorem dX1_bad_1 : decode cX1_bad 1 = .ok (.iload_n 1, 1) := by decide +kernel
theorem dX1_bad_2 : decode cX1_bad 2 = .ok (.ifCond .eq 7, 3) := by decide +kernel
theorem dX1_bad_5 : decode cX1_bad 5 = .ok (.iconst 1, 1) := by decide +kernel
theorem dX1_bad_6 : decode cX1_bad 6 = .ok (.goto 4, 3) := by decide +kernel
theorem dX1_bad_9 : decode cX1_bad 9 = .ok (.iconst 0, 1) := by decide +kernel
theorem dX1_bad_10 : decode cX1_bad 10 = .ok (.putfield 57, 3) := by decide +kernel
theorem dX1_bad_13 : decode cX1_bad 13 = .ok (.iload_n 1, 1) := by decide +kernel
theorem dX1_bad_14 : decode cX1_bad 14 = .ok (.ireturn, 1) := by decide +kernel
theorem dX1_isCopy_0 : decode cX1_isCopy 0 = .ok (.iload_n 0, 1) := by decide +kernel
theorem dX1_isCopy_1 : decode cX1_isCopy 1 = .ok (.ifCond .lt 12, 3) := by decide +kernel
theorem dX1_isCopy_4 : decode cX1_isCopy 4 = .ok (.iload_n 0, 1) := by decide +kernel
theorem dX1_isCopy_5 : decode cX1_isCopy 5 = .ok (.iconst 4, 1) := by decide +kernel
theorem dX1_isCopy_6 : decode cX1_isCopy 6 = .ok (.if_icmp .ge 7, 3) := by decide +kernel
theorem dX1_isCopy_9 : decode cX1_isCopy 9 = .ok (.iconst 1, 1) := by decide +kernel
theorem dX1_isCopy_10 : decode cX1_isCopy 10 = .ok (.goto 4, 3) := by decide +kernel
theorem dX1_isCopy_13 : decode cX1_isCopy 13 = .ok (.iconst 0, 1) := by decide +kernel
theorem dX1_isCopy_14 : decode cX1_isCopy 14 = .ok (.ireturn, 1) := by decide +kernel
theorem dX1_isIn_0 : decode cX1_isIn 0 = .ok (.aload_n 0, 1) := by decide +kernel
theorem dX1_isIn_1 : decode cX1_isIn 1 = .ok (.getfield 16, 3) := by decide +kernel
theorem dX1_isIn_4 : decode cX1_isIn 4 = .ok (.iload_n 2, 1) := by decide +kernel
theorem dX1_isIn_5 : decode cX1_isIn 5 = .ok (.iaload, 1) := by decide +kernel
theorem dX1_isIn_6 : decode cX1_isIn 6 = .ok (.aload_n 0, 1) := by decide +kernel
theorem dX1_isIn_7 : decode cX1_isIn 7 = .ok (.getfield 44, 3) := by decide +kernel
theorem dX1_isIn_10 : decode cX1_isIn 10 = .ok (.iconst 4, 1) := by decide +kernel
theorem dX1_isIn_11 : decode cX1_isIn 11 = .ok (.iload_n 1, 1) := by decide +kernel
theorem dX1_isIn_12 : decode cX1_isIn 12 = .ok (.imul, 1) := by decide +kernel
theorem dX1_isIn_13 : decode cX1_isIn 13 = .ok (.aload_n 0, 1) := by decide +kernel
theorem dX1_isIn_14 : decode cX1_isIn 14 = .ok (.getfield 13, 3) := by decide +kernel
theorem dX1_isIn_17 : decode cX1_isIn 17 = .ok (.iload_n 2, 1) := by decide +kernel
theorem dX1_isIn_18 : decode cX1_isIn 18 = .ok (.iaload, 1) := by decide +kernel
theorem dX1_isIn_19 : decode cX1_isIn 19 = .ok (.iadd, 1) := by decide +kernel
theorem dX1_isIn_20 : decode cX1_isIn 20 = .ok (.iaload, 1) := by decide +kernel
theorem dX1_isIn_21 : decode cX1_isIn 21 = .ok (.if_icmp .ge 7, 3) := by decide +kernel
theorem dX1_isIn_24 : decode cX1_isIn 24 = .ok (.iconst 1, 1) := by decide +kernel
theorem dX1_isIn_25 : decode cX1_isIn 25 = .ok (.goto 4, 3) := by decide +kernel
theorem dX1_isIn_28 : decode cX1_isIn 28 = .ok (.iconst 0, 1) := by decide +kernel
theorem dX1_isIn_29 : decode cX1_isIn 29 = .ok (.ireturn, 1) := by decide +kernel
theorem dX1_look_0 : decode cX1_look 0 = .ok (.aload_n 0, 1) := by decide +kernel
theorem dX1_look_1 : decode cX1_look 1 = .ok (.getfield 54, 3) := by decide +kernel
theorem dX1_look_4 : decode cX1_look 4 = .ok (.iload_n 1, 1) := by decide +kernel
theorem dX1_look_5 : decode cX1_look 5 = .ok (.if_icmp .ne 4, 3) := by decide +kernel
theorem dX1_look_8 : decode cX1_look 8 = .ok (.return_, 1) := by decide +kernel
theorem dX1_look_9 : decode cX1_look 9 = .ok (.aload_n 0, 1) := by decide +kernel
theorem dX1_look_10 : decode cX1_look 10 = .ok (.iload_n 1, 1) := by decide +kernel
theorem dX1_look_11 : decode cX1_look 11 = .ok (.putfield 54, 3) := by decide +kernel
theorem dX1_look_14 : decode cX1_look 14 = .ok (.aload_n 0, 1) := by decide +kernel
theorem dX1_look_15 : decode cX1_look 15 = .ok (.iconst 0, 1) := by decide +kernel
theorem dX1_look_16 : decode cX1_look 16 = .ok (.putfield 60, 3) := by decide +kernel
theorem dX1_look_19 : decode cX1_look 19 = .ok (.iconst 0, 1) := by decide +kernel
theorem dX1_look_20 : decode cX1_look 20 = .ok (.istore_n 2, 1) := by decide +kernel
theorem dX1_look_21 : decode cX1_look 21 = .ok (.iload_n 2, 1) := by decide +kernel
theorem dX1_look_22 : decode cX1_look 22 = .ok (.aload_n 0, 1) := by decide +kernel
theorem dX1_look_23 : decode cX1_look 23 = .ok (.getfield 31, 3) := by decide +kernel
theorem dX1_look_26 : decode cX1_look 26 = .ok (.if_icmp .ge 16, 3) := by decide +kernel
theorem dX1_look_29 : decode cX1_look 29 = .ok (.aload_n 0, 1) := by decide +kernel
theorem dX1_look_30 : decode cX1_look 30 = .ok (.getfield 50, 3) := by decide +kernel
theorem dX1_look_33 : decode cX1_look 33 = .ok (.iload_n 2, 1) := by decide +kernel
theorem dX1_look_34 : decode cX1_look 34 = .ok (.iconst 0, 1) := by decide +kernel
theorem dX1_look_35 : decode cX1_look 35 = .ok (.bastore, 1) := by decide +kernel
theorem dX1_look_36 : decode cX1_look 36 = .ok (.iinc 2 1, 3) := by decide +kernel
theorem dX1_look_39 : decode cX1_look 39 = .ok (.goto (-18), 3) := by decide +kernel
theorem dX1_look_42 : decode cX1_look 42 = .ok (.iconst 0, 1) := by decide +kernel
theorem dX1_look_43 : decode cX1_look 43 = .ok (.istore_n 2, 1) := by decide +kernel
theorem dX1_look_44 : decode cX1_look 44 = .ok (.iload_n 2, 1) := by decide +kernel
theorem dX1_look_45 : decode cX1_look 45 = .ok (.iconst 4, 1) := by decide +kernel
theorem dX1_look_46 : decode cX1_look 46 = .ok (.if_icmp .ge 65, 3) := by decide +kernel
theorem dX1_look_49 : decode cX1_look 49 = .ok (.iconst 0, 1) := by decide +kernel
theorem dX1_look_50 : decode cX1_look 50 = .ok (.istore_n 3, 1) := by decide +kernel
theorem dX1_look_51 : decode cX1_look 51 = .ok (.iload_n 3, 1) := by decide +kernel
theorem dX1_look_52 : decode cX1_look 52 = .ok (.aload_n 0, 1) := by decide +kernel
theorem dX1_look_53 : decode cX1_look 53 = .ok (.getfield 44, 3) := by decide +kernel
theorem dX1_look_56 : decode cX1_look 56 = .ok (.iconst 4, 1) := by decide +kernel
theorem dX1_look_57 : decode cX1_look 57 = .ok (.iload_n 1, 1) := by decide +kernel
theorem dX1_look_58 : decode cX1_look 58 = .ok (.imul, 1) := by decide +kernel
theorem dX1_look_59 : decode cX1_look 59 = .ok (.iload_n 2, 1) := by decide +kernel
theorem dX1_look_60 : decode cX1_look 60 = .ok (.iadd, 1) := by decide +kernel
theorem dX1_look_61 : decode cX1_look 61 = .ok (.iaload, 1) := by decide +kernel
theorem dX1_look_62 : decode cX1_look 62 = .ok (.if_icmp .ge 43, 3) := by decide +kernel
theorem dX1_look_65 : decode cX1_look 65 = .ok (.aload_n 0, 1) := by decide +kernel
theorem dX1_look_66 : decode cX1_look 66 = .ok (.getfield 35, 3) := by decide +kernel
theorem dX1_look_69 : decode cX1_look 69 = .ok (.sipush 400, 3) := by decide +kernel
theorem dX1_look_72 : decode cX1_look 72 = .ok (.iload_n 2, 1) := by decide +kernel
theorem dX1_look_73 : decode cX1_look 73 = .ok (.imul, 1) := by decide +kernel
theorem dX1_look_74 : decode cX1_look 74 = .ok (.iload_n 3, 1) := by decide +kernel
theorem dX1_look_75 : decode cX1_look 75 = .ok (.iadd, 1) := by decide +kernel
theorem dX1_look_76 : decode cX1_look 76 = .ok (.iaload, 1) := by decide +kernel
theorem dX1_look_77 : decode cX1_look 77 = .ok (.ifCond .ge 22, 3) := by decide +kernel
theorem dX1_look_80 : decode cX1_look 80 = .ok (.aload_n 0, 1) := by decide +kernel
theorem dX1_look_81 : decode cX1_look 81 = .ok (.getfield 50, 3) := by decide +kernel
theorem dX1_look_84 : decode cX1_look 84 = .ok (.aload_n 0, 1) := by decide +kernel
theorem dX1_look_85 : decode cX1_look 85 = .ok (.getfield 35, 3) := by decide +kernel
theorem dX1_look_88 : decode cX1_look 88 = .ok (.sipush 400, 3) := by decide +kernel
theorem dX1_look_91 : decode cX1_look 91 = .ok (.iload_n 2, 1) := by decide +kernel
theorem dX1_look_92 : decode cX1_look 92 = .ok (.imul, 1) := by decide +kernel
theorem dX1_look_93 : decode cX1_look 93 = .ok (.iload_n 3, 1) := by decide +kernel
theorem dX1_look_94 : decode cX1_look 94 = .ok (.iadd, 1) := by decide +kernel
theorem dX1_look_95 : decode cX1_look 95 = .ok (.iaload, 1) := by decide +kernel
theorem dX1_look_96 : decode cX1_look 96 = .ok (.ineg, 1) := by decide +kernel
theorem dX1_look_97 : decode cX1_look 97 = .ok (.iconst 1, 1) := by decide +kernel
theorem dX1_look_98 : decode cX1_look 98 = .ok (.bastore, 1) := by decide +kernel
theorem dX1_look_99 : decode cX1_look 99 = .ok (.iinc 3 1, 3) := by decide +kernel
theorem dX1_look_102 : decode cX1_look 102 = .ok (.goto (-51), 3) := by decide +kernel
theorem dX1_look_105 : decode cX1_look 105 = .ok (.iinc 2 1, 3) := by decide +kernel
theorem dX1_look_108 : decode cX1_look 108 = .ok (.goto (-64), 3) := by decide +kernel
theorem dX1_look_111 : decode cX1_look 111 = .ok (.iconst 0, 1) := by decide +kernel
theorem dX1_look_112 : decode cX1_look 112 = .ok (.istore_n 2, 1) := by decide +kernel
theorem dX1_look_113 : decode cX1_look 113 = .ok (.iconst 1, 1) := by decide +kernel
theorem dX1_look_114 : decode cX1_look 114 = .ok (.istore_n 3, 1) := by decide +kernel
theorem dX1_look_115 : decode cX1_look 115 = .ok (.iload_n 3, 1) := by decide +kernel
theorem dX1_look_116 : decode cX1_look 116 = .ok (.ifCond .eq 12, 3) := by decide +kernel
theorem dX1_look_119 : decode cX1_look 119 = .ok (.aload_n 0, 1) := by decide +kernel
theorem dX1_look_120 : decode cX1_look 120 = .ok (.getfield 22, 3) := by decide +kernel
theorem dX1_look_123 : decode cX1_look 123 = .ok (.iload_n 2, 1) := by decide +kernel
theorem dX1_look_124 : decode cX1_look 124 = .ok (.iaload, 1) := by decide +kernel
theorem dX1_look_125 : decode cX1_look 125 = .ok (.goto 9, 3) := by decide +kernel
theorem dX1_look_128 : decode cX1_look 128 = .ok (.aload_n 0, 1) := by decide +kernel
theorem dX1_look_129 : decode cX1_look 129 = .ok (.getfield 25, 3) := by decide +kernel
theorem dX1_look_132 : decode cX1_look 132 = .ok (.iload_n 2, 1) := by decide +kernel
theorem dX1_look_133 : decode cX1_look 133 = .ok (.iaload, 1) := by decide +kernel
theorem dX1_look_134 : decode cX1_look 134 = .ok (.istore 4, 2) := by decide +kernel
theorem dX1_look_136 : decode cX1_look 136 = .ok (.iload 4, 2) := by decide +kernel
theorem dX1_look_138 : decode cX1_look 138 = .ok (.ifCond .eq 25, 3) := by decide +kernel
theorem dX1_look_141 : decode cX1_look 141 = .ok (.aload_n 0, 1) := by decide +kernel
theorem dX1_look_142 : decode cX1_look 142 = .ok (.iload_n 1, 1) := by decide +kernel
theorem dX1_look_143 : decode cX1_look 143 = .ok (.iload 4, 2) := by decide +kernel
theorem dX1_look_145 : decode cX1_look 145 = .ok (.invokevirtual 63, 3) := by decide +kernel
theorem dX1_look_148 : decode cX1_look 148 = .ok (.ifCond .ne 15, 3) := by decide +kernel
theorem dX1_look_151 : decode cX1_look 151 = .ok (.aload_n 0, 1) := by decide +kernel
theorem dX1_look_152 : decode cX1_look 152 = .ok (.getfield 25, 3) := by decide +kernel
theorem dX1_look_155 : decode cX1_look 155 = .ok (.iload 4, 2) := by decide +kernel
theorem dX1_look_157 : decode cX1_look 157 = .ok (.iaload, 1) := by decide +kernel
theorem dX1_look_158 : decode cX1_look 158 = .ok (.istore 4, 2) := by decide +kernel
theorem dX1_look_160 : decode cX1_look 160 = .ok (.goto (-24), 3) := by decide +kernel
theorem dX1_look_163 : decode cX1_look 163 = .ok (.iload 4, 2) := by decide +kernel
theorem dX1_look_165 : decode cX1_look 165 = .ok (.ifCond .ne 29, 3) := by decide +kernel
theorem dX1_look_168 : decode cX1_look 168 = .ok (.iload_n 3, 1) := by decide +kernel
theorem dX1_look_169 : decode cX1_look 169 = .ok (.ifCond .eq 13, 3) := by decide +kernel
theorem dX1_look_172 : decode cX1_look 172 = .ok (.iload_n 2, 1) := by decide +kernel
theorem dX1_look_173 : decode cX1_look 173 = .ok (.ifCond .ne 4, 3) := by decide +kernel
theorem dX1_look_176 : decode cX1_look 176 = .ok (.return_, 1) := by decide +kernel
theorem dX1_look_177 : decode cX1_look 177 = .ok (.iconst 0, 1) := by decide +kernel
theorem dX1_look_178 : decode cX1_look 178 = .ok (.istore_n 3, 1) := by decide +kernel
theorem dX1_look_179 : decode cX1_look 179 = .ok (.goto (-64), 3) := by decide +kernel
theorem dX1_look_182 : decode cX1_look 182 = .ok (.aload_n 0, 1) := by decide +kernel
theorem dX1_look_183 : decode cX1_look 183 = .ok (.getfield 28, 3) := by decide +kernel
theorem dX1_look_186 : decode cX1_look 186 = .ok (.iload_n 2, 1) := by decide +kernel
theorem dX1_look_187 : decode cX1_look 187 = .ok (.iaload, 1) := by decide +kernel
theorem dX1_look_188 : decode cX1_look 188 = .ok (.istore_n 2, 1) := by decide +kernel
theorem dX1_look_189 : decode cX1_look 189 = .ok (.iload_n 2, 1) := by decide +kernel
theorem dX1_look_190 : decode cX1_look 190 = .ok (.ifCond .ne (-75), 3) := by decide +kernel
theorem dX1_look_193 : decode cX1_look 193 = .ok (.return_, 1) := by decide +kernel
theorem dX1_look_194 : decode cX1_look 194 = .ok (.iload 4, 2) := by decide +kernel
theorem dX1_look_196 : decode cX1_look 196 = .ok (.istore_n 2, 1) := by decide +kernel
theorem dX1_look_197 : decode cX1_look 197 = .ok (.iconst 1, 1) := by decide +kernel
theorem dX1_look_198 : decode cX1_look 198 = .ok (.istore_n 3, 1) := by decide +kernel
theorem dX1_look_199 : decode cX1_look 199 = .ok (.aload_n 0, 1) := by decide +kernel
theorem dX1_look_200 : decode cX1_look 200 = .ok (.getfield 50, 3) := by decide +kernel
theorem dX1_look_203 : decode cX1_look 203 = .ok (.iload_n 2, 1) := by decide +kernel
theorem dX1_look_204 : decode cX1_look 204 = .ok (.baload, 1) := by decide +kernel
theorem dX1_look_205 : decode cX1_look 205 = .ok (.ifCond .ne 23, 3) := by decide +kernel
theorem dX1_look_208 : decode cX1_look 208 = .ok (.aload_n 0, 1) := by decide +kernel
theorem dX1_look_209 : decode cX1_look 209 = .ok (.getfield 47, 3) := by decide +kernel
theorem dX1_look_212 : decode cX1_look 212 = .ok (.aload_n 0, 1) := by decide +kernel
theorem dX1_look_213 : decode cX1_look 213 = .ok (.getfield 60, 3) := by decide +kernel
theorem dX1_look_216 : decode cX1_look 216 = .ok (.iload_n 2, 1) := by decide +kernel
theorem dX1_look_217 : decode cX1_look 217 = .ok (.iastore, 1) := by decide +kernel
theorem dX1_look_218 : decode cX1_look 218 = .ok (.aload_n 0, 1) := by decide +kernel
theorem dX1_look_219 : decode cX1_look 219 = .ok (.dup, 1) := by decide +kernel
theorem dX1_look_220 : decode cX1_look 220 = .ok (.getfield 60, 3) := by decide +kernel
theorem dX1_look_223 : decode cX1_look 223 = .ok (.iconst 1, 1) := by decide +kernel
theorem dX1_look_224 : decode cX1_look 224 = .ok (.iadd, 1) := by decide +kernel
theorem dX1_look_225 : decode cX1_look 225 = .ok (.putfield 60, 3) := by decide +kernel
theorem dX1_look_228 : decode cX1_look 228 = .ok (.goto (-113), 3) := by decide +kernel
theorem dX1_isBefore_0 : decode cX1_isBefore 0 = .ok (.aload_n 0, 1) := by decide +kernel
theorem dX1_isBefore_1 : decode cX1_isBefore 1 = .ok (.getfield 9, 3) := by decide +kernel
theorem dX1_isBefore_4 : decode cX1_isBefore 4 = .ok (.iload_n 1, 1) := by decide +kernel
theorem dX1_isBefore_5 : decode cX1_isBefore 5 = .ok (.iaload, 1) := by decide +kernel
theorem dX1_isBefore_6 : decode cX1_isBefore 6 = .ok (.aload_n 0, 1) := by decide +kernel
theorem dX1_isBefore_7 : decode cX1_isBefore 7 = .ok (.getfield 9, 3) := by decide +kernel
theorem dX1_isBefore_10 : decode cX1_isBefore 10 = .ok (.iload_n 2, 1) := by decide +kernel
theorem dX1_isBefore_11 : decode cX1_isBefore 11 = .ok (.iaload, 1) := by decide +kernel
theorem dX1_isBefore_12 : decode cX1_isBefore 12 = .ok (.if_icmp .gt 33, 3) := by decide +kernel
theorem dX1_isBefore_15 : decode cX1_isBefore 15 = .ok (.aload_n 0, 1) := by decide +kernel
theorem dX1_isBefore_16 : decode cX1_isBefore 16 = .ok (.getfield 9, 3) := by decide +kernel
theorem dX1_isBefore_19 : decode cX1_isBefore 19 = .ok (.iload_n 1, 1) := by decide +kernel
theorem dX1_isBefore_20 : decode cX1_isBefore 20 = .ok (.iaload, 1) := by decide +kernel
theorem dX1_isBefore_21 : decode cX1_isBefore 21 = .ok (.aload_n 0, 1) := by decide +kernel
theorem dX1_isBefore_22 : decode cX1_isBefore 22 = .ok (.getfield 9, 3) := by decide +kernel
theorem dX1_isBefore_25 : decode cX1_isBefore 25 = .ok (.iload_n 2, 1) := by decide +kernel
theorem dX1_isBefore_26 : decode cX1_isBefore 26 = .ok (.iaload, 1) := by decide +kernel
theorem dX1_isBefore_27 : decode cX1_isBefore 27 = .ok (.if_icmp .ne 22, 3) := by decide +kernel
theorem dX1_isBefore_30 : decode cX1_isBefore 30 = .ok (.aload_n 0, 1) := by decide +kernel
theorem dX1_isBefore_31 : decode cX1_isBefore 31 = .ok (.getfield 13, 3) := by decide +kernel
theorem dX1_isBefore_34 : decode cX1_isBefore 34 = .ok (.iload_n 1, 1) := by decide +kernel
theorem dX1_isBefore_35 : decode cX1_isBefore 35 = .ok (.iaload, 1) := by decide +kernel
theorem dX1_isBefore_36 : decode cX1_isBefore 36 = .ok (.aload_n 0, 1) := by decide +kernel
theorem dX1_isBefore_37 : decode cX1_isBefore 37 = .ok (.getfield 13, 3) := by decide +kernel
theorem dX1_isBefore_40 : decode cX1_isBefore 40 = .ok (.iload_n 2, 1) := by decide +kernel
theorem dX1_isBefore_41 : decode cX1_isBefore 41 = .ok (.iaload, 1) := by decide +kernel
theorem dX1_isBefore_42 : decode cX1_isBefore 42 = .ok (.if_icmp .le 7, 3) := by decide +kernel
theorem dX1_isBefore_45 : decode cX1_isBefore 45 = .ok (.iconst 1, 1) := by decide +kernel
theorem dX1_isBefore_46 : decode cX1_isBefore 46 = .ok (.goto 4, 3) := by decide +kernel
theorem dX1_isBefore_49 : decode cX1_isBefore 49 = .ok (.iconst 0, 1) := by decide +kernel
theorem dX1_isBefore_50 : decode cX1_isBefore 50 = .ok (.ireturn, 1) := by decide +kernel
theorem dX1_done_0 : decode cX1_done 0 = .ok (.aload_n 0, 1) := by decide +kernel
theorem dX1_done_1 : decode cX1_done 1 = .ok (.getfield 41, 3) := by decide +kernel
theorem dX1_done_4 : decode cX1_done 4 = .ok (.iload_n 1, 1) := by decide +kernel
theorem dX1_done_5 : decode cX1_done 5 = .ok (.iaload, 1) := by decide +kernel
theorem dX1_done_6 : decode cX1_done 6 = .ok (.istore_n 3, 1) := by decide +kernel
theorem dX1_done_7 : decode cX1_done 7 = .ok (.aload_n 0, 1) := by decide +kernel
theorem dX1_done_8 : decode cX1_done 8 = .ok (.getfield 35, 3) := by decide +kernel
theorem dX1_done_11 : decode cX1_done 11 = .ok (.sipush 400, 3) := by decide +kernel
theorem dX1_done_14 : decode cX1_done 14 = .ok (.iload_n 1, 1) := by decide +kernel
theorem dX1_done_15 : decode cX1_done 15 = .ok (.imul, 1) := by decide +kernel
theorem dX1_done_16 : decode cX1_done 16 = .ok (.iload_n 3, 1) := by decide +kernel
theorem dX1_done_17 : decode cX1_done 17 = .ok (.iadd, 1) := by decide +kernel
theorem dX1_done_18 : decode cX1_done 18 = .ok (.iload_n 2, 1) := by decide +kernel
theorem dX1_done_19 : decode cX1_done 19 = .ok (.iastore, 1) := by decide +kernel
theorem dX1_done_20 : decode cX1_done 20 = .ok (.iconst 0, 1) := by decide +kernel
theorem dX1_done_21 : decode cX1_done 21 = .ok (.istore 4, 2) := by decide +kernel
theorem dX1_done_23 : decode cX1_done 23 = .ok (.iload 4, 2) := by decide +kernel
theorem dX1_done_25 : decode cX1_done 25 = .ok (.iconst 4, 1) := by decide +kernel
theorem dX1_done_26 : decode cX1_done 26 = .ok (.if_icmp .ge 37, 3) := by decide +kernel
theorem dX1_done_29 : decode cX1_done 29 = .ok (.aload_n 0, 1) := by decide +kernel
theorem dX1_done_30 : decode cX1_done 30 = .ok (.getfield 38, 3) := by decide +kernel
theorem dX1_done_33 : decode cX1_done 33 = .ok (.sipush 400, 3) := by decide +kernel
theorem dX1_done_36 : decode cX1_done 36 = .ok (.iload_n 1, 1) := by decide +kernel
theorem dX1_done_37 : decode cX1_done 37 = .ok (.imul, 1) := by decide +kernel
theorem dX1_done_38 : decode cX1_done 38 = .ok (.iload_n 3, 1) := by decide +kernel
theorem dX1_done_39 : decode cX1_done 39 = .ok (.iadd, 1) := by decide +kernel
theorem dX1_done_40 : decode cX1_done 40 = .ok (.iconst 4, 1) := by decide +kernel
theorem dX1_done_41 : decode cX1_done 41 = .ok (.imul, 1) := by decide +kernel
theorem dX1_done_42 : decode cX1_done 42 = .ok (.iload 4, 2) := by decide +kernel
theorem dX1_done_44 : decode cX1_done 44 = .ok (.iadd, 1) := by decide +kernel
theorem dX1_done_45 : decode cX1_done 45 = .ok (.aload_n 0, 1) := by decide +kernel
theorem dX1_done_46 : decode cX1_done 46 = .ok (.getfield 44, 3) := by decide +kernel
theorem dX1_done_49 : decode cX1_done 49 = .ok (.iconst 4, 1) := by decide +kernel
theorem dX1_done_50 : decode cX1_done 50 = .ok (.iload_n 1, 1) := by decide +kernel
theorem dX1_done_51 : decode cX1_done 51 = .ok (.imul, 1) := by decide +kernel
theorem dX1_done_52 : decode cX1_done 52 = .ok (.iload 4, 2) := by decide +kernel
theorem dX1_done_54 : decode cX1_done 54 = .ok (.iadd, 1) := by decide +kernel
theorem dX1_done_55 : decode cX1_done 55 = .ok (.iaload, 1) := by decide +kernel
theorem dX1_done_56 : decode cX1_done 56 = .ok (.iastore, 1) := by decide +kernel
theorem dX1_done_57 : decode cX1_done 57 = .ok (.iinc 4 1, 3) := by decide +kernel
theorem dX1_done_60 : decode cX1_done 60 = .ok (.goto (-37), 3) := by decide +kernel
theorem dX1_done_63 : decode cX1_done 63 = .ok (.aload_n 0, 1) := by decide +kernel
theorem dX1_done_64 : decode cX1_done 64 = .ok (.getfield 41, 3) := by decide +kernel
theorem dX1_done_67 : decode cX1_done 67 = .ok (.iload_n 1, 1) := by decide +kernel
theorem dX1_done_68 : decode cX1_done 68 = .ok (.dup2, 1) := by decide +kernel
theorem dX1_done_69 : decode cX1_done 69 = .ok (.iaload, 1) := by decide +kernel
theorem dX1_done_70 : decode cX1_done 70 = .ok (.iconst 1, 1) := by decide +kernel
theorem dX1_done_71 : decode cX1_done 71 = .ok (.iadd, 1) := by decide +kernel
theorem dX1_done_72 : decode cX1_done 72 = .ok (.iastore, 1) := by decide +kernel
theorem dX1_done_73 : decode cX1_done 73 = .ok (.aload_n 0, 1) := by decide +kernel
theorem dX1_done_74 : decode cX1_done 74 = .ok (.getfield 44, 3) := by decide +kernel
theorem dX1_done_77 : decode cX1_done 77 = .ok (.iconst 4, 1) := by decide +kernel
theorem dX1_done_78 : decode cX1_done 78 = .ok (.iload_n 1, 1) := by decide +kernel
theorem dX1_done_79 : decode cX1_done 79 = .ok (.imul, 1) := by decide +kernel
theorem dX1_done_80 : decode cX1_done 80 = .ok (.iload_n 1, 1) := by decide +kernel
theorem dX1_done_81 : decode cX1_done 81 = .ok (.iadd, 1) := by decide +kernel
theorem dX1_done_82 : decode cX1_done 82 = .ok (.dup2, 1) := by decide +kernel
theorem dX1_done_83 : decode cX1_done 83 = .ok (.iaload, 1) := by decide +kernel
theorem dX1_done_84 : decode cX1_done 84 = .ok (.iconst 1, 1) := by decide +kernel
theorem dX1_done_85 : decode cX1_done 85 = .ok (.iadd, 1) := by decide +kernel
theorem dX1_done_86 : decode cX1_done 86 = .ok (.iastore, 1) := by decide +kernel
theorem dX1_done_87 : decode cX1_done 87 = .ok (.aload_n 0, 1) := by decide +kernel
theorem dX1_done_88 : decode cX1_done 88 = .ok (.iconst (-1), 1) := by decide +kernel
theorem dX1_done_89 : decode cX1_done 89 = .ok (.putfield 54, 3) := by decide +kernel
theorem dX1_done_92 : decode cX1_done 92 = .ok (.iload_n 3, 1) := by decide +kernel
theorem dX1_done_93 : decode cX1_done 93 = .ok (.ireturn, 1) := by decide +kernel
theorem dX1_insert_0 : decode cX1_insert 0 = .ok (.aload_n 0, 1) := by decide +kernel
theorem dX1_insert_1 : decode cX1_insert 1 = .ok (.iload_n 1, 1) := by decide +kernel
theorem dX1_insert_2 : decode cX1_insert 2 = .ok (.invokestatic 67, 3) := by decide +kernel
theorem dX1_insert_5 : decode cX1_insert 5 = .ok (.ifCond .eq 14, 3) := by decide +kernel
theorem dX1_insert_8 : decode cX1_insert 8 = .ok (.iload_n 3, 1) := by decide +kernel
theorem dX1_insert_9 : decode cX1_insert 9 = .ok (.ifCond .lt 10, 3) := by decide +kernel
theorem dX1_insert_12 : decode cX1_insert 12 = .ok (.iload_n 3, 1) := by decide +kernel
theorem dX1_insert_13 : decode cX1_insert 13 = .ok (.sipush 255, 3) := by decide +kernel
theorem dX1_insert_16 : decode cX1_insert 16 = .ok (.if_icmp .le 7, 3) := by decide +kernel
theorem dX1_insert_19 : decode cX1_insert 19 = .ok (.iconst 1, 1) := by decide +kernel
theorem dX1_insert_20 : decode cX1_insert 20 = .ok (.goto 4, 3) := by decide +kernel
theorem dX1_insert_23 : decode cX1_insert 23 = .ok (.iconst 0, 1) := by decide +kernel
theorem dX1_insert_24 : decode cX1_insert 24 = .ok (.invokevirtual 71, 3) := by decide +kernel
theorem dX1_insert_27 : decode cX1_insert 27 = .ok (.ifCond .eq 5, 3) := by decide +kernel
theorem dX1_insert_30 : decode cX1_insert 30 = .ok (.iconst 0, 1) := by decide +kernel
theorem dX1_insert_31 : decode cX1_insert 31 = .ok (.ireturn, 1) := by decide +kernel
theorem dX1_insert_32 : decode cX1_insert 32 = .ok (.aload_n 0, 1) := by decide +kernel
theorem dX1_insert_33 : decode cX1_insert 33 = .ok (.iload_n 1, 1) := by decide +kernel
theorem dX1_insert_34 : decode cX1_insert 34 = .ok (.invokevirtual 75, 3) := by decide +kernel
theorem dX1_insert_37 : decode cX1_insert 37 = .ok (.aload_n 0, 1) := by decide +kernel
theorem dX1_insert_38 : decode cX1_insert 38 = .ok (.iload_n 2, 1) := by decide +kernel
theorem dX1_insert_39 : decode cX1_insert 39 = .ok (.ifCond .lt 11, 3) := by decide +kernel
theorem dX1_insert_42 : decode cX1_insert 42 = .ok (.iload_n 2, 1) := by decide +kernel
theorem dX1_insert_43 : decode cX1_insert 43 = .ok (.aload_n 0, 1) := by decide +kernel
theorem dX1_insert_44 : decode cX1_insert 44 = .ok (.getfield 60, 3) := by decide +kernel
theorem dX1_insert_47 : decode cX1_insert 47 = .ok (.if_icmp .le 7, 3) := by decide +kernel
theorem dX1_insert_50 : decode cX1_insert 50 = .ok (.iconst 1, 1) := by decide +kernel
theorem dX1_insert_51 : decode cX1_insert 51 = .ok (.goto 4, 3) := by decide +kernel
theorem dX1_insert_54 : decode cX1_insert 54 = .ok (.iconst 0, 1) := by decide +kernel
theorem dX1_insert_55 : decode cX1_insert 55 = .ok (.invokevirtual 71, 3) := by decide +kernel
theorem dX1_insert_58 : decode cX1_insert 58 = .ok (.ifCond .eq 5, 3) := by decide +kernel
theorem dX1_insert_61 : decode cX1_insert 61 = .ok (.iconst 0, 1) := by decide +kernel
theorem dX1_insert_62 : decode cX1_insert 62 = .ok (.ireturn, 1) := by decide +kernel
theorem dX1_insert_63 : decode cX1_insert 63 = .ok (.aload_n 0, 1) := by decide +kernel
theorem dX1_insert_64 : decode cX1_insert 64 = .ok (.getfield 41, 3) := by decide +kernel
theorem dX1_insert_67 : decode cX1_insert 67 = .ok (.iload_n 1, 1) := by decide +kernel
theorem dX1_insert_68 : decode cX1_insert 68 = .ok (.iaload, 1) := by decide +kernel
theorem dX1_insert_69 : decode cX1_insert 69 = .ok (.sipush 400, 3) := by decide +kernel
theorem dX1_insert_72 : decode cX1_insert 72 = .ok (.if_icmp .ne 10, 3) := by decide +kernel
theorem dX1_insert_75 : decode cX1_insert 75 = .ok (.aload_n 0, 1) := by decide +kernel
theorem dX1_insert_76 : decode cX1_insert 76 = .ok (.iconst 2, 1) := by decide +kernel
theorem dX1_insert_77 : decode cX1_insert 77 = .ok (.putfield 57, 3) := by decide +kernel
theorem dX1_insert_80 : decode cX1_insert 80 = .ok (.iconst 0, 1) := by decide +kernel
theorem dX1_insert_81 : decode cX1_insert 81 = .ok (.ireturn, 1) := by decide +kernel
theorem dX1_insert_82 : decode cX1_insert 82 = .ok (.iconst 0, 1) := by decide +kernel
theorem dX1_insert_83 : decode cX1_insert 83 = .ok (.istore 4, 2) := by decide +kernel
theorem dX1_insert_85 : decode cX1_insert 85 = .ok (.iconst 1, 1) := by decide +kernel
theorem dX1_insert_86 : decode cX1_insert 86 = .ok (.istore 5, 2) := by decide +kernel
theorem dX1_insert_88 : decode cX1_insert 88 = .ok (.iload 5, 2) := by decide +kernel
theorem dX1_insert_90 : decode cX1_insert 90 = .ok (.aload_n 0, 1) := by decide +kernel
theorem dX1_insert_91 : decode cX1_insert 91 = .ok (.getfield 31, 3) := by decide +kernel
theorem dX1_insert_94 : decode cX1_insert 94 = .ok (.if_icmp .ge 40, 3) := by decide +kernel
theorem dX1_insert_97 : decode cX1_insert 97 = .ok (.aload_n 0, 1) := by decide +kernel
theorem dX1_insert_98 : decode cX1_insert 98 = .ok (.iload_n 1, 1) := by decide +kernel
theorem dX1_insert_99 : decode cX1_insert 99 = .ok (.iload 5, 2) := by decide +kernel
theorem dX1_insert_101 : decode cX1_insert 101 = .ok (.invokevirtual 63, 3) := by decide +kernel
theorem dX1_insert_104 : decode cX1_insert 104 = .ok (.ifCond .eq 24, 3) := by decide +kernel
theorem dX1_insert_107 : decode cX1_insert 107 = .ok (.aload_n 0, 1) := by decide +kernel
theorem dX1_insert_108 : decode cX1_insert 108 = .ok (.getfield 9, 3) := by decide +kernel
theorem dX1_insert_111 : decode cX1_insert 111 = .ok (.iload 5, 2) := by decide +kernel
theorem dX1_insert_113 : decode cX1_insert 113 = .ok (.iaload, 1) := by decide +kernel
theorem dX1_insert_114 : decode cX1_insert 114 = .ok (.iload 4, 2) := by decide +kernel
theorem dX1_insert_116 : decode cX1_insert 116 = .ok (.if_icmp .le 12, 3) := by decide +kernel
theorem dX1_insert_119 : decode cX1_insert 119 = .ok (.aload_n 0, 1) := by decide +kernel
theorem dX1_insert_120 : decode cX1_insert 120 = .ok (.getfield 9, 3) := by decide +kernel
theorem dX1_insert_123 : decode cX1_insert 123 = .ok (.iload 5, 2) := by decide +kernel
theorem dX1_insert_125 : decode cX1_insert 125 = .ok (.iaload, 1) := by decide +kernel
theorem dX1_insert_126 : decode cX1_insert 126 = .ok (.istore 4, 2) := by decide +kernel
theorem dX1_insert_128 : decode cX1_insert 128 = .ok (.iinc 5 1, 3) := by decide +kernel
theorem dX1_insert_131 : decode cX1_insert 131 = .ok (.goto (-43), 3) := by decide +kernel
theorem dX1_insert_134 : decode cX1_insert 134 = .ok (.aload_n 0, 1) := by decide +kernel
theorem dX1_insert_135 : decode cX1_insert 135 = .ok (.getfield 31, 3) := by decide +kernel
theorem dX1_insert_138 : decode cX1_insert 138 = .ok (.istore 5, 2) := by decide +kernel
theorem dX1_insert_140 : decode cX1_insert 140 = .ok (.aload_n 0, 1) := by decide +kernel
theorem dX1_insert_141 : decode cX1_insert 141 = .ok (.dup, 1) := by decide +kernel
theorem dX1_insert_142 : decode cX1_insert 142 = .ok (.getfield 31, 3) := by decide +kernel
theorem dX1_insert_145 : decode cX1_insert 145 = .ok (.iconst 1, 1) := by decide +kernel
theorem dX1_insert_146 : decode cX1_insert 146 = .ok (.iadd, 1) := by decide +kernel
theorem dX1_insert_147 : decode cX1_insert 147 = .ok (.putfield 31, 3) := by decide +kernel
theorem dX1_insert_150 : decode cX1_insert 150 = .ok (.aload_n 0, 1) := by decide +kernel
theorem dX1_insert_151 : decode cX1_insert 151 = .ok (.getfield 9, 3) := by decide +kernel
theorem dX1_insert_154 : decode cX1_insert 154 = .ok (.iload 5, 2) := by decide +kernel
theorem dX1_insert_156 : decode cX1_insert 156 = .ok (.iload 4, 2) := by decide +kernel
theorem dX1_insert_158 : decode cX1_insert 158 = .ok (.iconst 1, 1) := by decide +kernel
theorem dX1_insert_159 : decode cX1_insert 159 = .ok (.iadd, 1) := by decide +kernel
theorem dX1_insert_160 : decode cX1_insert 160 = .ok (.iastore, 1) := by decide +kernel
theorem dX1_insert_161 : decode cX1_insert 161 = .ok (.aload_n 0, 1) := by decide +kernel
theorem dX1_insert_162 : decode cX1_insert 162 = .ok (.getfield 13, 3) := by decide +kernel
theorem dX1_insert_165 : decode cX1_insert 165 = .ok (.iload 5, 2) := by decide +kernel
theorem dX1_insert_167 : decode cX1_insert 167 = .ok (.iload_n 1, 1) := by decide +kernel
theorem dX1_insert_168 : decode cX1_insert 168 = .ok (.iastore, 1) := by decide +kernel
theorem dX1_insert_169 : decode cX1_insert 169 = .ok (.aload_n 0, 1) := by decide +kernel
theorem dX1_insert_170 : decode cX1_insert 170 = .ok (.getfield 16, 3) := by decide +kernel
theorem dX1_insert_173 : decode cX1_insert 173 = .ok (.iload 5, 2) := by decide +kernel
theorem dX1_insert_175 : decode cX1_insert 175 = .ok (.aload_n 0, 1) := by decide +kernel
theorem dX1_insert_176 : decode cX1_insert 176 = .ok (.getfield 41, 3) := by decide +kernel
theorem dX1_insert_179 : decode cX1_insert 179 = .ok (.iload_n 1, 1) := by decide +kernel
theorem dX1_insert_180 : decode cX1_insert 180 = .ok (.iaload, 1) := by decide +kernel
theorem dX1_insert_181 : decode cX1_insert 181 = .ok (.iastore, 1) := by decide +kernel
theorem dX1_insert_182 : decode cX1_insert 182 = .ok (.aload_n 0, 1) := by decide +kernel
theorem dX1_insert_183 : decode cX1_insert 183 = .ok (.getfield 19, 3) := by decide +kernel
theorem dX1_insert_186 : decode cX1_insert 186 = .ok (.iload 5, 2) := by decide +kernel
theorem dX1_insert_188 : decode cX1_insert 188 = .ok (.iload_n 3, 1) := by decide +kernel
theorem dX1_insert_189 : decode cX1_insert 189 = .ok (.iastore, 1) := by decide +kernel
theorem dX1_insert_190 : decode cX1_insert 190 = .ok (.iload_n 2, 1) := by decide +kernel
theorem dX1_insert_191 : decode cX1_insert 191 = .ok (.ifCond .ne 7, 3) := by decide +kernel
theorem dX1_insert_194 : decode cX1_insert 194 = .ok (.iconst 0, 1) := by decide +kernel
theorem dX1_insert_195 : decode cX1_insert 195 = .ok (.goto 11, 3) := by decide +kernel
theorem dX1_insert_198 : decode cX1_insert 198 = .ok (.aload_n 0, 1) := by decide +kernel
theorem dX1_insert_199 : decode cX1_insert 199 = .ok (.getfield 47, 3) := by decide +kernel
theorem dX1_insert_202 : decode cX1_insert 202 = .ok (.iload_n 2, 1) := by decide +kernel
theorem dX1_insert_203 : decode cX1_insert 203 = .ok (.iconst 1, 1) := by decide +kernel
theorem dX1_insert_204 : decode cX1_insert 204 = .ok (.isub, 1) := by decide +kernel
theorem dX1_insert_205 : decode cX1_insert 205 = .ok (.iaload, 1) := by decide +kernel
theorem dX1_insert_206 : decode cX1_insert 206 = .ok (.istore 6, 2) := by decide +kernel
theorem dX1_insert_208 : decode cX1_insert 208 = .ok (.aload_n 0, 1) := by decide +kernel
theorem dX1_insert_209 : decode cX1_insert 209 = .ok (.getfield 28, 3) := by decide +kernel
theorem dX1_insert_212 : decode cX1_insert 212 = .ok (.iload 5, 2) := by decide +kernel
theorem dX1_insert_214 : decode cX1_insert 214 = .ok (.iload 6, 2) := by decide +kernel
theorem dX1_insert_216 : decode cX1_insert 216 = .ok (.iastore, 1) := by decide +kernel
theorem dX1_insert_217 : decode cX1_insert 217 = .ok (.iconst 0, 1) := by decide +kernel
theorem dX1_insert_218 : decode cX1_insert 218 = .ok (.istore 7, 2) := by decide +kernel
theorem dX1_insert_220 : decode cX1_insert 220 = .ok (.aload_n 0, 1) := by decide +kernel
theorem dX1_insert_221 : decode cX1_insert 221 = .ok (.getfield 22, 3) := by decide +kernel
theorem dX1_insert_224 : decode cX1_insert 224 = .ok (.iload 6, 2) := by decide +kernel
theorem dX1_insert_226 : decode cX1_insert 226 = .ok (.iaload, 1) := by decide +kernel
theorem dX1_insert_227 : decode cX1_insert 227 = .ok (.istore 8, 2) := by decide +kernel
theorem dX1_insert_229 : decode cX1_insert 229 = .ok (.iload 8, 2) := by decide +kernel
theorem dX1_insert_231 : decode cX1_insert 231 = .ok (.ifCond .eq 30, 3) := by decide +kernel
theorem dX1_insert_234 : decode cX1_insert 234 = .ok (.aload_n 0, 1) := by decide +kernel
theorem dX1_insert_235 : decode cX1_insert 235 = .ok (.iload 8, 2) := by decide +kernel
theorem dX1_insert_237 : decode cX1_insert 237 = .ok (.iload 5, 2) := by decide +kernel
theorem dX1_insert_239 : decode cX1_insert 239 = .ok (.invokevirtual 79, 3) := by decide +kernel
theorem dX1_insert_242 : decode cX1_insert 242 = .ok (.ifCond .eq 19, 3) := by decide +kernel
theorem dX1_insert_245 : decode cX1_insert 245 = .ok (.iload 8, 2) := by decide +kernel
theorem dX1_insert_247 : decode cX1_insert 247 = .ok (.istore 7, 2) := by decide +kernel
theorem dX1_insert_249 : decode cX1_insert 249 = .ok (.aload_n 0, 1) := by decide +kernel
theorem dX1_insert_250 : decode cX1_insert 250 = .ok (.getfield 25, 3) := by decide +kernel
theorem dX1_insert_253 : decode cX1_insert 253 = .ok (.iload 8, 2) := by decide +kernel
theorem dX1_insert_255 : decode cX1_insert 255 = .ok (.iaload, 1) := by decide +kernel
theorem dX1_insert_256 : decode cX1_insert 256 = .ok (.istore 8, 2) := by decide +kernel
theorem dX1_insert_258 : decode cX1_insert 258 = .ok (.goto (-29), 3) := by decide +kernel
theorem dX1_insert_261 : decode cX1_insert 261 = .ok (.aload_n 0, 1) := by decide +kernel
theorem dX1_insert_262 : decode cX1_insert 262 = .ok (.getfield 25, 3) := by decide +kernel
theorem dX1_insert_265 : decode cX1_insert 265 = .ok (.iload 5, 2) := by decide +kernel
theorem dX1_insert_267 : decode cX1_insert 267 = .ok (.iload 8, 2) := by decide +kernel
theorem dX1_insert_269 : decode cX1_insert 269 = .ok (.iastore, 1) := by decide +kernel
theorem dX1_insert_270 : decode cX1_insert 270 = .ok (.iload 7, 2) := by decide +kernel
theorem dX1_insert_272 : decode cX1_insert 272 = .ok (.ifCond .ne 15, 3) := by decide +kernel
theorem dX1_insert_275 : decode cX1_insert 275 = .ok (.aload_n 0, 1) := by decide +kernel
theorem dX1_insert_276 : decode cX1_insert 276 = .ok (.getfield 22, 3) := by decide +kernel
theorem dX1_insert_279 : decode cX1_insert 279 = .ok (.iload 6, 2) := by decide +kernel
theorem dX1_insert_281 : decode cX1_insert 281 = .ok (.iload 5, 2) := by decide +kernel
theorem dX1_insert_283 : decode cX1_insert 283 = .ok (.iastore, 1) := by decide +kernel
theorem dX1_insert_284 : decode cX1_insert 284 = .ok (.goto 12, 3) := by decide +kernel
theorem dX1_insert_287 : decode cX1_insert 287 = .ok (.aload_n 0, 1) := by decide +kernel
theorem dX1_insert_288 : decode cX1_insert 288 = .ok (.getfield 25, 3) := by decide +kernel
theorem dX1_insert_291 : decode cX1_insert 291 = .ok (.iload 7, 2) := by decide +kernel
theorem dX1_insert_293 : decode cX1_insert 293 = .ok (.iload 5, 2) := by decide +kernel
theorem dX1_insert_295 : decode cX1_insert 295 = .ok (.iastore, 1) := by decide +kernel
theorem dX1_insert_296 : decode cX1_insert 296 = .ok (.aload_n 0, 1) := by decide +kernel
theorem dX1_insert_297 : decode cX1_insert 297 = .ok (.iload_n 1, 1) := by decide +kernel
theorem dX1_insert_298 : decode cX1_insert 298 = .ok (.iload 5, 2) := by decide +kernel
theorem dX1_insert_300 : decode cX1_insert 300 = .ok (.invokevirtual 82, 3) := by decide +kernel
theorem dX1_insert_303 : decode cX1_insert 303 = .ok (.ireturn, 1) := by decide +kernel
theorem dX1_remove_0 : decode cX1_remove 0 = .ok (.aload_n 0, 1) := by decide +kernel
theorem dX1_remove_1 : decode cX1_remove 1 = .ok (.iload_n 1, 1) := by decide +kernel
theorem dX1_remove_2 : decode cX1_remove 2 = .ok (.invokestatic 67, 3) := by decide +kernel
theorem dX1_remove_5 : decode cX1_remove 5 = .ok (.ifCond .ne 7, 3) := by decide +kernel
theorem dX1_remove_8 : decode cX1_remove 8 = .ok (.iconst 1, 1) := by decide +kernel
theorem dX1_remove_9 : decode cX1_remove 9 = .ok (.goto 4, 3) := by decide +kernel
theorem dX1_remove_12 : decode cX1_remove 12 = .ok (.iconst 0, 1) := by decide +kernel
theorem dX1_remove_13 : decode cX1_remove 13 = .ok (.invokevirtual 71, 3) := by decide +kernel
theorem dX1_remove_16 : decode cX1_remove 16 = .ok (.ifCond .eq 5, 3) := by decide +kernel
theorem dX1_remove_19 : decode cX1_remove 19 = .ok (.iconst 0, 1) := by decide +kernel
theorem dX1_remove_20 : decode cX1_remove 20 = .ok (.ireturn, 1) := by decide +kernel
theorem dX1_remove_21 : decode cX1_remove 21 = .ok (.aload_n 0, 1) := by decide +kernel
theorem dX1_remove_22 : decode cX1_remove 22 = .ok (.iload_n 1, 1) := by decide +kernel
theorem dX1_remove_23 : decode cX1_remove 23 = .ok (.invokevirtual 75, 3) := by decide +kernel
theorem dX1_remove_26 : decode cX1_remove 26 = .ok (.aload_n 0, 1) := by decide +kernel
theorem dX1_remove_27 : decode cX1_remove 27 = .ok (.iload_n 2, 1) := by decide +kernel
theorem dX1_remove_28 : decode cX1_remove 28 = .ok (.ifCond .lt 11, 3) := by decide +kernel
theorem dX1_remove_31 : decode cX1_remove 31 = .ok (.iload_n 2, 1) := by decide +kernel
theorem dX1_remove_32 : decode cX1_remove 32 = .ok (.aload_n 0, 1) := by decide +kernel
theorem dX1_remove_33 : decode cX1_remove 33 = .ok (.getfield 60, 3) := by decide +kernel
theorem dX1_remove_36 : decode cX1_remove 36 = .ok (.if_icmp .lt 7, 3) := by decide +kernel
theorem dX1_remove_39 : decode cX1_remove 39 = .ok (.iconst 1, 1) := by decide +kernel
theorem dX1_remove_40 : decode cX1_remove 40 = .ok (.goto 4, 3) := by decide +kernel
theorem dX1_remove_43 : decode cX1_remove 43 = .ok (.iconst 0, 1) := by decide +kernel
theorem dX1_remove_44 : decode cX1_remove 44 = .ok (.invokevirtual 71, 3) := by decide +kernel
theorem dX1_remove_47 : decode cX1_remove 47 = .ok (.ifCond .eq 5, 3) := by decide +kernel
theorem dX1_remove_50 : decode cX1_remove 50 = .ok (.iconst 0, 1) := by decide +kernel
theorem dX1_remove_51 : decode cX1_remove 51 = .ok (.ireturn, 1) := by decide +kernel
theorem dX1_remove_52 : decode cX1_remove 52 = .ok (.aload_n 0, 1) := by decide +kernel
theorem dX1_remove_53 : decode cX1_remove 53 = .ok (.getfield 41, 3) := by decide +kernel
theorem dX1_remove_56 : decode cX1_remove 56 = .ok (.iload_n 1, 1) := by decide +kernel
theorem dX1_remove_57 : decode cX1_remove 57 = .ok (.iaload, 1) := by decide +kernel
theorem dX1_remove_58 : decode cX1_remove 58 = .ok (.sipush 400, 3) := by decide +kernel
theorem dX1_remove_61 : decode cX1_remove 61 = .ok (.if_icmp .ne 10, 3) := by decide +kernel
theorem dX1_remove_64 : decode cX1_remove 64 = .ok (.aload_n 0, 1) := by decide +kernel
theorem dX1_remove_65 : decode cX1_remove 65 = .ok (.iconst 2, 1) := by decide +kernel
theorem dX1_remove_66 : decode cX1_remove 66 = .ok (.putfield 57, 3) := by decide +kernel
theorem dX1_remove_69 : decode cX1_remove 69 = .ok (.iconst 0, 1) := by decide +kernel
theorem dX1_remove_70 : decode cX1_remove 70 = .ok (.ireturn, 1) := by decide +kernel
theorem dX1_remove_71 : decode cX1_remove 71 = .ok (.aload_n 0, 1) := by decide +kernel
theorem dX1_remove_72 : decode cX1_remove 72 = .ok (.iload_n 1, 1) := by decide +kernel
theorem dX1_remove_73 : decode cX1_remove 73 = .ok (.aload_n 0, 1) := by decide +kernel
theorem dX1_remove_74 : decode cX1_remove 74 = .ok (.getfield 47, 3) := by decide +kernel
theorem dX1_remove_77 : decode cX1_remove 77 = .ok (.iload_n 2, 1) := by decide +kernel
theorem dX1_remove_78 : decode cX1_remove 78 = .ok (.iaload, 1) := by decide +kernel
theorem dX1_remove_79 : decode cX1_remove 79 = .ok (.ineg, 1) := by decide +kernel
theorem dX1_remove_80 : decode cX1_remove 80 = .ok (.invokevirtual 82, 3) := by decide +kernel
theorem dX1_remove_83 : decode cX1_remove 83 = .ok (.ireturn, 1) := by decide +kernel
theorem dX1_bring_0 : decode cX1_bring 0 = .ok (.aload_n 0, 1) := by decide +kernel
theorem dX1_bring_1 : decode cX1_bring 1 = .ok (.iload_n 1, 1) := by decide +kernel
theorem dX1_bring_2 : decode cX1_bring 2 = .ok (.invokestatic 67, 3) := by decide +kernel
theorem dX1_bring_5 : decode cX1_bring 5 = .ok (.ifCond .eq 29, 3) := by decide +kernel
theorem dX1_bring_8 : decode cX1_bring 8 = .ok (.iload_n 3, 1) := by decide +kernel
theorem dX1_bring_9 : decode cX1_bring 9 = .ok (.invokestatic 67, 3) := by decide +kernel
theorem dX1_bring_12 : decode cX1_bring 12 = .ok (.ifCond .eq 22, 3) := by decide +kernel
theorem dX1_bring_15 : decode cX1_bring 15 = .ok (.iload_n 1, 1) := by decide +kernel
theorem dX1_bring_16 : decode cX1_bring 16 = .ok (.iload_n 3, 1) := by decide +kernel
theorem dX1_bring_17 : decode cX1_bring 17 = .ok (.if_icmp .eq 17, 3) := by decide +kernel
theorem dX1_bring_20 : decode cX1_bring 20 = .ok (.iload_n 2, 1) := by decide +kernel
theorem dX1_bring_21 : decode cX1_bring 21 = .ok (.ifCond .lt 13, 3) := by decide +kernel
theorem dX1_bring_24 : decode cX1_bring 24 = .ok (.iload_n 2, 1) := by decide +kernel
theorem dX1_bring_25 : decode cX1_bring 25 = .ok (.aload_n 0, 1) := by decide +kernel
theorem dX1_bring_26 : decode cX1_bring 26 = .ok (.getfield 41, 3) := by decide +kernel
theorem dX1_bring_29 : decode cX1_bring 29 = .ok (.iload_n 1, 1) := by decide +kernel
theorem dX1_bring_30 : decode cX1_bring 30 = .ok (.iaload, 1) := by decide +kernel
theorem dX1_bring_31 : decode cX1_bring 31 = .ok (.if_icmp .lt 7, 3) := by decide +kernel
theorem dX1_bring_34 : decode cX1_bring 34 = .ok (.iconst 1, 1) := by decide +kernel
theorem dX1_bring_35 : decode cX1_bring 35 = .ok (.goto 4, 3) := by decide +kernel
theorem dX1_bring_38 : decode cX1_bring 38 = .ok (.iconst 0, 1) := by decide +kernel
theorem dX1_bring_39 : decode cX1_bring 39 = .ok (.invokevirtual 71, 3) := by decide +kernel
theorem dX1_bring_42 : decode cX1_bring 42 = .ok (.ifCond .eq 4, 3) := by decide +kernel
theorem dX1_bring_45 : decode cX1_bring 45 = .ok (.return_, 1) := by decide +kernel
theorem dX1_bring_46 : decode cX1_bring 46 = .ok (.iload_n 2, 1) := by decide +kernel
theorem dX1_bring_47 : decode cX1_bring 47 = .ok (.aload_n 0, 1) := by decide +kernel
theorem dX1_bring_48 : decode cX1_bring 48 = .ok (.getfield 44, 3) := by decide +kernel
theorem dX1_bring_51 : decode cX1_bring 51 = .ok (.iconst 4, 1) := by decide +kernel
theorem dX1_bring_52 : decode cX1_bring 52 = .ok (.iload_n 3, 1) := by decide +kernel
theorem dX1_bring_53 : decode cX1_bring 53 = .ok (.imul, 1) := by decide +kernel
theorem dX1_bring_54 : decode cX1_bring 54 = .ok (.iload_n 1, 1) := by decide +kernel
theorem dX1_bring_55 : decode cX1_bring 55 = .ok (.iadd, 1) := by decide +kernel
theorem dX1_bring_56 : decode cX1_bring 56 = .ok (.iaload, 1) := by decide +kernel
theorem dX1_bring_57 : decode cX1_bring 57 = .ok (.if_icmp .ge 4, 3) := by decide +kernel
theorem dX1_bring_60 : decode cX1_bring 60 = .ok (.return_, 1) := by decide +kernel
theorem dX1_bring_61 : decode cX1_bring 61 = .ok (.iconst 0, 1) := by decide +kernel
theorem dX1_bring_62 : decode cX1_bring 62 = .ok (.istore 4, 2) := by decide +kernel
theorem dX1_bring_64 : decode cX1_bring 64 = .ok (.iload 4, 2) := by decide +kernel
theorem dX1_bring_66 : decode cX1_bring 66 = .ok (.iconst 4, 1) := by decide +kernel
theorem dX1_bring_67 : decode cX1_bring 67 = .ok (.if_icmp .ge 45, 3) := by decide +kernel
theorem dX1_bring_70 : decode cX1_bring 70 = .ok (.aload_n 0, 1) := by decide +kernel
theorem dX1_bring_71 : decode cX1_bring 71 = .ok (.getfield 38, 3) := by decide +kernel
theorem dX1_bring_74 : decode cX1_bring 74 = .ok (.sipush 400, 3) := by decide +kernel
theorem dX1_bring_77 : decode cX1_bring 77 = .ok (.iload_n 1, 1) := by decide +kernel
theorem dX1_bring_78 : decode cX1_bring 78 = .ok (.imul, 1) := by decide +kernel
theorem dX1_bring_79 : decode cX1_bring 79 = .ok (.iload_n 2, 1) := by decide +kernel
theorem dX1_bring_80 : decode cX1_bring 80 = .ok (.iadd, 1) := by decide +kernel
theorem dX1_bring_81 : decode cX1_bring 81 = .ok (.iconst 4, 1) := by decide +kernel
theorem dX1_bring_82 : decode cX1_bring 82 = .ok (.imul, 1) := by decide +kernel
theorem dX1_bring_83 : decode cX1_bring 83 = .ok (.iload 4, 2) := by decide +kernel
theorem dX1_bring_85 : decode cX1_bring 85 = .ok (.iadd, 1) := by decide +kernel
theorem dX1_bring_86 : decode cX1_bring 86 = .ok (.iaload, 1) := by decide +kernel
theorem dX1_bring_87 : decode cX1_bring 87 = .ok (.aload_n 0, 1) := by decide +kernel
theorem dX1_bring_88 : decode cX1_bring 88 = .ok (.getfield 44, 3) := by decide +kernel
theorem dX1_bring_91 : decode cX1_bring 91 = .ok (.iconst 4, 1) := by decide +kernel
theorem dX1_bring_92 : decode cX1_bring 92 = .ok (.iload_n 3, 1) := by decide +kernel
theorem dX1_bring_93 : decode cX1_bring 93 = .ok (.imul, 1) := by decide +kernel
theorem dX1_bring_94 : decode cX1_bring 94 = .ok (.iload 4, 2) := by decide +kernel
theorem dX1_bring_96 : decode cX1_bring 96 = .ok (.iadd, 1) := by decide +kernel
theorem dX1_bring_97 : decode cX1_bring 97 = .ok (.iaload, 1) := by decide +kernel
theorem dX1_bring_98 : decode cX1_bring 98 = .ok (.if_icmp .le 8, 3) := by decide +kernel
theorem dX1_bring_101 : decode cX1_bring 101 = .ok (.aload_n 0, 1) := by decide +kernel
theorem dX1_bring_102 : decode cX1_bring 102 = .ok (.iconst 2, 1) := by decide +kernel
theorem dX1_bring_103 : decode cX1_bring 103 = .ok (.putfield 57, 3) := by decide +kernel
theorem dX1_bring_106 : decode cX1_bring 106 = .ok (.iinc 4 1, 3) := by decide +kernel
theorem dX1_bring_109 : decode cX1_bring 109 = .ok (.goto (-45), 3) := by decide +kernel
theorem dX1_bring_112 : decode cX1_bring 112 = .ok (.aload_n 0, 1) := by decide +kernel
theorem dX1_bring_113 : decode cX1_bring 113 = .ok (.getfield 57, 3) := by decide +kernel
theorem dX1_bring_116 : decode cX1_bring 116 = .ok (.ifCond .eq 4, 3) := by decide +kernel
theorem dX1_bring_119 : decode cX1_bring 119 = .ok (.return_, 1) := by decide +kernel
theorem dX1_bring_120 : decode cX1_bring 120 = .ok (.aload_n 0, 1) := by decide +kernel
theorem dX1_bring_121 : decode cX1_bring 121 = .ok (.getfield 44, 3) := by decide +kernel
theorem dX1_bring_124 : decode cX1_bring 124 = .ok (.iconst 4, 1) := by decide +kernel
theorem dX1_bring_125 : decode cX1_bring 125 = .ok (.iload_n 3, 1) := by decide +kernel
theorem dX1_bring_126 : decode cX1_bring 126 = .ok (.imul, 1) := by decide +kernel
theorem dX1_bring_127 : decode cX1_bring 127 = .ok (.iload_n 1, 1) := by decide +kernel
theorem dX1_bring_128 : decode cX1_bring 128 = .ok (.iadd, 1) := by decide +kernel
theorem dX1_bring_129 : decode cX1_bring 129 = .ok (.iload_n 2, 1) := by decide +kernel
theorem dX1_bring_130 : decode cX1_bring 130 = .ok (.iconst 1, 1) := by decide +kernel
theorem dX1_bring_131 : decode cX1_bring 131 = .ok (.iadd, 1) := by decide +kernel
theorem dX1_bring_132 : decode cX1_bring 132 = .ok (.iastore, 1) := by decide +kernel
theorem dX1_bring_133 : decode cX1_bring 133 = .ok (.aload_n 0, 1) := by decide +kernel
theorem dX1_bring_134 : decode cX1_bring 134 = .ok (.iconst (-1), 1) := by decide +kernel
theorem dX1_bring_135 : decode cX1_bring 135 = .ok (.putfield 54, 3) := by decide +kernel
theorem dX1_bring_138 : decode cX1_bring 138 = .ok (.return_, 1) := by decide +kernel
theorem dX1_merge_0 : decode cX1_merge 0 = .ok (.aload_n 0, 1) := by decide +kernel
theorem dX1_merge_1 : decode cX1_merge 1 = .ok (.iload_n 1, 1) := by decide +kernel
theorem dX1_merge_2 : decode cX1_merge 2 = .ok (.invokestatic 67, 3) := by decide +kernel
theorem dX1_merge_5 : decode cX1_merge 5 = .ok (.ifCond .eq 10, 3) := by decide +kernel
theorem dX1_merge_8 : decode cX1_merge 8 = .ok (.iload_n 2, 1) := by decide +kernel
theorem dX1_merge_9 : decode cX1_merge 9 = .ok (.invokestatic 67, 3) := by decide +kernel
theorem dX1_merge_12 : decode cX1_merge 12 = .ok (.ifCond .ne 7, 3) := by decide +kernel
theorem dX1_merge_15 : decode cX1_merge 15 = .ok (.iconst 1, 1) := by decide +kernel
theorem dX1_merge_16 : decode cX1_merge 16 = .ok (.goto 4, 3) := by decide +kernel
theorem dX1_merge_19 : decode cX1_merge 19 = .ok (.iconst 0, 1) := by decide +kernel
theorem dX1_merge_20 : decode cX1_merge 20 = .ok (.invokevirtual 71, 3) := by decide +kernel
theorem dX1_merge_23 : decode cX1_merge 23 = .ok (.ifCond .eq 5, 3) := by decide +kernel
theorem dX1_merge_26 : decode cX1_merge 26 = .ok (.iconst 0, 1) := by decide +kernel
theorem dX1_merge_27 : decode cX1_merge 27 = .ok (.ireturn, 1) := by decide +kernel
theorem dX1_merge_28 : decode cX1_merge 28 = .ok (.iconst 0, 1) := by decide +kernel
theorem dX1_merge_29 : decode cX1_merge 29 = .ok (.istore_n 3, 1) := by decide +kernel
theorem dX1_merge_30 : decode cX1_merge 30 = .ok (.iconst 0, 1) := by decide +kernel
theorem dX1_merge_31 : decode cX1_merge 31 = .ok (.istore 4, 2) := by decide +kernel
theorem dX1_merge_33 : decode cX1_merge 33 = .ok (.iload 4, 2) := by decide +kernel
theorem dX1_merge_35 : decode cX1_merge 35 = .ok (.iconst 4, 1) := by decide +kernel
theorem dX1_merge_36 : decode cX1_merge 36 = .ok (.if_icmp .ge 63, 3) := by decide +kernel
theorem dX1_merge_39 : decode cX1_merge 39 = .ok (.aload_n 0, 1) := by decide +kernel
theorem dX1_merge_40 : decode cX1_merge 40 = .ok (.getfield 44, 3) := by decide +kernel
theorem dX1_merge_43 : decode cX1_merge 43 = .ok (.iconst 4, 1) := by decide +kernel
theorem dX1_merge_44 : decode cX1_merge 44 = .ok (.iload_n 1, 1) := by decide +kernel
theorem dX1_merge_45 : decode cX1_merge 45 = .ok (.imul, 1) := by decide +kernel
theorem dX1_merge_46 : decode cX1_merge 46 = .ok (.iload 4, 2) := by decide +kernel
theorem dX1_merge_48 : decode cX1_merge 48 = .ok (.iadd, 1) := by decide +kernel
theorem dX1_merge_49 : decode cX1_merge 49 = .ok (.iaload, 1) := by decide +kernel
theorem dX1_merge_50 : decode cX1_merge 50 = .ok (.aload_n 0, 1) := by decide +kernel
theorem dX1_merge_51 : decode cX1_merge 51 = .ok (.getfield 44, 3) := by decide +kernel
theorem dX1_merge_54 : decode cX1_merge 54 = .ok (.iconst 4, 1) := by decide +kernel
theorem dX1_merge_55 : decode cX1_merge 55 = .ok (.iload_n 2, 1) := by decide +kernel
theorem dX1_merge_56 : decode cX1_merge 56 = .ok (.imul, 1) := by decide +kernel
theorem dX1_merge_57 : decode cX1_merge 57 = .ok (.iload 4, 2) := by decide +kernel
theorem dX1_merge_59 : decode cX1_merge 59 = .ok (.iadd, 1) := by decide +kernel
theorem dX1_merge_60 : decode cX1_merge 60 = .ok (.iaload, 1) := by decide +kernel
theorem dX1_merge_61 : decode cX1_merge 61 = .ok (.isub, 1) := by decide +kernel
theorem dX1_merge_62 : decode cX1_merge 62 = .ok (.istore 5, 2) := by decide +kernel
theorem dX1_merge_64 : decode cX1_merge 64 = .ok (.iload 5, 2) := by decide +kernel
theorem dX1_merge_66 : decode cX1_merge 66 = .ok (.ifCond .gt 6, 3) := by decide +kernel
theorem dX1_merge_69 : decode cX1_merge 69 = .ok (.goto 24, 3) := by decide +kernel
theorem dX1_merge_72 : decode cX1_merge 72 = .ok (.iload_n 3, 1) := by decide +kernel
theorem dX1_merge_73 : decode cX1_merge 73 = .ok (.iload 5, 2) := by decide +kernel
theorem dX1_merge_75 : decode cX1_merge 75 = .ok (.iadd, 1) := by decide +kernel
theorem dX1_merge_76 : decode cX1_merge 76 = .ok (.istore_n 3, 1) := by decide +kernel
theorem dX1_merge_77 : decode cX1_merge 77 = .ok (.aload_n 0, 1) := by decide +kernel
theorem dX1_merge_78 : decode cX1_merge 78 = .ok (.getfield 44, 3) := by decide +kernel
theorem dX1_merge_81 : decode cX1_merge 81 = .ok (.iconst 4, 1) := by decide +kernel
theorem dX1_merge_82 : decode cX1_merge 82 = .ok (.iload_n 2, 1) := by decide +kernel
theorem dX1_merge_83 : decode cX1_merge 83 = .ok (.imul, 1) := by decide +kernel
theorem dX1_merge_84 : decode cX1_merge 84 = .ok (.iload 4, 2) := by decide +kernel
theorem dX1_merge_86 : decode cX1_merge 86 = .ok (.iadd, 1) := by decide +kernel
theorem dX1_merge_87 : decode cX1_merge 87 = .ok (.dup2, 1) := by decide +kernel
theorem dX1_merge_88 : decode cX1_merge 88 = .ok (.iaload, 1) := by decide +kernel
theorem dX1_merge_89 : decode cX1_merge 89 = .ok (.iload 5, 2) := by decide +kernel
theorem dX1_merge_91 : decode cX1_merge 91 = .ok (.iadd, 1) := by decide +kernel
theorem dX1_merge_92 : decode cX1_merge 92 = .ok (.iastore, 1) := by decide +kernel
theorem dX1_merge_93 : decode cX1_merge 93 = .ok (.iinc 4 1, 3) := by decide +kernel
theorem dX1_merge_96 : decode cX1_merge 96 = .ok (.goto (-63), 3) := by decide +kernel
theorem dX1_merge_99 : decode cX1_merge 99 = .ok (.aload_n 0, 1) := by decide +kernel
theorem dX1_merge_100 : decode cX1_merge 100 = .ok (.iconst (-1), 1) := by decide +kernel
theorem dX1_merge_101 : decode cX1_merge 101 = .ok (.putfield 54, 3) := by decide +kernel
theorem dX1_merge_104 : decode cX1_merge 104 = .ok (.iload_n 3, 1) := by decide +kernel
theorem dX1_merge_105 : decode cX1_merge 105 = .ok (.ireturn, 1) := by decide +kernel
theorem dX1_length_0 : decode cX1_length 0 = .ok (.aload_n 0, 1) := by decide +kernel
theorem dX1_length_1 : decode cX1_length 1 = .ok (.iload_n 1, 1) := by decide +kernel
theorem dX1_length_2 : decode cX1_length 2 = .ok (.invokestatic 67, 3) := by decide +kernel
theorem dX1_length_5 : decode cX1_length 5 = .ok (.ifCond .ne 7, 3) := by decide +kernel
theorem dX1_length_8 : decode cX1_length 8 = .ok (.iconst 1, 1) := by decide +kernel
theorem dX1_length_9 : decode cX1_length 9 = .ok (.goto 4, 3) := by decide +kernel
theorem dX1_length_12 : decode cX1_length 12 = .ok (.iconst 0, 1) := by decide +kernel
theorem dX1_length_13 : decode cX1_length 13 = .ok (.invokevirtual 71, 3) := by decide +kernel
theorem dX1_length_16 : decode cX1_length 16 = .ok (.ifCond .eq 5, 3) := by decide +kernel
theorem dX1_length_19 : decode cX1_length 19 = .ok (.iconst 0, 1) := by decide +kernel
theorem dX1_length_20 : decode cX1_length 20 = .ok (.ireturn, 1) := by decide +kernel
theorem dX1_length_21 : decode cX1_length 21 = .ok (.aload_n 0, 1) := by decide +kernel
theorem dX1_length_22 : decode cX1_length 22 = .ok (.iload_n 1, 1) := by decide +kernel
theorem dX1_length_23 : decode cX1_length 23 = .ok (.invokevirtual 75, 3) := by decide +kernel
theorem dX1_length_26 : decode cX1_length 26 = .ok (.aload_n 0, 1) := by decide +kernel
theorem dX1_length_27 : decode cX1_length 27 = .ok (.getfield 60, 3) := by decide +kernel
theorem dX1_length_30 : decode cX1_length 30 = .ok (.ireturn, 1) := by decide +kernel
theorem dX1_letter_0 : decode cX1_letter 0 = .ok (.aload_n 0, 1) := by decide +kernel
theorem dX1_letter_1 : decode cX1_letter 1 = .ok (.iload_n 1, 1) := by decide +kernel
theorem dX1_letter_2 : decode cX1_letter 2 = .ok (.invokestatic 67, 3) := by decide +kernel
theorem dX1_letter_5 : decode cX1_letter 5 = .ok (.ifCond .eq 7, 3) := by decide +kernel
theorem dX1_letter_8 : decode cX1_letter 8 = .ok (.iload_n 2, 1) := by decide +kernel
theorem dX1_letter_9 : decode cX1_letter 9 = .ok (.ifCond .ge 7, 3) := by decide +kernel
theorem dX1_letter_12 : decode cX1_letter 12 = .ok (.iconst 1, 1) := by decide +kernel
theorem dX1_letter_13 : decode cX1_letter 13 = .ok (.goto 4, 3) := by decide +kernel
theorem dX1_letter_16 : decode cX1_letter 16 = .ok (.iconst 0, 1) := by decide +kernel
theorem dX1_letter_17 : decode cX1_letter 17 = .ok (.invokevirtual 71, 3) := by decide +kernel
theorem dX1_letter_20 : decode cX1_letter 20 = .ok (.ifCond .eq 5, 3) := by decide +kernel
theorem dX1_letter_23 : decode cX1_letter 23 = .ok (.iconst 0, 1) := by decide +kernel
theorem dX1_letter_24 : decode cX1_letter 24 = .ok (.ireturn, 1) := by decide +kernel
theorem dX1_letter_25 : decode cX1_letter 25 = .ok (.aload_n 0, 1) := by decide +kernel
theorem dX1_letter_26 : decode cX1_letter 26 = .ok (.iload_n 1, 1) := by decide +kernel
theorem dX1_letter_27 : decode cX1_letter 27 = .ok (.invokevirtual 75, 3) := by decide +kernel
theorem dX1_letter_30 : decode cX1_letter 30 = .ok (.iload_n 2, 1) := by decide +kernel
theorem dX1_letter_31 : decode cX1_letter 31 = .ok (.aload_n 0, 1) := by decide +kernel
theorem dX1_letter_32 : decode cX1_letter 32 = .ok (.getfield 60, 3) := by decide +kernel
theorem dX1_letter_35 : decode cX1_letter 35 = .ok (.if_icmp .ge 17, 3) := by decide +kernel
theorem dX1_letter_38 : decode cX1_letter 38 = .ok (.aload_n 0, 1) := by decide +kernel
theorem dX1_letter_39 : decode cX1_letter 39 = .ok (.getfield 19, 3) := by decide +kernel
theorem dX1_letter_42 : decode cX1_letter 42 = .ok (.aload_n 0, 1) := by decide +kernel
theorem dX1_letter_43 : decode cX1_letter 43 = .ok (.getfield 47, 3) := by decide +kernel
theorem dX1_letter_46 : decode cX1_letter 46 = .ok (.iload_n 2, 1) := by decide +kernel
theorem dX1_letter_47 : decode cX1_letter 47 = .ok (.iaload, 1) := by decide +kernel
theorem dX1_letter_48 : decode cX1_letter 48 = .ok (.iaload, 1) := by decide +kernel
theorem dX1_letter_49 : decode cX1_letter 49 = .ok (.goto 4, 3) := by decide +kernel
theorem dX1_letter_52 : decode cX1_letter 52 = .ok (.iconst (-1), 1) := by decide +kernel
theorem dX1_letter_53 : decode cX1_letter 53 = .ok (.ireturn, 1) := by decide +kernel
theorem dX1_name_0 : decode cX1_name 0 = .ok (.aload_n 0, 1) := by decide +kernel
theorem dX1_name_1 : decode cX1_name 1 = .ok (.iload_n 1, 1) := by decide +kernel
theorem dX1_name_2 : decode cX1_name 2 = .ok (.invokestatic 67, 3) := by decide +kernel
theorem dX1_name_5 : decode cX1_name 5 = .ok (.ifCond .eq 7, 3) := by decide +kernel
theorem dX1_name_8 : decode cX1_name 8 = .ok (.iload_n 2, 1) := by decide +kernel
theorem dX1_name_9 : decode cX1_name 9 = .ok (.ifCond .ge 7, 3) := by decide +kernel
theorem dX1_name_12 : decode cX1_name 12 = .ok (.iconst 1, 1) := by decide +kernel
theorem dX1_name_13 : decode cX1_name 13 = .ok (.goto 4, 3) := by decide +kernel
theorem dX1_name_16 : decode cX1_name 16 = .ok (.iconst 0, 1) := by decide +kernel
theorem dX1_name_17 : decode cX1_name 17 = .ok (.invokevirtual 71, 3) := by decide +kernel
theorem dX1_name_20 : decode cX1_name 20 = .ok (.ifCond .eq 5, 3) := by decide +kernel
theorem dX1_name_23 : decode cX1_name 23 = .ok (.iconst 0, 1) := by decide +kernel
theorem dX1_name_24 : decode cX1_name 24 = .ok (.ireturn, 1) := by decide +kernel
theorem dX1_name_25 : decode cX1_name 25 = .ok (.aload_n 0, 1) := by decide +kernel
theorem dX1_name_26 : decode cX1_name 26 = .ok (.iload_n 1, 1) := by decide +kernel
theorem dX1_name_27 : decode cX1_name 27 = .ok (.invokevirtual 75, 3) := by decide +kernel
theorem dX1_name_30 : decode cX1_name 30 = .ok (.iload_n 2, 1) := by decide +kernel
theorem dX1_name_31 : decode cX1_name 31 = .ok (.aload_n 0, 1) := by decide +kernel
theorem dX1_name_32 : decode cX1_name 32 = .ok (.getfield 60, 3) := by decide +kernel
theorem dX1_name_35 : decode cX1_name 35 = .ok (.if_icmp .ge 31, 3) := by decide +kernel
theorem dX1_name_38 : decode cX1_name 38 = .ok (.iconst 4, 1) := by decide +kernel
theorem dX1_name_39 : decode cX1_name 39 = .ok (.aload_n 0, 1) := by decide +kernel
theorem dX1_name_40 : decode cX1_name 40 = .ok (.getfield 9, 3) := by decide +kernel
theorem dX1_name_43 : decode cX1_name 43 = .ok (.aload_n 0, 1) := by decide +kernel
theorem dX1_name_44 : decode cX1_name 44 = .ok (.getfield 47, 3) := by decide +kernel
theorem dX1_name_47 : decode cX1_name 47 = .ok (.iload_n 2, 1) := by decide +kernel
theorem dX1_name_48 : decode cX1_name 48 = .ok (.iaload, 1) := by decide +kernel
theorem dX1_name_49 : decode cX1_name 49 = .ok (.iaload, 1) := by decide +kernel
theorem dX1_name_50 : decode cX1_name 50 = .ok (.imul, 1) := by decide +kernel
theorem dX1_name_51 : decode cX1_name 51 = .ok (.aload_n 0, 1) := by decide +kernel
theorem dX1_name_52 : decode cX1_name 52 = .ok (.getfield 13, 3) := by decide +kernel
theorem dX1_name_55 : decode cX1_name 55 = .ok (.aload_n 0, 1) := by decide +kernel
theorem dX1_name_56 : decode cX1_name 56 = .ok (.getfield 47, 3) := by decide +kernel
theorem dX1_name_59 : decode cX1_name 59 = .ok (.iload_n 2, 1) := by decide +kernel
theorem dX1_name_60 : decode cX1_name 60 = .ok (.iaload, 1) := by decide +kernel
theorem dX1_name_61 : decode cX1_name 61 = .ok (.iaload, 1) := by decide +kernel
theorem dX1_name_62 : decode cX1_name 62 = .ok (.iadd, 1) := by decide +kernel
theorem dX1_name_63 : decode cX1_name 63 = .ok (.goto 4, 3) := by decide +kernel
theorem dX1_name_66 : decode cX1_name 66 = .ok (.iconst (-1), 1) := by decide +kernel
theorem dX1_name_67 : decode cX1_name 67 = .ok (.ireturn, 1) := by decide +kernel
theorem dX1_has_0 : decode cX1_has 0 = .ok (.aload_n 0, 1) := by decide +kernel
theorem dX1_has_1 : decode cX1_has 1 = .ok (.iload_n 1, 1) := by decide +kernel
theorem dX1_has_2 : decode cX1_has 2 = .ok (.invokestatic 67, 3) := by decide +kernel
theorem dX1_has_5 : decode cX1_has 5 = .ok (.ifCond .eq 10, 3) := by decide +kernel
theorem dX1_has_8 : decode cX1_has 8 = .ok (.iload_n 2, 1) := by decide +kernel
theorem dX1_has_9 : decode cX1_has 9 = .ok (.invokestatic 67, 3) := by decide +kernel
theorem dX1_has_12 : decode cX1_has 12 = .ok (.ifCond .ne 7, 3) := by decide +kernel
theorem dX1_has_15 : decode cX1_has 15 = .ok (.iconst 1, 1) := by decide +kernel
theorem dX1_has_16 : decode cX1_has 16 = .ok (.goto 4, 3) := by decide +kernel
theorem dX1_has_19 : decode cX1_has 19 = .ok (.iconst 0, 1) := by decide +kernel
theorem dX1_has_20 : decode cX1_has 20 = .ok (.invokevirtual 71, 3) := by decide +kernel
theorem dX1_has_23 : decode cX1_has 23 = .ok (.ifCond .eq 7, 3) := by decide +kernel
theorem dX1_has_26 : decode cX1_has 26 = .ok (.iconst 0, 1) := by decide +kernel
theorem dX1_has_27 : decode cX1_has 27 = .ok (.goto 13, 3) := by decide +kernel
theorem dX1_has_30 : decode cX1_has 30 = .ok (.aload_n 0, 1) := by decide +kernel
theorem dX1_has_31 : decode cX1_has 31 = .ok (.getfield 44, 3) := by decide +kernel
theorem dX1_has_34 : decode cX1_has 34 = .ok (.iconst 4, 1) := by decide +kernel
theorem dX1_has_35 : decode cX1_has 35 = .ok (.iload_n 1, 1) := by decide +kernel
theorem dX1_has_36 : decode cX1_has 36 = .ok (.imul, 1) := by decide +kernel
theorem dX1_has_37 : decode cX1_has 37 = .ok (.iload_n 2, 1) := by decide +kernel
theorem dX1_has_38 : decode cX1_has 38 = .ok (.iadd, 1) := by decide +kernel
theorem dX1_has_39 : decode cX1_has 39 = .ok (.iaload, 1) := by decide +kernel
theorem dX1_has_40 : decode cX1_has 40 = .ok (.ireturn, 1) := by decide +kernel
