theorem dX0_init_0 : decode cX0_init 0 = .ok (.aload_n 0, 1) := by decide +kernel
theorem dX0_init_1 : decode cX0_init 1 = .ok (.invokespecial 3, 3) := by decide +kernel
theorem dX0_init_4 : decode cX0_init 4 = .ok (.aload_n 0, 1) := by decide +kernel
theorem dX0_init_5 : decode cX0_init 5 = .ok (.aload_n 1, 1) := by decide +kernel
theorem dX0_init_6 : decode cX0_init 6 = .ok (.putfield 9, 3) := by decide +kernel
theorem dX0_init_9 : decode cX0_init 9 = .ok (.return_, 1) := by decide +kernel
theorem dX0_setWidth_0 : decode cX0_setWidth 0 = .ok (.aload_n 0, 1) := by decide +kernel
theorem dX0_setWidth_1 : decode cX0_setWidth 1 = .ok (.iload_n 1, 1) := by decide +kernel
theorem dX0_setWidth_2 : decode cX0_setWidth 2 = .ok (.putfield 15, 3) := by decide +kernel
theorem dX0_setWidth_5 : decode cX0_setWidth 5 = .ok (.aload_n 0, 1) := by decide +kernel
theorem dX0_setWidth_6 : decode cX0_setWidth 6 = .ok (.iload_n 1, 1) := by decide +kernel
theorem dX0_setWidth_7 : decode cX0_setWidth 7 = .ok (.invokestatic 19, 3) := by decide +kernel
theorem dX0_setWidth_10 : decode cX0_setWidth 10 = .ok (.putfield 23, 3) := by decide +kernel
theorem dX0_setWidth_13 : decode cX0_setWidth 13 = .ok (.aload_n 0, 1) := by decide +kernel
theorem dX0_setWidth_14 : decode cX0_setWidth 14 = .ok (.aload_n 0, 1) := by decide +kernel
theorem dX0_setWidth_15 : decode cX0_setWidth 15 = .ok (.getfield 23, 3) := by decide +kernel
theorem dX0_setWidth_18 : decode cX0_setWidth 18 = .ok (.iconst 1, 1) := by decide +kernel
theorem dX0_setWidth_19 : decode cX0_setWidth 19 = .ok (.lshr, 1) := by decide +kernel
theorem dX0_setWidth_20 : decode cX0_setWidth 20 = .ok (.putfield 27, 3) := by decide +kernel
theorem dX0_setWidth_23 : decode cX0_setWidth 23 = .ok (.aload_n 0, 1) := by decide +kernel
theorem dX0_setWidth_24 : decode cX0_setWidth 24 = .ok (.aload_n 0, 1) := by decide +kernel
theorem dX0_setWidth_25 : decode cX0_setWidth 25 = .ok (.getfield 27, 3) := by decide +kernel
theorem dX0_setWidth_28 : decode cX0_setWidth 28 = .ok (.lneg, 1) := by decide +kernel
theorem dX0_setWidth_29 : decode cX0_setWidth 29 = .ok (.lconst 1, 1) := by decide +kernel
theorem dX0_setWidth_30 : decode cX0_setWidth 30 = .ok (.lsub, 1) := by decide +kernel
theorem dX0_setWidth_31 : decode cX0_setWidth 31 = .ok (.putfield 30, 3) := by decide +kernel
theorem dX0_setWidth_34 : decode cX0_setWidth 34 = .ok (.return_, 1) := by decide +kernel
theorem dX0_result_0 : decode cX0_result 0 = .ok (.iload_n 1, 1) := by decide +kernel
theorem dX0_result_1 : decode cX0_result 1 = .ok (.bipush 32, 2) := by decide +kernel
theorem dX0_result_3 : decode cX0_result 3 = .ok (.if_icmp .ge 12, 3) := by decide +kernel
theorem dX0_result_6 : decode cX0_result 6 = .ok (.aload_n 0, 1) := by decide +kernel
theorem dX0_result_7 : decode cX0_result 7 = .ok (.iload_n 1, 1) := by decide +kernel
theorem dX0_result_8 : decode cX0_result 8 = .ok (.lload_n 2, 1) := by decide +kernel
theorem dX0_result_9 : decode cX0_result 9 = .ok (.lload 4, 2) := by decide +kernel
theorem dX0_result_11 : decode cX0_result 11 = .ok (.invokevirtual 33, 3) := by decide +kernel
theorem dX0_result_14 : decode cX0_result 14 = .ok (.lreturn, 1) := by decide +kernel
theorem dX0_result_15 : decode cX0_result 15 = .ok (.iload_n 1, 1) := by decide +kernel
theorem dX0_result_16 : decode cX0_result 16 = .ok (.bipush 44, 2) := by decide +kernel
theorem dX0_result_18 : decode cX0_result 18 = .ok (.if_icmp .ge 12, 3) := by decide +kernel
theorem dX0_result_21 : decode cX0_result 21 = .ok (.aload_n 0, 1) := by decide +kernel
theorem dX0_result_22 : decode cX0_result 22 = .ok (.iload_n 1, 1) := by decide +kernel
theorem dX0_result_23 : decode cX0_result 23 = .ok (.lload_n 2, 1) := by decide +kernel
theorem dX0_result_24 : decode cX0_result 24 = .ok (.lload 4, 2) := by decide +kernel
theorem dX0_result_26 : decode cX0_result 26 = .ok (.invokevirtual 37, 3) := by decide +kernel
theorem dX0_result_29 : decode cX0_result 29 = .ok (.lreturn, 1) := by decide +kernel
theorem dX0_result_30 : decode cX0_result 30 = .ok (.iload_n 1, 1) := by decide +kernel
theorem dX0_result_31 : decode cX0_result 31 = .ok (.bipush 64, 2) := by decide +kernel
theorem dX0_result_33 : decode cX0_result 33 = .ok (.if_icmp .ge 12, 3) := by decide +kernel
theorem dX0_result_36 : decode cX0_result 36 = .ok (.aload_n 0, 1) := by decide +kernel
theorem dX0_result_37 : decode cX0_result 37 = .ok (.iload_n 1, 1) := by decide +kernel
theorem dX0_result_38 : decode cX0_result 38 = .ok (.lload_n 2, 1) := by decide +kernel
theorem dX0_result_39 : decode cX0_result 39 = .ok (.lload 4, 2) := by decide +kernel
theorem dX0_result_41 : decode cX0_result 41 = .ok (.invokevirtual 40, 3) := by decide +kernel
theorem dX0_result_44 : decode cX0_result 44 = .ok (.lreturn, 1) := by decide +kernel
theorem dX0_result_45 : decode cX0_result 45 = .ok (.iload_n 1, 1) := by decide +kernel
theorem dX0_result_46 : decode cX0_result 46 = .ok (.bipush 96, 2) := by decide +kernel
theorem dX0_result_48 : decode cX0_result 48 = .ok (.if_icmp .ge 12, 3) := by decide +kernel
theorem dX0_result_51 : decode cX0_result 51 = .ok (.aload_n 0, 1) := by decide +kernel
theorem dX0_result_52 : decode cX0_result 52 = .ok (.iload_n 1, 1) := by decide +kernel
theorem dX0_result_53 : decode cX0_result 53 = .ok (.lload_n 2, 1) := by decide +kernel
theorem dX0_result_54 : decode cX0_result 54 = .ok (.lload 4, 2) := by decide +kernel
theorem dX0_result_56 : decode cX0_result 56 = .ok (.invokevirtual 43, 3) := by decide +kernel
theorem dX0_result_59 : decode cX0_result 59 = .ok (.lreturn, 1) := by decide +kernel
theorem dX0_result_60 : decode cX0_result 60 = .ok (.iload_n 1, 1) := by decide +kernel
theorem dX0_result_61 : decode cX0_result 61 = .ok (.bipush 100, 2) := by decide +kernel
theorem dX0_result_63 : decode cX0_result 63 = .ok (.if_icmp .ge 12, 3) := by decide +kernel
theorem dX0_result_66 : decode cX0_result 66 = .ok (.aload_n 0, 1) := by decide +kernel
theorem dX0_result_67 : decode cX0_result 67 = .ok (.iload_n 1, 1) := by decide +kernel
theorem dX0_result_68 : decode cX0_result 68 = .ok (.lload_n 2, 1) := by decide +kernel
theorem dX0_result_69 : decode cX0_result 69 = .ok (.lload 4, 2) := by decide +kernel
theorem dX0_result_71 : decode cX0_result 71 = .ok (.invokevirtual 46, 3) := by decide +kernel
theorem dX0_result_74 : decode cX0_result 74 = .ok (.lreturn, 1) := by decide +kernel
theorem dX0_result_75 : decode cX0_result 75 = .ok (.iload_n 1, 1) := by decide +kernel
theorem dX0_result_76 : decode cX0_result 76 = .ok (.bipush 112, 2) := by decide +kernel
theorem dX0_result_78 : decode cX0_result 78 = .ok (.if_icmp .ge 14, 3) := by decide +kernel
theorem dX0_result_81 : decode cX0_result 81 = .ok (.aload_n 0, 1) := by decide +kernel
theorem dX0_result_82 : decode cX0_result 82 = .ok (.iload_n 1, 1) := by decide +kernel
theorem dX0_result_83 : decode cX0_result 83 = .ok (.lload_n 2, 1) := by decide +kernel
theorem dX0_result_84 : decode cX0_result 84 = .ok (.lload 4, 2) := by decide +kernel
theorem dX0_result_86 : decode cX0_result 86 = .ok (.lload 6, 2) := by decide +kernel
theorem dX0_result_88 : decode cX0_result 88 = .ok (.invokevirtual 49, 3) := by decide +kernel
theorem dX0_result_91 : decode cX0_result 91 = .ok (.lreturn, 1) := by decide +kernel
theorem dX0_result_92 : decode cX0_result 92 = .ok (.iload_n 1, 1) := by decide +kernel
theorem dX0_result_93 : decode cX0_result 93 = .ok (.bipush 120, 2) := by decide +kernel
theorem dX0_result_95 : decode cX0_result 95 = .ok (.if_icmp .ge 14, 3) := by decide +kernel
theorem dX0_result_98 : decode cX0_result 98 = .ok (.aload_n 0, 1) := by decide +kernel
theorem dX0_result_99 : decode cX0_result 99 = .ok (.iload_n 1, 1) := by decide +kernel
theorem dX0_result_100 : decode cX0_result 100 = .ok (.lload_n 2, 1) := by decide +kernel
theorem dX0_result_101 : decode cX0_result 101 = .ok (.lload 4, 2) := by decide +kernel
theorem dX0_result_103 : decode cX0_result 103 = .ok (.invokevirtual 53, 3) := by decide +kernel
theorem dX0_result_106 : decode cX0_result 106 = .ok (.goto 13, 3) := by decide +kernel
theorem dX0_result_109 : decode cX0_result 109 = .ok (.aload_n 0, 1) := by decide +kernel
theorem dX0_result_110 : decode cX0_result 110 = .ok (.iload_n 1, 1) := by decide +kernel
theorem dX0_result_111 : decode cX0_result 111 = .ok (.lload_n 2, 1) := by decide +kernel
theorem dX0_result_112 : decode cX0_result 112 = .ok (.lload 4, 2) := by decide +kernel
theorem dX0_result_114 : decode cX0_result 114 = .ok (.lload 6, 2) := by decide +kernel
theorem dX0_result_116 : decode cX0_result 116 = .ok (.invokevirtual 56, 3) := by decide +kernel
theorem dX0_result_119 : decode cX0_result 119 = .ok (.lreturn, 1) := by decide +kernel
theorem dX0_compare_0 : decode cX0_compare 0 = .ok (.lload_n 2, 1) := by decide +kernel
theorem dX0_compare_1 : decode cX0_compare 1 = .ok (.aload_n 0, 1) := by decide +kernel
theorem dX0_compare_2 : decode cX0_compare 2 = .ok (.getfield 15, 3) := by decide +kernel
theorem dX0_compare_5 : decode cX0_compare 5 = .ok (.invokestatic 59, 3) := by decide +kernel
theorem dX0_compare_8 : decode cX0_compare 8 = .ok (.lstore 6, 2) := by decide +kernel
theorem dX0_compare_10 : decode cX0_compare 10 = .ok (.lload 4, 2) := by decide +kernel
theorem dX0_compare_12 : decode cX0_compare 12 = .ok (.aload_n 0, 1) := by decide +kernel
theorem dX0_compare_13 : decode cX0_compare 13 = .ok (.getfield 15, 3) := by decide +kernel
theorem dX0_compare_16 : decode cX0_compare 16 = .ok (.invokestatic 59, 3) := by decide +kernel
theorem dX0_compare_19 : decode cX0_compare 19 = .ok (.lstore 8, 2) := by decide +kernel
theorem dX0_compare_21 : decode cX0_compare 21 = .ok (.iload_n 1, 1) := by decide +kernel
theorem dX0_compare_22 : decode cX0_compare 22 = .ok (.tableswitch 177 24 31 #[46, 62, 78, 94, 111, 127, 144, 160], 46) := by decide +kernel
theorem dX0_compare_68 : decode cX0_compare 68 = .ok (.lload_n 2, 1) := by decide +kernel
theorem dX0_compare_69 : decode cX0_compare 69 = .ok (.lload 4, 2) := by decide +kernel
theorem dX0_compare_71 : decode cX0_compare 71 = .ok (.lcmp, 1) := by decide +kernel
theorem dX0_compare_72 : decode cX0_compare 72 = .ok (.ifCond .ne 7, 3) := by decide +kernel
theorem dX0_compare_75 : decode cX0_compare 75 = .ok (.iconst 1, 1) := by decide +kernel
theorem dX0_compare_76 : decode cX0_compare 76 = .ok (.goto 4, 3) := by decide +kernel
theorem dX0_compare_79 : decode cX0_compare 79 = .ok (.iconst 0, 1) := by decide +kernel
theorem dX0_compare_80 : decode cX0_compare 80 = .ok (.invokestatic 63, 3) := by decide +kernel
theorem dX0_compare_83 : decode cX0_compare 83 = .ok (.lreturn, 1) := by decide +kernel
theorem dX0_compare_84 : decode cX0_compare 84 = .ok (.lload_n 2, 1) := by decide +kernel
theorem dX0_compare_85 : decode cX0_compare 85 = .ok (.lload 4, 2) := by decide +kernel
theorem dX0_compare_87 : decode cX0_compare 87 = .ok (.lcmp, 1) := by decide +kernel
theorem dX0_compare_88 : decode cX0_compare 88 = .ok (.ifCond .eq 7, 3) := by decide +kernel
theorem dX0_compare_91 : decode cX0_compare 91 = .ok (.iconst 1, 1) := by decide +kernel
theorem dX0_compare_92 : decode cX0_compare 92 = .ok (.goto 4, 3) := by decide +kernel
theorem dX0_compare_95 : decode cX0_compare 95 = .ok (.iconst 0, 1) := by decide +kernel
theorem dX0_compare_96 : decode cX0_compare 96 = .ok (.invokestatic 63, 3) := by decide +kernel
theorem dX0_compare_99 : decode cX0_compare 99 = .ok (.lreturn, 1) := by decide +kernel
theorem dX0_compare_100 : decode cX0_compare 100 = .ok (.lload_n 2, 1) := by decide +kernel
theorem dX0_compare_101 : decode cX0_compare 101 = .ok (.lload 4, 2) := by decide +kernel
theorem dX0_compare_103 : decode cX0_compare 103 = .ok (.lcmp, 1) := by decide +kernel
theorem dX0_compare_104 : decode cX0_compare 104 = .ok (.ifCond .ge 7, 3) := by decide +kernel
theorem dX0_compare_107 : decode cX0_compare 107 = .ok (.iconst 1, 1) := by decide +kernel
theorem dX0_compare_108 : decode cX0_compare 108 = .ok (.goto 4, 3) := by decide +kernel
theorem dX0_compare_111 : decode cX0_compare 111 = .ok (.iconst 0, 1) := by decide +kernel
theorem dX0_compare_112 : decode cX0_compare 112 = .ok (.invokestatic 63, 3) := by decide +kernel
theorem dX0_compare_115 : decode cX0_compare 115 = .ok (.lreturn, 1) := by decide +kernel
theorem dX0_compare_116 : decode cX0_compare 116 = .ok (.lload 6, 2) := by decide +kernel
theorem dX0_compare_118 : decode cX0_compare 118 = .ok (.lload 8, 2) := by decide +kernel
theorem dX0_compare_120 : decode cX0_compare 120 = .ok (.lcmp, 1) := by decide +kernel
theorem dX0_compare_121 : decode cX0_compare 121 = .ok (.ifCond .ge 7, 3) := by decide +kernel
theorem dX0_compare_124 : decode cX0_compare 124 = .ok (.iconst 1, 1) := by decide +kernel
theorem dX0_compare_125 : decode cX0_compare 125 = .ok (.goto 4, 3) := by decide +kernel
theorem dX0_compare_128 : decode cX0_compare 128 = .ok (.iconst 0, 1) := by decide +kernel
theorem dX0_compare_129 : decode cX0_compare 129 = .ok (.invokestatic 63, 3) := by decide +kernel
theorem dX0_compare_132 : decode cX0_compare 132 = .ok (.lreturn, 1) := by decide +kernel
theorem dX0_compare_133 : decode cX0_compare 133 = .ok (.lload_n 2, 1) := by decide +kernel
theorem dX0_compare_134 : decode cX0_compare 134 = .ok (.lload 4, 2) := by decide +kernel
theorem dX0_compare_136 : decode cX0_compare 136 = .ok (.lcmp, 1) := by decide +kernel
theorem dX0_compare_137 : decode cX0_compare 137 = .ok (.ifCond .gt 7, 3) := by decide +kernel
theorem dX0_compare_140 : decode cX0_compare 140 = .ok (.iconst 1, 1) := by decide +kernel
theorem dX0_compare_141 : decode cX0_compare 141 = .ok (.goto 4, 3) := by decide +kernel
theorem dX0_compare_144 : decode cX0_compare 144 = .ok (.iconst 0, 1) := by decide +kernel
theorem dX0_compare_145 : decode cX0_compare 145 = .ok (.invokestatic 63, 3) := by decide +kernel
theorem dX0_compare_148 : decode cX0_compare 148 = .ok (.lreturn, 1) := by decide +kernel
theorem dX0_compare_149 : decode cX0_compare 149 = .ok (.lload 6, 2) := by decide +kernel
theorem dX0_compare_151 : decode cX0_compare 151 = .ok (.lload 8, 2) := by decide +kernel
theorem dX0_compare_153 : decode cX0_compare 153 = .ok (.lcmp, 1) := by decide +kernel
theorem dX0_compare_154 : decode cX0_compare 154 = .ok (.ifCond .gt 7, 3) := by decide +kernel
theorem dX0_compare_157 : decode cX0_compare 157 = .ok (.iconst 1, 1) := by decide +kernel
theorem dX0_compare_158 : decode cX0_compare 158 = .ok (.goto 4, 3) := by decide +kernel
theorem dX0_compare_161 : decode cX0_compare 161 = .ok (.iconst 0, 1) := by decide +kernel
theorem dX0_compare_162 : decode cX0_compare 162 = .ok (.invokestatic 63, 3) := by decide +kernel
theorem dX0_compare_165 : decode cX0_compare 165 = .ok (.lreturn, 1) := by decide +kernel
theorem dX0_compare_166 : decode cX0_compare 166 = .ok (.lload_n 2, 1) := by decide +kernel
theorem dX0_compare_167 : decode cX0_compare 167 = .ok (.lload 4, 2) := by decide +kernel
theorem dX0_compare_169 : decode cX0_compare 169 = .ok (.lcmp, 1) := by decide +kernel
theorem dX0_compare_170 : decode cX0_compare 170 = .ok (.ifCond .le 7, 3) := by decide +kernel
theorem dX0_compare_173 : decode cX0_compare 173 = .ok (.iconst 1, 1) := by decide +kernel
theorem dX0_compare_174 : decode cX0_compare 174 = .ok (.goto 4, 3) := by decide +kernel
theorem dX0_compare_177 : decode cX0_compare 177 = .ok (.iconst 0, 1) := by decide +kernel
theorem dX0_compare_178 : decode cX0_compare 178 = .ok (.invokestatic 63, 3) := by decide +kernel
theorem dX0_compare_181 : decode cX0_compare 181 = .ok (.lreturn, 1) := by decide +kernel
theorem dX0_compare_182 : decode cX0_compare 182 = .ok (.lload 6, 2) := by decide +kernel
theorem dX0_compare_184 : decode cX0_compare 184 = .ok (.lload 8, 2) := by decide +kernel
theorem dX0_compare_186 : decode cX0_compare 186 = .ok (.lcmp, 1) := by decide +kernel
theorem dX0_compare_187 : decode cX0_compare 187 = .ok (.ifCond .le 7, 3) := by decide +kernel
theorem dX0_compare_190 : decode cX0_compare 190 = .ok (.iconst 1, 1) := by decide +kernel
theorem dX0_compare_191 : decode cX0_compare 191 = .ok (.goto 4, 3) := by decide +kernel
theorem dX0_compare_194 : decode cX0_compare 194 = .ok (.iconst 0, 1) := by decide +kernel
theorem dX0_compare_195 : decode cX0_compare 195 = .ok (.invokestatic 63, 3) := by decide +kernel
theorem dX0_compare_198 : decode cX0_compare 198 = .ok (.lreturn, 1) := by decide +kernel
theorem dX0_compare_199 : decode cX0_compare 199 = .ok (.lconst 0, 1) := by decide +kernel
theorem dX0_compare_200 : decode cX0_compare 200 = .ok (.lreturn, 1) := by decide +kernel
theorem dX0_withCarry_0 : decode cX0_withCarry 0 = .ok (.iload_n 1, 1) := by decide +kernel
theorem dX0_withCarry_1 : decode cX0_withCarry 1 = .ok (.bipush 16, 2) := by decide +kernel
theorem dX0_withCarry_3 : decode cX0_withCarry 3 = .ok (.if_icmp .eq 9, 3) := by decide +kernel
theorem dX0_withCarry_6 : decode cX0_withCarry 6 = .ok (.iload_n 1, 1) := by decide +kernel
theorem dX0_withCarry_7 : decode cX0_withCarry 7 = .ok (.bipush 17, 2) := by decide +kernel
theorem dX0_withCarry_9 : decode cX0_withCarry 9 = .ok (.if_icmp .ne 13, 3) := by decide +kernel
theorem dX0_withCarry_12 : decode cX0_withCarry 12 = .ok (.lload_n 2, 1) := by decide +kernel
theorem dX0_withCarry_13 : decode cX0_withCarry 13 = .ok (.lload 4, 2) := by decide +kernel
theorem dX0_withCarry_15 : decode cX0_withCarry 15 = .ok (.ladd, 1) := by decide +kernel
theorem dX0_withCarry_16 : decode cX0_withCarry 16 = .ok (.lload 6, 2) := by decide +kernel
theorem dX0_withCarry_18 : decode cX0_withCarry 18 = .ok (.ladd, 1) := by decide +kernel
theorem dX0_withCarry_19 : decode cX0_withCarry 19 = .ok (.goto 10, 3) := by decide +kernel
theorem dX0_withCarry_22 : decode cX0_withCarry 22 = .ok (.lload_n 2, 1) := by decide +kernel
theorem dX0_withCarry_23 : decode cX0_withCarry 23 = .ok (.lload 4, 2) := by decide +kernel
theorem dX0_withCarry_25 : decode cX0_withCarry 25 = .ok (.lsub, 1) := by decide +kernel
theorem dX0_withCarry_26 : decode cX0_withCarry 26 = .ok (.lload 6, 2) := by decide +kernel
theorem dX0_withCarry_28 : decode cX0_withCarry 28 = .ok (.lsub, 1) := by decide +kernel
theorem dX0_withCarry_29 : decode cX0_withCarry 29 = .ok (.lreturn, 1) := by decide +kernel
theorem dX0_carryOut_0 : decode cX0_carryOut 0 = .ok (.aload_n 0, 1) := by decide +kernel
theorem dX0_carryOut_1 : decode cX0_carryOut 1 = .ok (.iload_n 1, 1) := by decide +kernel
theorem dX0_carryOut_2 : decode cX0_carryOut 2 = .ok (.lload_n 2, 1) := by decide +kernel
theorem dX0_carryOut_3 : decode cX0_carryOut 3 = .ok (.lload 4, 2) := by decide +kernel
theorem dX0_carryOut_5 : decode cX0_carryOut 5 = .ok (.lload 6, 2) := by decide +kernel
theorem dX0_carryOut_7 : decode cX0_carryOut 7 = .ok (.invokevirtual 67, 3) := by decide +kernel
theorem dX0_carryOut_10 : decode cX0_carryOut 10 = .ok (.aload_n 0, 1) := by decide +kernel
theorem dX0_carryOut_11 : decode cX0_carryOut 11 = .ok (.getfield 15, 3) := by decide +kernel
theorem dX0_carryOut_14 : decode cX0_carryOut 14 = .ok (.lushr, 1) := by decide +kernel
theorem dX0_carryOut_15 : decode cX0_carryOut 15 = .ok (.lconst 1, 1) := by decide +kernel
theorem dX0_carryOut_16 : decode cX0_carryOut 16 = .ok (.land, 1) := by decide +kernel
theorem dX0_carryOut_17 : decode cX0_carryOut 17 = .ok (.lreturn, 1) := by decide +kernel
theorem dX0_logic_0 : decode cX0_logic 0 = .ok (.iload_n 1, 1) := by decide +kernel
theorem dX0_logic_1 : decode cX0_logic 1 = .ok (.tableswitch 107 88 95 #[47, 56, 61, 66, 71, 80, 89, 98], 47) := by decide +kernel
theorem dX0_logic_48 : decode cX0_logic 48 = .ok (.lload_n 2, 1) := by decide +kernel
theorem dX0_logic_49 : decode cX0_logic 49 = .ok (.lload 4, 2) := by decide +kernel
theorem dX0_logic_51 : decode cX0_logic 51 = .ok (.ldc2_w 70, 3) := by decide +kernel
theorem dX0_logic_54 : decode cX0_logic 54 = .ok (.lxor, 1) := by decide +kernel
theorem dX0_logic_55 : decode cX0_logic 55 = .ok (.land, 1) := by decide +kernel
theorem dX0_logic_56 : decode cX0_logic 56 = .ok (.lreturn, 1) := by decide +kernel
theorem dX0_logic_57 : decode cX0_logic 57 = .ok (.lload_n 2, 1) := by decide +kernel
theorem dX0_logic_58 : decode cX0_logic 58 = .ok (.lload 4, 2) := by decide +kernel
theorem dX0_logic_60 : decode cX0_logic 60 = .ok (.land, 1) := by decide +kernel
theorem dX0_logic_61 : decode cX0_logic 61 = .ok (.lreturn, 1) := by decide +kernel
theorem dX0_logic_62 : decode cX0_logic 62 = .ok (.lload_n 2, 1) := by decide +kernel
theorem dX0_logic_63 : decode cX0_logic 63 = .ok (.lload 4, 2) := by decide +kernel
theorem dX0_logic_65 : decode cX0_logic 65 = .ok (.lor, 1) := by decide +kernel
theorem dX0_logic_66 : decode cX0_logic 66 = .ok (.lreturn, 1) := by decide +kernel
theorem dX0_logic_67 : decode cX0_logic 67 = .ok (.lload_n 2, 1) := by decide +kernel
theorem dX0_logic_68 : decode cX0_logic 68 = .ok (.lload 4, 2) := by decide +kernel
theorem dX0_logic_70 : decode cX0_logic 70 = .ok (.lxor, 1) := by decide +kernel
theorem dX0_logic_71 : decode cX0_logic 71 = .ok (.lreturn, 1) := by decide +kernel
theorem dX0_logic_72 : decode cX0_logic 72 = .ok (.lload_n 2, 1) := by decide +kernel
theorem dX0_logic_73 : decode cX0_logic 73 = .ok (.lload 4, 2) := by decide +kernel
theorem dX0_logic_75 : decode cX0_logic 75 = .ok (.ldc2_w 70, 3) := by decide +kernel
theorem dX0_logic_78 : decode cX0_logic 78 = .ok (.lxor, 1) := by decide +kernel
theorem dX0_logic_79 : decode cX0_logic 79 = .ok (.lor, 1) := by decide +kernel
theorem dX0_logic_80 : decode cX0_logic 80 = .ok (.lreturn, 1) := by decide +kernel
theorem dX0_logic_81 : decode cX0_logic 81 = .ok (.lload_n 2, 1) := by decide +kernel
theorem dX0_logic_82 : decode cX0_logic 82 = .ok (.lload 4, 2) := by decide +kernel
theorem dX0_logic_84 : decode cX0_logic 84 = .ok (.land, 1) := by decide +kernel
theorem dX0_logic_85 : decode cX0_logic 85 = .ok (.ldc2_w 70, 3) := by decide +kernel
theorem dX0_logic_88 : decode cX0_logic 88 = .ok (.lxor, 1) := by decide +kernel
theorem dX0_logic_89 : decode cX0_logic 89 = .ok (.lreturn, 1) := by decide +kernel
theorem dX0_logic_90 : decode cX0_logic 90 = .ok (.lload_n 2, 1) := by decide +kernel
theorem dX0_logic_91 : decode cX0_logic 91 = .ok (.lload 4, 2) := by decide +kernel
theorem dX0_logic_93 : decode cX0_logic 93 = .ok (.lor, 1) := by decide +kernel
theorem dX0_logic_94 : decode cX0_logic 94 = .ok (.ldc2_w 70, 3) := by decide +kernel
theorem dX0_logic_97 : decode cX0_logic 97 = .ok (.lxor, 1) := by decide +kernel
theorem dX0_logic_98 : decode cX0_logic 98 = .ok (.lreturn, 1) := by decide +kernel
theorem dX0_logic_99 : decode cX0_logic 99 = .ok (.lload_n 2, 1) := by decide +kernel
theorem dX0_logic_100 : decode cX0_logic 100 = .ok (.lload 4, 2) := by decide +kernel
theorem dX0_logic_102 : decode cX0_logic 102 = .ok (.lxor, 1) := by decide +kernel
theorem dX0_logic_103 : decode cX0_logic 103 = .ok (.ldc2_w 70, 3) := by decide +kernel
theorem dX0_logic_106 : decode cX0_logic 106 = .ok (.lxor, 1) := by decide +kernel
theorem dX0_logic_107 : decode cX0_logic 107 = .ok (.lreturn, 1) := by decide +kernel
theorem dX0_logic_108 : decode cX0_logic 108 = .ok (.lconst 0, 1) := by decide +kernel
theorem dX0_logic_109 : decode cX0_logic 109 = .ok (.lreturn, 1) := by decide +kernel
theorem dX0_reduced_0 : decode cX0_reduced 0 = .ok (.iload_n 1, 1) := by decide +kernel
theorem dX0_reduced_1 : decode cX0_reduced 1 = .ok (.tableswitch 204 48 71 #[111, 116, 204, 204, 204, 204, 204, 204, 204, 204, 204, 204, 204, 204, 204, 204, 128, 133, 138, 143, 148, 155, 176, 183], 111) := by decide +kernel
theorem dX0_reduced_112 : decode cX0_reduced 112 = .ok (.lload_n 2, 1) := by decide +kernel
theorem dX0_reduced_113 : decode cX0_reduced 113 = .ok (.lload 4, 2) := by decide +kernel
theorem dX0_reduced_115 : decode cX0_reduced 115 = .ok (.ladd, 1) := by decide +kernel
theorem dX0_reduced_116 : decode cX0_reduced 116 = .ok (.lreturn, 1) := by decide +kernel
theorem dX0_reduced_117 : decode cX0_reduced 117 = .ok (.lload_n 2, 1) := by decide +kernel
theorem dX0_reduced_118 : decode cX0_reduced 118 = .ok (.lload 4, 2) := by decide +kernel
theorem dX0_reduced_120 : decode cX0_reduced 120 = .ok (.aload_n 0, 1) := by decide +kernel
theorem dX0_reduced_121 : decode cX0_reduced 121 = .ok (.getfield 15, 3) := by decide +kernel
theorem dX0_reduced_124 : decode cX0_reduced 124 = .ok (.invokestatic 59, 3) := by decide +kernel
theorem dX0_reduced_127 : decode cX0_reduced 127 = .ok (.ladd, 1) := by decide +kernel
theorem dX0_reduced_128 : decode cX0_reduced 128 = .ok (.lreturn, 1) := by decide +kernel
theorem dX0_reduced_129 : decode cX0_reduced 129 = .ok (.lload_n 2, 1) := by decide +kernel
theorem dX0_reduced_130 : decode cX0_reduced 130 = .ok (.lload 4, 2) := by decide +kernel
theorem dX0_reduced_132 : decode cX0_reduced 132 = .ok (.ladd, 1) := by decide +kernel
theorem dX0_reduced_133 : decode cX0_reduced 133 = .ok (.lreturn, 1) := by decide +kernel
theorem dX0_reduced_134 : decode cX0_reduced 134 = .ok (.lload_n 2, 1) := by decide +kernel
theorem dX0_reduced_135 : decode cX0_reduced 135 = .ok (.lload 4, 2) := by decide +kernel
theorem dX0_reduced_137 : decode cX0_reduced 137 = .ok (.land, 1) := by decide +kernel
theorem dX0_reduced_138 : decode cX0_reduced 138 = .ok (.lreturn, 1) := by decide +kernel
theorem dX0_reduced_139 : decode cX0_reduced 139 = .ok (.lload_n 2, 1) := by decide +kernel
theorem dX0_reduced_140 : decode cX0_reduced 140 = .ok (.lload 4, 2) := by decide +kernel
theorem dX0_reduced_142 : decode cX0_reduced 142 = .ok (.lor, 1) := by decide +kernel
theorem dX0_reduced_143 : decode cX0_reduced 143 = .ok (.lreturn, 1) := by decide +kernel
theorem dX0_reduced_144 : decode cX0_reduced 144 = .ok (.lload_n 2, 1) := by decide +kernel
theorem dX0_reduced_145 : decode cX0_reduced 145 = .ok (.lload 4, 2) := by decide +kernel
theorem dX0_reduced_147 : decode cX0_reduced 147 = .ok (.lxor, 1) := by decide +kernel
theorem dX0_reduced_148 : decode cX0_reduced 148 = .ok (.lreturn, 1) := by decide +kernel
theorem dX0_reduced_149 : decode cX0_reduced 149 = .ok (.lload_n 2, 1) := by decide +kernel
theorem dX0_reduced_150 : decode cX0_reduced 150 = .ok (.lload 4, 2) := by decide +kernel
theorem dX0_reduced_152 : decode cX0_reduced 152 = .ok (.invokestatic 72, 3) := by decide +kernel
theorem dX0_reduced_155 : decode cX0_reduced 155 = .ok (.lreturn, 1) := by decide +kernel
theorem dX0_reduced_156 : decode cX0_reduced 156 = .ok (.lload_n 2, 1) := by decide +kernel
theorem dX0_reduced_157 : decode cX0_reduced 157 = .ok (.aload_n 0, 1) := by decide +kernel
theorem dX0_reduced_158 : decode cX0_reduced 158 = .ok (.getfield 15, 3) := by decide +kernel
theorem dX0_reduced_161 : decode cX0_reduced 161 = .ok (.invokestatic 59, 3) := by decide +kernel
theorem dX0_reduced_164 : decode cX0_reduced 164 = .ok (.lload 4, 2) := by decide +kernel
theorem dX0_reduced_166 : decode cX0_reduced 166 = .ok (.aload_n 0, 1) := by decide +kernel
theorem dX0_reduced_167 : decode cX0_reduced 167 = .ok (.getfield 15, 3) := by decide +kernel
theorem dX0_reduced_170 : decode cX0_reduced 170 = .ok (.invokestatic 59, 3) := by decide +kernel
theorem dX0_reduced_173 : decode cX0_reduced 173 = .ok (.invokestatic 72, 3) := by decide +kernel
theorem dX0_reduced_176 : decode cX0_reduced 176 = .ok (.lreturn, 1) := by decide +kernel
theorem dX0_reduced_177 : decode cX0_reduced 177 = .ok (.lload_n 2, 1) := by decide +kernel
theorem dX0_reduced_178 : decode cX0_reduced 178 = .ok (.lload 4, 2) := by decide +kernel
theorem dX0_reduced_180 : decode cX0_reduced 180 = .ok (.invokestatic 78, 3) := by decide +kernel
theorem dX0_reduced_183 : decode cX0_reduced 183 = .ok (.lreturn, 1) := by decide +kernel
theorem dX0_reduced_184 : decode cX0_reduced 184 = .ok (.lload_n 2, 1) := by decide +kernel
theorem dX0_reduced_185 : decode cX0_reduced 185 = .ok (.aload_n 0, 1) := by decide +kernel
theorem dX0_reduced_186 : decode cX0_reduced 186 = .ok (.getfield 15, 3) := by decide +kernel
theorem dX0_reduced_189 : decode cX0_reduced 189 = .ok (.invokestatic 59, 3) := by decide +kernel
theorem dX0_reduced_192 : decode cX0_reduced 192 = .ok (.lload 4, 2) := by decide +kernel
theorem dX0_reduced_194 : decode cX0_reduced 194 = .ok (.aload_n 0, 1) := by decide +kernel
theorem dX0_reduced_195 : decode cX0_reduced 195 = .ok (.getfield 15, 3) := by decide +kernel
theorem dX0_reduced_198 : decode cX0_reduced 198 = .ok (.invokestatic 59, 3) := by decide +kernel
theorem dX0_reduced_201 : decode cX0_reduced 201 = .ok (.invokestatic 78, 3) := by decide +kernel
theorem dX0_reduced_204 : decode cX0_reduced 204 = .ok (.lreturn, 1) := by decide +kernel
theorem dX0_reduced_205 : decode cX0_reduced 205 = .ok (.lload_n 2, 1) := by decide +kernel
theorem dX0_reduced_206 : decode cX0_reduced 206 = .ok (.lreturn, 1) := by decide +kernel
theorem dX0_simple_0 : decode cX0_simple 0 = .ok (.iload_n 1, 1) := by decide +kernel
theorem dX0_simple_1 : decode cX0_simple 1 = .ok (.tableswitch 149 0 11 #[63, 149, 68, 73, 78, 85, 106, 113, 149, 134, 139, 144], 63) := by decide +kernel
theorem dX0_simple_64 : decode cX0_simple 64 = .ok (.lload_n 2, 1) := by decide +kernel
theorem dX0_simple_65 : decode cX0_simple 65 = .ok (.lload 4, 2) := by decide +kernel
theorem dX0_simple_67 : decode cX0_simple 67 = .ok (.ladd, 1) := by decide +kernel
theorem dX0_simple_68 : decode cX0_simple 68 = .ok (.lreturn, 1) := by decide +kernel
theorem dX0_simple_69 : decode cX0_simple 69 = .ok (.lload_n 2, 1) := by decide +kernel
theorem dX0_simple_70 : decode cX0_simple 70 = .ok (.lload 4, 2) := by decide +kernel
theorem dX0_simple_72 : decode cX0_simple 72 = .ok (.lsub, 1) := by decide +kernel
theorem dX0_simple_73 : decode cX0_simple 73 = .ok (.lreturn, 1) := by decide +kernel
theorem dX0_simple_74 : decode cX0_simple 74 = .ok (.lload 4, 2) := by decide +kernel
theorem dX0_simple_76 : decode cX0_simple 76 = .ok (.lload_n 2, 1) := by decide +kernel
theorem dX0_simple_77 : decode cX0_simple 77 = .ok (.lsub, 1) := by decide +kernel
theorem dX0_simple_78 : decode cX0_simple 78 = .ok (.lreturn, 1) := by decide +kernel
theorem dX0_simple_79 : decode cX0_simple 79 = .ok (.lload_n 2, 1) := by decide +kernel
theorem dX0_simple_80 : decode cX0_simple 80 = .ok (.lload 4, 2) := by decide +kernel
theorem dX0_simple_82 : decode cX0_simple 82 = .ok (.invokestatic 72, 3) := by decide +kernel
theorem dX0_simple_85 : decode cX0_simple 85 = .ok (.lreturn, 1) := by decide +kernel
theorem dX0_simple_86 : decode cX0_simple 86 = .ok (.lload_n 2, 1) := by decide +kernel
theorem dX0_simple_87 : decode cX0_simple 87 = .ok (.aload_n 0, 1) := by decide +kernel
theorem dX0_simple_88 : decode cX0_simple 88 = .ok (.getfield 15, 3) := by decide +kernel
theorem dX0_simple_91 : decode cX0_simple 91 = .ok (.invokestatic 59, 3) := by decide +kernel
theorem dX0_simple_94 : decode cX0_simple 94 = .ok (.lload 4, 2) := by decide +kernel
theorem dX0_simple_96 : decode cX0_simple 96 = .ok (.aload_n 0, 1) := by decide +kernel
theorem dX0_simple_97 : decode cX0_simple 97 = .ok (.getfield 15, 3) := by decide +kernel
theorem dX0_simple_100 : decode cX0_simple 100 = .ok (.invokestatic 59, 3) := by decide +kernel
theorem dX0_simple_103 : decode cX0_simple 103 = .ok (.invokestatic 72, 3) := by decide +kernel
theorem dX0_simple_106 : decode cX0_simple 106 = .ok (.lreturn, 1) := by decide +kernel
theorem dX0_simple_107 : decode cX0_simple 107 = .ok (.lload_n 2, 1) := by decide +kernel
theorem dX0_simple_108 : decode cX0_simple 108 = .ok (.lload 4, 2) := by decide +kernel
theorem dX0_simple_110 : decode cX0_simple 110 = .ok (.invokestatic 78, 3) := by decide +kernel
theorem dX0_simple_113 : decode cX0_simple 113 = .ok (.lreturn, 1) := by decide +kernel
theorem dX0_simple_114 : decode cX0_simple 114 = .ok (.lload_n 2, 1) := by decide +kernel
theorem dX0_simple_115 : decode cX0_simple 115 = .ok (.aload_n 0, 1) := by decide +kernel
theorem dX0_simple_116 : decode cX0_simple 116 = .ok (.getfield 15, 3) := by decide +kernel
theorem dX0_simple_119 : decode cX0_simple 119 = .ok (.invokestatic 59, 3) := by decide +kernel
theorem dX0_simple_122 : decode cX0_simple 122 = .ok (.lload 4, 2) := by decide +kernel
theorem dX0_simple_124 : decode cX0_simple 124 = .ok (.aload_n 0, 1) := by decide +kernel
theorem dX0_simple_125 : decode cX0_simple 125 = .ok (.getfield 15, 3) := by decide +kernel
theorem dX0_simple_128 : decode cX0_simple 128 = .ok (.invokestatic 59, 3) := by decide +kernel
theorem dX0_simple_131 : decode cX0_simple 131 = .ok (.invokestatic 78, 3) := by decide +kernel
theorem dX0_simple_134 : decode cX0_simple 134 = .ok (.lreturn, 1) := by decide +kernel
theorem dX0_simple_135 : decode cX0_simple 135 = .ok (.lload_n 2, 1) := by decide +kernel
theorem dX0_simple_136 : decode cX0_simple 136 = .ok (.lload 4, 2) := by decide +kernel
theorem dX0_simple_138 : decode cX0_simple 138 = .ok (.land, 1) := by decide +kernel
theorem dX0_simple_139 : decode cX0_simple 139 = .ok (.lreturn, 1) := by decide +kernel
theorem dX0_simple_140 : decode cX0_simple 140 = .ok (.lload_n 2, 1) := by decide +kernel
theorem dX0_simple_141 : decode cX0_simple 141 = .ok (.lload 4, 2) := by decide +kernel
theorem dX0_simple_143 : decode cX0_simple 143 = .ok (.lor, 1) := by decide +kernel
theorem dX0_simple_144 : decode cX0_simple 144 = .ok (.lreturn, 1) := by decide +kernel
theorem dX0_simple_145 : decode cX0_simple 145 = .ok (.lload_n 2, 1) := by decide +kernel
theorem dX0_simple_146 : decode cX0_simple 146 = .ok (.lload 4, 2) := by decide +kernel
theorem dX0_simple_148 : decode cX0_simple 148 = .ok (.lxor, 1) := by decide +kernel
theorem dX0_simple_149 : decode cX0_simple 149 = .ok (.lreturn, 1) := by decide +kernel
theorem dX0_simple_150 : decode cX0_simple 150 = .ok (.lconst 0, 1) := by decide +kernel
theorem dX0_simple_151 : decode cX0_simple 151 = .ok (.lreturn, 1) := by decide +kernel
theorem dX0_saturatingOrShift_0 : decode cX0_saturatingOrShift 0 = .ok (.lload 4, 2) := by decide +kernel
theorem dX0_saturatingOrShift_2 : decode cX0_saturatingOrShift 2 = .ok (.l2i, 1) := by decide +kernel
theorem dX0_saturatingOrShift_3 : decode cX0_saturatingOrShift 3 = .ok (.aload_n 0, 1) := by decide +kernel
theorem dX0_saturatingOrShift_4 : decode cX0_saturatingOrShift 4 = .ok (.getfield 15, 3) := by decide +kernel
theorem dX0_saturatingOrShift_7 : decode cX0_saturatingOrShift 7 = .ok (.iconst 1, 1) := by decide +kernel
theorem dX0_saturatingOrShift_8 : decode cX0_saturatingOrShift 8 = .ok (.isub, 1) := by decide +kernel
theorem dX0_saturatingOrShift_9 : decode cX0_saturatingOrShift 9 = .ok (.iand, 1) := by decide +kernel
theorem dX0_saturatingOrShift_10 : decode cX0_saturatingOrShift 10 = .ok (.istore 6, 2) := by decide +kernel
theorem dX0_saturatingOrShift_12 : decode cX0_saturatingOrShift 12 = .ok (.lload_n 2, 1) := by decide +kernel
theorem dX0_saturatingOrShift_13 : decode cX0_saturatingOrShift 13 = .ok (.aload_n 0, 1) := by decide +kernel
theorem dX0_saturatingOrShift_14 : decode cX0_saturatingOrShift 14 = .ok (.getfield 15, 3) := by decide +kernel
theorem dX0_saturatingOrShift_17 : decode cX0_saturatingOrShift 17 = .ok (.invokestatic 59, 3) := by decide +kernel
theorem dX0_saturatingOrShift_20 : decode cX0_saturatingOrShift 20 = .ok (.lstore 7, 2) := by decide +kernel
theorem dX0_saturatingOrShift_22 : decode cX0_saturatingOrShift 22 = .ok (.lload 4, 2) := by decide +kernel
theorem dX0_saturatingOrShift_24 : decode cX0_saturatingOrShift 24 = .ok (.aload_n 0, 1) := by decide +kernel
theorem dX0_saturatingOrShift_25 : decode cX0_saturatingOrShift 25 = .ok (.getfield 15, 3) := by decide +kernel
theorem dX0_saturatingOrShift_28 : decode cX0_saturatingOrShift 28 = .ok (.invokestatic 59, 3) := by decide +kernel
theorem dX0_saturatingOrShift_31 : decode cX0_saturatingOrShift 31 = .ok (.lstore 9, 2) := by decide +kernel
theorem dX0_saturatingOrShift_33 : decode cX0_saturatingOrShift 33 = .ok (.iload_n 1, 1) := by decide +kernel
theorem dX0_saturatingOrShift_34 : decode cX0_saturatingOrShift 34 = .ok (.tableswitch 187 32 43 #[62, 76, 94, 108, 187, 126, 187, 131, 159, 164, 170, 178], 62) := by decide +kernel
theorem dX0_saturatingOrShift_96 : decode cX0_saturatingOrShift 96 = .ok (.aload_n 0, 1) := by decide +kernel
theorem dX0_saturatingOrShift_97 : decode cX0_saturatingOrShift 97 = .ok (.lload_n 2, 1) := by decide +kernel
theorem dX0_saturatingOrShift_98 : decode cX0_saturatingOrShift 98 = .ok (.lload 4, 2) := by decide +kernel
theorem dX0_saturatingOrShift_100 : decode cX0_saturatingOrShift 100 = .ok (.ladd, 1) := by decide +kernel
theorem dX0_saturatingOrShift_101 : decode cX0_saturatingOrShift 101 = .ok (.lconst 0, 1) := by decide +kernel
theorem dX0_saturatingOrShift_102 : decode cX0_saturatingOrShift 102 = .ok (.aload_n 0, 1) := by decide +kernel
theorem dX0_saturatingOrShift_103 : decode cX0_saturatingOrShift 103 = .ok (.getfield 23, 3) := by decide +kernel
theorem dX0_saturatingOrShift_106 : decode cX0_saturatingOrShift 106 = .ok (.invokevirtual 81, 3) := by decide +kernel
theorem dX0_saturatingOrShift_109 : decode cX0_saturatingOrShift 109 = .ok (.lreturn, 1) := by decide +kernel
theorem dX0_saturatingOrShift_110 : decode cX0_saturatingOrShift 110 = .ok (.aload_n 0, 1) := by decide +kernel
theorem dX0_saturatingOrShift_111 : decode cX0_saturatingOrShift 111 = .ok (.lload 7, 2) := by decide +kernel
theorem dX0_saturatingOrShift_113 : decode cX0_saturatingOrShift 113 = .ok (.lload 9, 2) := by decide +kernel
theorem dX0_saturatingOrShift_115 : decode cX0_saturatingOrShift 115 = .ok (.ladd, 1) := by decide +kernel
theorem dX0_saturatingOrShift_116 : decode cX0_saturatingOrShift 116 = .ok (.aload_n 0, 1) := by decide +kernel
theorem dX0_saturatingOrShift_117 : decode cX0_saturatingOrShift 117 = .ok (.getfield 30, 3) := by decide +kernel
theorem dX0_saturatingOrShift_120 : decode cX0_saturatingOrShift 120 = .ok (.aload_n 0, 1) := by decide +kernel
theorem dX0_saturatingOrShift_121 : decode cX0_saturatingOrShift 121 = .ok (.getfield 27, 3) := by decide +kernel
theorem dX0_saturatingOrShift_124 : decode cX0_saturatingOrShift 124 = .ok (.invokevirtual 81, 3) := by decide +kernel
theorem dX0_saturatingOrShift_127 : decode cX0_saturatingOrShift 127 = .ok (.lreturn, 1) := by decide +kernel
theorem dX0_saturatingOrShift_128 : decode cX0_saturatingOrShift 128 = .ok (.aload_n 0, 1) := by decide +kernel
theorem dX0_saturatingOrShift_129 : decode cX0_saturatingOrShift 129 = .ok (.lload_n 2, 1) := by decide +kernel
theorem dX0_saturatingOrShift_130 : decode cX0_saturatingOrShift 130 = .ok (.lload 4, 2) := by decide +kernel
theorem dX0_saturatingOrShift_132 : decode cX0_saturatingOrShift 132 = .ok (.lsub, 1) := by decide +kernel
theorem dX0_saturatingOrShift_133 : decode cX0_saturatingOrShift 133 = .ok (.lconst 0, 1) := by decide +kernel
theorem dX0_saturatingOrShift_134 : decode cX0_saturatingOrShift 134 = .ok (.aload_n 0, 1) := by decide +kernel
theorem dX0_saturatingOrShift_135 : decode cX0_saturatingOrShift 135 = .ok (.getfield 23, 3) := by decide +kernel
theorem dX0_saturatingOrShift_138 : decode cX0_saturatingOrShift 138 = .ok (.invokevirtual 81, 3) := by decide +kernel
theorem dX0_saturatingOrShift_141 : decode cX0_saturatingOrShift 141 = .ok (.lreturn, 1) := by decide +kernel
theorem dX0_saturatingOrShift_142 : decode cX0_saturatingOrShift 142 = .ok (.aload_n 0, 1) := by decide +kernel
theorem dX0_saturatingOrShift_143 : decode cX0_saturatingOrShift 143 = .ok (.lload 7, 2) := by decide +kernel
theorem dX0_saturatingOrShift_145 : decode cX0_saturatingOrShift 145 = .ok (.lload 9, 2) := by decide +kernel
theorem dX0_saturatingOrShift_147 : decode cX0_saturatingOrShift 147 = .ok (.lsub, 1) := by decide +kernel
theorem dX0_saturatingOrShift_148 : decode cX0_saturatingOrShift 148 = .ok (.aload_n 0, 1) := by decide +kernel
theorem dX0_saturatingOrShift_149 : decode cX0_saturatingOrShift 149 = .ok (.getfield 30, 3) := by decide +kernel
theorem dX0_saturatingOrShift_152 : decode cX0_saturatingOrShift 152 = .ok (.aload_n 0, 1) := by decide +kernel
theorem dX0_saturatingOrShift_153 : decode cX0_saturatingOrShift 153 = .ok (.getfield 27, 3) := by decide +kernel
theorem dX0_saturatingOrShift_156 : decode cX0_saturatingOrShift 156 = .ok (.invokevirtual 81, 3) := by decide +kernel
theorem dX0_saturatingOrShift_159 : decode cX0_saturatingOrShift 159 = .ok (.lreturn, 1) := by decide +kernel
theorem dX0_saturatingOrShift_160 : decode cX0_saturatingOrShift 160 = .ok (.lload_n 2, 1) := by decide +kernel
theorem dX0_saturatingOrShift_161 : decode cX0_saturatingOrShift 161 = .ok (.iload 6, 2) := by decide +kernel
theorem dX0_saturatingOrShift_163 : decode cX0_saturatingOrShift 163 = .ok (.lshl, 1) := by decide +kernel
theorem dX0_saturatingOrShift_164 : decode cX0_saturatingOrShift 164 = .ok (.lreturn, 1) := by decide +kernel
theorem dX0_saturatingOrShift_165 : decode cX0_saturatingOrShift 165 = .ok (.aload_n 0, 1) := by decide +kernel
theorem dX0_saturatingOrShift_166 : decode cX0_saturatingOrShift 166 = .ok (.aload_n 0, 1) := by decide +kernel
theorem dX0_saturatingOrShift_167 : decode cX0_saturatingOrShift 167 = .ok (.lload 7, 2) := by decide +kernel
theorem dX0_saturatingOrShift_169 : decode cX0_saturatingOrShift 169 = .ok (.lload 9, 2) := by decide +kernel
theorem dX0_saturatingOrShift_171 : decode cX0_saturatingOrShift 171 = .ok (.lmul, 1) := by decide +kernel
theorem dX0_saturatingOrShift_172 : decode cX0_saturatingOrShift 172 = .ok (.aload_n 0, 1) := by decide +kernel
theorem dX0_saturatingOrShift_173 : decode cX0_saturatingOrShift 173 = .ok (.getfield 15, 3) := by decide +kernel
theorem dX0_saturatingOrShift_176 : decode cX0_saturatingOrShift 176 = .ok (.iconst 1, 1) := by decide +kernel
theorem dX0_saturatingOrShift_177 : decode cX0_saturatingOrShift 177 = .ok (.isub, 1) := by decide +kernel
theorem dX0_saturatingOrShift_178 : decode cX0_saturatingOrShift 178 = .ok (.invokevirtual 85, 3) := by decide +kernel
theorem dX0_saturatingOrShift_181 : decode cX0_saturatingOrShift 181 = .ok (.aload_n 0, 1) := by decide +kernel
theorem dX0_saturatingOrShift_182 : decode cX0_saturatingOrShift 182 = .ok (.getfield 30, 3) := by decide +kernel
theorem dX0_saturatingOrShift_185 : decode cX0_saturatingOrShift 185 = .ok (.aload_n 0, 1) := by decide +kernel
theorem dX0_saturatingOrShift_186 : decode cX0_saturatingOrShift 186 = .ok (.getfield 27, 3) := by decide +kernel
theorem dX0_saturatingOrShift_189 : decode cX0_saturatingOrShift 189 = .ok (.invokevirtual 81, 3) := by decide +kernel
theorem dX0_saturatingOrShift_192 : decode cX0_saturatingOrShift 192 = .ok (.lreturn, 1) := by decide +kernel
theorem dX0_saturatingOrShift_193 : decode cX0_saturatingOrShift 193 = .ok (.lload_n 2, 1) := by decide +kernel
theorem dX0_saturatingOrShift_194 : decode cX0_saturatingOrShift 194 = .ok (.iload 6, 2) := by decide +kernel
theorem dX0_saturatingOrShift_196 : decode cX0_saturatingOrShift 196 = .ok (.lushr, 1) := by decide +kernel
theorem dX0_saturatingOrShift_197 : decode cX0_saturatingOrShift 197 = .ok (.lreturn, 1) := by decide +kernel
theorem dX0_saturatingOrShift_198 : decode cX0_saturatingOrShift 198 = .ok (.lload 7, 2) := by decide +kernel
theorem dX0_saturatingOrShift_200 : decode cX0_saturatingOrShift 200 = .ok (.iload 6, 2) := by decide +kernel
theorem dX0_saturatingOrShift_202 : decode cX0_saturatingOrShift 202 = .ok (.lshr, 1) := by decide +kernel
theorem dX0_saturatingOrShift_203 : decode cX0_saturatingOrShift 203 = .ok (.lreturn, 1) := by decide +kernel
theorem dX0_saturatingOrShift_204 : decode cX0_saturatingOrShift 204 = .ok (.aload_n 0, 1) := by decide +kernel
theorem dX0_saturatingOrShift_205 : decode cX0_saturatingOrShift 205 = .ok (.lload_n 2, 1) := by decide +kernel
theorem dX0_saturatingOrShift_206 : decode cX0_saturatingOrShift 206 = .ok (.iload 6, 2) := by decide +kernel
theorem dX0_saturatingOrShift_208 : decode cX0_saturatingOrShift 208 = .ok (.invokevirtual 85, 3) := by decide +kernel
theorem dX0_saturatingOrShift_211 : decode cX0_saturatingOrShift 211 = .ok (.lreturn, 1) := by decide +kernel
theorem dX0_saturatingOrShift_212 : decode cX0_saturatingOrShift 212 = .ok (.aload_n 0, 1) := by decide +kernel
theorem dX0_saturatingOrShift_213 : decode cX0_saturatingOrShift 213 = .ok (.lload 7, 2) := by decide +kernel
theorem dX0_saturatingOrShift_215 : decode cX0_saturatingOrShift 215 = .ok (.iload 6, 2) := by decide +kernel
theorem dX0_saturatingOrShift_217 : decode cX0_saturatingOrShift 217 = .ok (.invokevirtual 85, 3) := by decide +kernel
theorem dX0_saturatingOrShift_220 : decode cX0_saturatingOrShift 220 = .ok (.lreturn, 1) := by decide +kernel
theorem dX0_saturatingOrShift_221 : decode cX0_saturatingOrShift 221 = .ok (.lconst 0, 1) := by decide +kernel
theorem dX0_saturatingOrShift_222 : decode cX0_saturatingOrShift 222 = .ok (.lreturn, 1) := by decide +kernel
theorem dX0_narrow_0 : decode cX0_narrow 0 = .ok (.lload 4, 2) := by decide +kernel
theorem dX0_narrow_2 : decode cX0_narrow 2 = .ok (.l2i, 1) := by decide +kernel
theorem dX0_narrow_3 : decode cX0_narrow 3 = .ok (.iconst 2, 1) := by decide +kernel
theorem dX0_narrow_4 : decode cX0_narrow 4 = .ok (.aload_n 0, 1) := by decide +kernel
theorem dX0_narrow_5 : decode cX0_narrow 5 = .ok (.getfield 15, 3) := by decide +kernel
theorem dX0_narrow_8 : decode cX0_narrow 8 = .ok (.imul, 1) := by decide +kernel
theorem dX0_narrow_9 : decode cX0_narrow 9 = .ok (.iconst 1, 1) := by decide +kernel
theorem dX0_narrow_10 : decode cX0_narrow 10 = .ok (.isub, 1) := by decide +kernel
theorem dX0_narrow_11 : decode cX0_narrow 11 = .ok (.iand, 1) := by decide +kernel
theorem dX0_narrow_12 : decode cX0_narrow 12 = .ok (.istore 6, 2) := by decide +kernel
theorem dX0_narrow_14 : decode cX0_narrow 14 = .ok (.lload_n 2, 1) := by decide +kernel
theorem dX0_narrow_15 : decode cX0_narrow 15 = .ok (.iconst 2, 1) := by decide +kernel
theorem dX0_narrow_16 : decode cX0_narrow 16 = .ok (.aload_n 0, 1) := by decide +kernel
theorem dX0_narrow_17 : decode cX0_narrow 17 = .ok (.getfield 15, 3) := by decide +kernel
theorem dX0_narrow_20 : decode cX0_narrow 20 = .ok (.imul, 1) := by decide +kernel
theorem dX0_narrow_21 : decode cX0_narrow 21 = .ok (.invokestatic 59, 3) := by decide +kernel
theorem dX0_narrow_24 : decode cX0_narrow 24 = .ok (.lstore 7, 2) := by decide +kernel
theorem dX0_narrow_26 : decode cX0_narrow 26 = .ok (.iload_n 1, 1) := by decide +kernel
theorem dX0_narrow_27 : decode cX0_narrow 27 = .ok (.tableswitch 78 44 47 #[29, 34, 40, 57], 29) := by decide +kernel
theorem dX0_narrow_56 : decode cX0_narrow 56 = .ok (.lload_n 2, 1) := by decide +kernel
theorem dX0_narrow_57 : decode cX0_narrow 57 = .ok (.iload 6, 2) := by decide +kernel
theorem dX0_narrow_59 : decode cX0_narrow 59 = .ok (.lushr, 1) := by decide +kernel
theorem dX0_narrow_60 : decode cX0_narrow 60 = .ok (.lreturn, 1) := by decide +kernel
theorem dX0_narrow_61 : decode cX0_narrow 61 = .ok (.lload 7, 2) := by decide +kernel
theorem dX0_narrow_63 : decode cX0_narrow 63 = .ok (.iload 6, 2) := by decide +kernel
theorem dX0_narrow_65 : decode cX0_narrow 65 = .ok (.lshr, 1) := by decide +kernel
theorem dX0_narrow_66 : decode cX0_narrow 66 = .ok (.lreturn, 1) := by decide +kernel
theorem dX0_narrow_67 : decode cX0_narrow 67 = .ok (.aload_n 0, 1) := by decide +kernel
theorem dX0_narrow_68 : decode cX0_narrow 68 = .ok (.aload_n 0, 1) := by decide +kernel
theorem dX0_narrow_69 : decode cX0_narrow 69 = .ok (.lload_n 2, 1) := by decide +kernel
theorem dX0_narrow_70 : decode cX0_narrow 70 = .ok (.iload 6, 2) := by decide +kernel
theorem dX0_narrow_72 : decode cX0_narrow 72 = .ok (.invokevirtual 85, 3) := by decide +kernel
theorem dX0_narrow_75 : decode cX0_narrow 75 = .ok (.lconst 0, 1) := by decide +kernel
theorem dX0_narrow_76 : decode cX0_narrow 76 = .ok (.aload_n 0, 1) := by decide +kernel
theorem dX0_narrow_77 : decode cX0_narrow 77 = .ok (.getfield 23, 3) := by decide +kernel
theorem dX0_narrow_80 : decode cX0_narrow 80 = .ok (.invokevirtual 81, 3) := by decide +kernel
theorem dX0_narrow_83 : decode cX0_narrow 83 = .ok (.lreturn, 1) := by decide +kernel
theorem dX0_narrow_84 : decode cX0_narrow 84 = .ok (.aload_n 0, 1) := by decide +kernel
theorem dX0_narrow_85 : decode cX0_narrow 85 = .ok (.aload_n 0, 1) := by decide +kernel
theorem dX0_narrow_86 : decode cX0_narrow 86 = .ok (.lload 7, 2) := by decide +kernel
theorem dX0_narrow_88 : decode cX0_narrow 88 = .ok (.iload 6, 2) := by decide +kernel
theorem dX0_narrow_90 : decode cX0_narrow 90 = .ok (.invokevirtual 85, 3) := by decide +kernel
theorem dX0_narrow_93 : decode cX0_narrow 93 = .ok (.aload_n 0, 1) := by decide +kernel
theorem dX0_narrow_94 : decode cX0_narrow 94 = .ok (.getfield 30, 3) := by decide +kernel
theorem dX0_narrow_97 : decode cX0_narrow 97 = .ok (.aload_n 0, 1) := by decide +kernel
theorem dX0_narrow_98 : decode cX0_narrow 98 = .ok (.getfield 27, 3) := by decide +kernel
theorem dX0_narrow_101 : decode cX0_narrow 101 = .ok (.invokevirtual 81, 3) := by decide +kernel
theorem dX0_narrow_104 : decode cX0_narrow 104 = .ok (.lreturn, 1) := by decide +kernel
theorem dX0_narrow_105 : decode cX0_narrow 105 = .ok (.lconst 0, 1) := by decide +kernel
theorem dX0_narrow_106 : decode cX0_narrow 106 = .ok (.lreturn, 1) := by decide +kernel
theorem dX0_average_0 : decode cX0_average 0 = .ok (.lload_n 2, 1) := by decide +kernel
theorem dX0_average_1 : decode cX0_average 1 = .ok (.aload_n 0, 1) := by decide +kernel
theorem dX0_average_2 : decode cX0_average 2 = .ok (.getfield 15, 3) := by decide +kernel
theorem dX0_average_5 : decode cX0_average 5 = .ok (.invokestatic 59, 3) := by decide +kernel
theorem dX0_average_8 : decode cX0_average 8 = .ok (.lstore 6, 2) := by decide +kernel
theorem dX0_average_10 : decode cX0_average 10 = .ok (.lload 4, 2) := by decide +kernel
theorem dX0_average_12 : decode cX0_average 12 = .ok (.aload_n 0, 1) := by decide +kernel
theorem dX0_average_13 : decode cX0_average 13 = .ok (.getfield 15, 3) := by decide +kernel
theorem dX0_average_16 : decode cX0_average 16 = .ok (.invokestatic 59, 3) := by decide +kernel
theorem dX0_average_19 : decode cX0_average 19 = .ok (.lstore 8, 2) := by decide +kernel
theorem dX0_average_21 : decode cX0_average 21 = .ok (.iload_n 1, 1) := by decide +kernel
theorem dX0_average_22 : decode cX0_average 22 = .ok (.tableswitch 72 72 75 #[30, 40, 51, 61], 30) := by decide +kernel
theorem dX0_average_52 : decode cX0_average 52 = .ok (.aload_n 0, 1) := by decide +kernel
theorem dX0_average_53 : decode cX0_average 53 = .ok (.lload_n 2, 1) := by decide +kernel
theorem dX0_average_54 : decode cX0_average 54 = .ok (.lload 4, 2) := by decide +kernel
theorem dX0_average_56 : decode cX0_average 56 = .ok (.ladd, 1) := by decide +kernel
theorem dX0_average_57 : decode cX0_average 57 = .ok (.iconst 1, 1) := by decide +kernel
theorem dX0_average_58 : decode cX0_average 58 = .ok (.invokevirtual 85, 3) := by decide +kernel
theorem dX0_average_61 : decode cX0_average 61 = .ok (.lreturn, 1) := by decide +kernel
theorem dX0_average_62 : decode cX0_average 62 = .ok (.aload_n 0, 1) := by decide +kernel
theorem dX0_average_63 : decode cX0_average 63 = .ok (.lload 6, 2) := by decide +kernel
theorem dX0_average_65 : decode cX0_average 65 = .ok (.lload 8, 2) := by decide +kernel
theorem dX0_average_67 : decode cX0_average 67 = .ok (.ladd, 1) := by decide +kernel
theorem dX0_average_68 : decode cX0_average 68 = .ok (.iconst 1, 1) := by decide +kernel
theorem dX0_average_69 : decode cX0_average 69 = .ok (.invokevirtual 85, 3) := by decide +kernel
theorem dX0_average_72 : decode cX0_average 72 = .ok (.lreturn, 1) := by decide +kernel
theorem dX0_average_73 : decode cX0_average 73 = .ok (.aload_n 0, 1) := by decide +kernel
theorem dX0_average_74 : decode cX0_average 74 = .ok (.lload_n 2, 1) := by decide +kernel
theorem dX0_average_75 : decode cX0_average 75 = .ok (.lload 4, 2) := by decide +kernel
theorem dX0_average_77 : decode cX0_average 77 = .ok (.lsub, 1) := by decide +kernel
theorem dX0_average_78 : decode cX0_average 78 = .ok (.iconst 1, 1) := by decide +kernel
theorem dX0_average_79 : decode cX0_average 79 = .ok (.invokevirtual 85, 3) := by decide +kernel
theorem dX0_average_82 : decode cX0_average 82 = .ok (.lreturn, 1) := by decide +kernel
theorem dX0_average_83 : decode cX0_average 83 = .ok (.aload_n 0, 1) := by decide +kernel
theorem dX0_average_84 : decode cX0_average 84 = .ok (.lload 6, 2) := by decide +kernel
theorem dX0_average_86 : decode cX0_average 86 = .ok (.lload 8, 2) := by decide +kernel
theorem dX0_average_88 : decode cX0_average 88 = .ok (.lsub, 1) := by decide +kernel
theorem dX0_average_89 : decode cX0_average 89 = .ok (.iconst 1, 1) := by decide +kernel
theorem dX0_average_90 : decode cX0_average 90 = .ok (.invokevirtual 85, 3) := by decide +kernel
theorem dX0_average_93 : decode cX0_average 93 = .ok (.lreturn, 1) := by decide +kernel
theorem dX0_average_94 : decode cX0_average 94 = .ok (.lconst 0, 1) := by decide +kernel
theorem dX0_average_95 : decode cX0_average 95 = .ok (.lreturn, 1) := by decide +kernel
theorem dX0_quotient_0 : decode cX0_quotient 0 = .ok (.lload_n 2, 1) := by decide +kernel
theorem dX0_quotient_1 : decode cX0_quotient 1 = .ok (.aload_n 0, 1) := by decide +kernel
theorem dX0_quotient_2 : decode cX0_quotient 2 = .ok (.getfield 15, 3) := by decide +kernel
theorem dX0_quotient_5 : decode cX0_quotient 5 = .ok (.invokestatic 59, 3) := by decide +kernel
theorem dX0_quotient_8 : decode cX0_quotient 8 = .ok (.lstore 6, 2) := by decide +kernel
theorem dX0_quotient_10 : decode cX0_quotient 10 = .ok (.lload 4, 2) := by decide +kernel
theorem dX0_quotient_12 : decode cX0_quotient 12 = .ok (.aload_n 0, 1) := by decide +kernel
theorem dX0_quotient_13 : decode cX0_quotient 13 = .ok (.getfield 15, 3) := by decide +kernel
theorem dX0_quotient_16 : decode cX0_quotient 16 = .ok (.invokestatic 59, 3) := by decide +kernel
theorem dX0_quotient_19 : decode cX0_quotient 19 = .ok (.lstore 8, 2) := by decide +kernel
theorem dX0_quotient_21 : decode cX0_quotient 21 = .ok (.lload 4, 2) := by decide +kernel
theorem dX0_quotient_23 : decode cX0_quotient 23 = .ok (.lconst 0, 1) := by decide +kernel
theorem dX0_quotient_24 : decode cX0_quotient 24 = .ok (.lcmp, 1) := by decide +kernel
theorem dX0_quotient_25 : decode cX0_quotient 25 = .ok (.ifCond .eq 10, 3) := by decide +kernel
theorem dX0_quotient_28 : decode cX0_quotient 28 = .ok (.lload 8, 2) := by decide +kernel
theorem dX0_quotient_30 : decode cX0_quotient 30 = .ok (.lconst 0, 1) := by decide +kernel
theorem dX0_quotient_31 : decode cX0_quotient 31 = .ok (.lcmp, 1) := by decide +kernel
theorem dX0_quotient_32 : decode cX0_quotient 32 = .ok (.ifCond .ne 23, 3) := by decide +kernel
theorem dX0_quotient_35 : decode cX0_quotient 35 = .ok (.iload_n 1, 1) := by decide +kernel
theorem dX0_quotient_36 : decode cX0_quotient 36 = .ok (.bipush 96, 2) := by decide +kernel
theorem dX0_quotient_38 : decode cX0_quotient 38 = .ok (.if_icmp .eq 9, 3) := by decide +kernel
theorem dX0_quotient_41 : decode cX0_quotient 41 = .ok (.iload_n 1, 1) := by decide +kernel
theorem dX0_quotient_42 : decode cX0_quotient 42 = .ok (.bipush 97, 2) := by decide +kernel
theorem dX0_quotient_44 : decode cX0_quotient 44 = .ok (.if_icmp .ne 9, 3) := by decide +kernel
theorem dX0_quotient_47 : decode cX0_quotient 47 = .ok (.ldc2_w 70, 3) := by decide +kernel
theorem dX0_quotient_50 : decode cX0_quotient 50 = .ok (.goto 4, 3) := by decide +kernel
theorem dX0_quotient_53 : decode cX0_quotient 53 = .ok (.lload_n 2, 1) := by decide +kernel
theorem dX0_quotient_54 : decode cX0_quotient 54 = .ok (.lreturn, 1) := by decide +kernel
theorem dX0_quotient_55 : decode cX0_quotient 55 = .ok (.iload_n 1, 1) := by decide +kernel
theorem dX0_quotient_56 : decode cX0_quotient 56 = .ok (.tableswitch 54 96 99 #[32, 37, 43, 48], 32) := by decide +kernel
theorem dX0_quotient_88 : decode cX0_quotient 88 = .ok (.lload_n 2, 1) := by decide +kernel
theorem dX0_quotient_89 : decode cX0_quotient 89 = .ok (.lload 4, 2) := by decide +kernel
theorem dX0_quotient_91 : decode cX0_quotient 91 = .ok (.ldiv, 1) := by decide +kernel
theorem dX0_quotient_92 : decode cX0_quotient 92 = .ok (.lreturn, 1) := by decide +kernel
theorem dX0_quotient_93 : decode cX0_quotient 93 = .ok (.lload 6, 2) := by decide +kernel
theorem dX0_quotient_95 : decode cX0_quotient 95 = .ok (.lload 8, 2) := by decide +kernel
theorem dX0_quotient_97 : decode cX0_quotient 97 = .ok (.ldiv, 1) := by decide +kernel
theorem dX0_quotient_98 : decode cX0_quotient 98 = .ok (.lreturn, 1) := by decide +kernel
theorem dX0_quotient_99 : decode cX0_quotient 99 = .ok (.lload_n 2, 1) := by decide +kernel
theorem dX0_quotient_100 : decode cX0_quotient 100 = .ok (.lload 4, 2) := by decide +kernel
theorem dX0_quotient_102 : decode cX0_quotient 102 = .ok (.lrem, 1) := by decide +kernel
theorem dX0_quotient_103 : decode cX0_quotient 103 = .ok (.lreturn, 1) := by decide +kernel
theorem dX0_quotient_104 : decode cX0_quotient 104 = .ok (.lload 6, 2) := by decide +kernel
theorem dX0_quotient_106 : decode cX0_quotient 106 = .ok (.lload 8, 2) := by decide +kernel
theorem dX0_quotient_108 : decode cX0_quotient 108 = .ok (.lrem, 1) := by decide +kernel
theorem dX0_quotient_109 : decode cX0_quotient 109 = .ok (.lreturn, 1) := by decide +kernel
theorem dX0_quotient_110 : decode cX0_quotient 110 = .ok (.lconst 0, 1) := by decide +kernel
theorem dX0_quotient_111 : decode cX0_quotient 111 = .ok (.lreturn, 1) := by decide +kernel
theorem dX0_product_0 : decode cX0_product 0 = .ok (.lload_n 2, 1) := by decide +kernel
theorem dX0_product_1 : decode cX0_product 1 = .ok (.aload_n 0, 1) := by decide +kernel
theorem dX0_product_2 : decode cX0_product 2 = .ok (.getfield 15, 3) := by decide +kernel
theorem dX0_product_5 : decode cX0_product 5 = .ok (.invokestatic 59, 3) := by decide +kernel
theorem dX0_product_8 : decode cX0_product 8 = .ok (.lstore 8, 2) := by decide +kernel
theorem dX0_product_10 : decode cX0_product 10 = .ok (.lload 4, 2) := by decide +kernel
theorem dX0_product_12 : decode cX0_product 12 = .ok (.aload_n 0, 1) := by decide +kernel
theorem dX0_product_13 : decode cX0_product 13 = .ok (.getfield 15, 3) := by decide +kernel
theorem dX0_product_16 : decode cX0_product 16 = .ok (.invokestatic 59, 3) := by decide +kernel
theorem dX0_product_19 : decode cX0_product 19 = .ok (.lstore 10, 2) := by decide +kernel
theorem dX0_product_21 : decode cX0_product 21 = .ok (.iload_n 1, 1) := by decide +kernel
theorem dX0_product_22 : decode cX0_product 22 = .ok (.tableswitch 131 100 111 #[62, 72, 77, 88, 131, 99, 131, 107, 131, 115, 131, 123], 62) := by decide +kernel
theorem dX0_product_84 : decode cX0_product 84 = .ok (.lload_n 2, 1) := by decide +kernel
theorem dX0_product_85 : decode cX0_product 85 = .ok (.lload 4, 2) := by decide +kernel
theorem dX0_product_87 : decode cX0_product 87 = .ok (.lmul, 1) := by decide +kernel
theorem dX0_product_88 : decode cX0_product 88 = .ok (.aload_n 0, 1) := by decide +kernel
theorem dX0_product_89 : decode cX0_product 89 = .ok (.getfield 15, 3) := by decide +kernel
theorem dX0_product_92 : decode cX0_product 92 = .ok (.lushr, 1) := by decide +kernel
theorem dX0_product_93 : decode cX0_product 93 = .ok (.lreturn, 1) := by decide +kernel
theorem dX0_product_94 : decode cX0_product 94 = .ok (.lload_n 2, 1) := by decide +kernel
theorem dX0_product_95 : decode cX0_product 95 = .ok (.lload 4, 2) := by decide +kernel
theorem dX0_product_97 : decode cX0_product 97 = .ok (.lmul, 1) := by decide +kernel
theorem dX0_product_98 : decode cX0_product 98 = .ok (.lreturn, 1) := by decide +kernel
theorem dX0_product_99 : decode cX0_product 99 = .ok (.lload 8, 2) := by decide +kernel
theorem dX0_product_101 : decode cX0_product 101 = .ok (.lload 4, 2) := by decide +kernel
theorem dX0_product_103 : decode cX0_product 103 = .ok (.lmul, 1) := by decide +kernel
theorem dX0_product_104 : decode cX0_product 104 = .ok (.aload_n 0, 1) := by decide +kernel
theorem dX0_product_105 : decode cX0_product 105 = .ok (.getfield 15, 3) := by decide +kernel
theorem dX0_product_108 : decode cX0_product 108 = .ok (.lshr, 1) := by decide +kernel
theorem dX0_product_109 : decode cX0_product 109 = .ok (.lreturn, 1) := by decide +kernel
theorem dX0_product_110 : decode cX0_product 110 = .ok (.lload 8, 2) := by decide +kernel
theorem dX0_product_112 : decode cX0_product 112 = .ok (.lload 10, 2) := by decide +kernel
theorem dX0_product_114 : decode cX0_product 114 = .ok (.lmul, 1) := by decide +kernel
theorem dX0_product_115 : decode cX0_product 115 = .ok (.aload_n 0, 1) := by decide +kernel
theorem dX0_product_116 : decode cX0_product 116 = .ok (.getfield 15, 3) := by decide +kernel
theorem dX0_product_119 : decode cX0_product 119 = .ok (.lshr, 1) := by decide +kernel
theorem dX0_product_120 : decode cX0_product 120 = .ok (.lreturn, 1) := by decide +kernel
theorem dX0_product_121 : decode cX0_product 121 = .ok (.lload 4, 2) := by decide +kernel
theorem dX0_product_123 : decode cX0_product 123 = .ok (.lload 6, 2) := by decide +kernel
theorem dX0_product_125 : decode cX0_product 125 = .ok (.lmul, 1) := by decide +kernel
theorem dX0_product_126 : decode cX0_product 126 = .ok (.lload_n 2, 1) := by decide +kernel
theorem dX0_product_127 : decode cX0_product 127 = .ok (.ladd, 1) := by decide +kernel
theorem dX0_product_128 : decode cX0_product 128 = .ok (.lreturn, 1) := by decide +kernel
theorem dX0_product_129 : decode cX0_product 129 = .ok (.lload_n 2, 1) := by decide +kernel
theorem dX0_product_130 : decode cX0_product 130 = .ok (.lload 4, 2) := by decide +kernel
theorem dX0_product_132 : decode cX0_product 132 = .ok (.lload 6, 2) := by decide +kernel
theorem dX0_product_134 : decode cX0_product 134 = .ok (.lmul, 1) := by decide +kernel
theorem dX0_product_135 : decode cX0_product 135 = .ok (.lsub, 1) := by decide +kernel
theorem dX0_product_136 : decode cX0_product 136 = .ok (.lreturn, 1) := by decide +kernel
theorem dX0_product_137 : decode cX0_product 137 = .ok (.lload 4, 2) := by decide +kernel
theorem dX0_product_139 : decode cX0_product 139 = .ok (.lload_n 2, 1) := by decide +kernel
theorem dX0_product_140 : decode cX0_product 140 = .ok (.lmul, 1) := by decide +kernel
theorem dX0_product_141 : decode cX0_product 141 = .ok (.lload 6, 2) := by decide +kernel
theorem dX0_product_143 : decode cX0_product 143 = .ok (.ladd, 1) := by decide +kernel
theorem dX0_product_144 : decode cX0_product 144 = .ok (.lreturn, 1) := by decide +kernel
theorem dX0_product_145 : decode cX0_product 145 = .ok (.lload 6, 2) := by decide +kernel
theorem dX0_product_147 : decode cX0_product 147 = .ok (.lload 4, 2) := by decide +kernel
theorem dX0_product_149 : decode cX0_product 149 = .ok (.lload_n 2, 1) := by decide +kernel
theorem dX0_product_150 : decode cX0_product 150 = .ok (.lmul, 1) := by decide +kernel
theorem dX0_product_151 : decode cX0_product 151 = .ok (.lsub, 1) := by decide +kernel
theorem dX0_product_152 : decode cX0_product 152 = .ok (.lreturn, 1) := by decide +kernel
theorem dX0_product_153 : decode cX0_product 153 = .ok (.lconst 0, 1) := by decide +kernel
theorem dX0_product_154 : decode cX0_product 154 = .ok (.lreturn, 1) := by decide +kernel
theorem dX0_wideSum_0 : decode cX0_wideSum 0 = .ok (.lload_n 2, 1) := by decide +kernel
theorem dX0_wideSum_1 : decode cX0_wideSum 1 = .ok (.aload_n 0, 1) := by decide +kernel
theorem dX0_wideSum_2 : decode cX0_wideSum 2 = .ok (.getfield 15, 3) := by decide +kernel
theorem dX0_wideSum_5 : decode cX0_wideSum 5 = .ok (.invokestatic 59, 3) := by decide +kernel
theorem dX0_wideSum_8 : decode cX0_wideSum 8 = .ok (.lstore 6, 2) := by decide +kernel
theorem dX0_wideSum_10 : decode cX0_wideSum 10 = .ok (.lload 4, 2) := by decide +kernel
theorem dX0_wideSum_12 : decode cX0_wideSum 12 = .ok (.aload_n 0, 1) := by decide +kernel
theorem dX0_wideSum_13 : decode cX0_wideSum 13 = .ok (.getfield 15, 3) := by decide +kernel
theorem dX0_wideSum_16 : decode cX0_wideSum 16 = .ok (.invokestatic 59, 3) := by decide +kernel
theorem dX0_wideSum_19 : decode cX0_wideSum 19 = .ok (.lstore 8, 2) := by decide +kernel
theorem dX0_wideSum_21 : decode cX0_wideSum 21 = .ok (.iload_n 1, 1) := by decide +kernel
theorem dX0_wideSum_22 : decode cX0_wideSum 22 = .ok (.tableswitch 88 112 119 #[46, 51, 57, 62, 68, 73, 78, 83], 46) := by decide +kernel
theorem dX0_wideSum_68 : decode cX0_wideSum 68 = .ok (.lload_n 2, 1) := by decide +kernel
theorem dX0_wideSum_69 : decode cX0_wideSum 69 = .ok (.lload 4, 2) := by decide +kernel
theorem dX0_wideSum_71 : decode cX0_wideSum 71 = .ok (.ladd, 1) := by decide +kernel
theorem dX0_wideSum_72 : decode cX0_wideSum 72 = .ok (.lreturn, 1) := by decide +kernel
theorem dX0_wideSum_73 : decode cX0_wideSum 73 = .ok (.lload 6, 2) := by decide +kernel
theorem dX0_wideSum_75 : decode cX0_wideSum 75 = .ok (.lload 8, 2) := by decide +kernel
theorem dX0_wideSum_77 : decode cX0_wideSum 77 = .ok (.ladd, 1) := by decide +kernel
theorem dX0_wideSum_78 : decode cX0_wideSum 78 = .ok (.lreturn, 1) := by decide +kernel
theorem dX0_wideSum_79 : decode cX0_wideSum 79 = .ok (.lload_n 2, 1) := by decide +kernel
theorem dX0_wideSum_80 : decode cX0_wideSum 80 = .ok (.lload 4, 2) := by decide +kernel
theorem dX0_wideSum_82 : decode cX0_wideSum 82 = .ok (.lsub, 1) := by decide +kernel
theorem dX0_wideSum_83 : decode cX0_wideSum 83 = .ok (.lreturn, 1) := by decide +kernel
theorem dX0_wideSum_84 : decode cX0_wideSum 84 = .ok (.lload 6, 2) := by decide +kernel
theorem dX0_wideSum_86 : decode cX0_wideSum 86 = .ok (.lload 8, 2) := by decide +kernel
theorem dX0_wideSum_88 : decode cX0_wideSum 88 = .ok (.lsub, 1) := by decide +kernel
theorem dX0_wideSum_89 : decode cX0_wideSum 89 = .ok (.lreturn, 1) := by decide +kernel
theorem dX0_wideSum_90 : decode cX0_wideSum 90 = .ok (.lload_n 2, 1) := by decide +kernel
theorem dX0_wideSum_91 : decode cX0_wideSum 91 = .ok (.lload 4, 2) := by decide +kernel
theorem dX0_wideSum_93 : decode cX0_wideSum 93 = .ok (.ladd, 1) := by decide +kernel
theorem dX0_wideSum_94 : decode cX0_wideSum 94 = .ok (.lreturn, 1) := by decide +kernel
theorem dX0_wideSum_95 : decode cX0_wideSum 95 = .ok (.lload_n 2, 1) := by decide +kernel
theorem dX0_wideSum_96 : decode cX0_wideSum 96 = .ok (.lload 8, 2) := by decide +kernel
theorem dX0_wideSum_98 : decode cX0_wideSum 98 = .ok (.ladd, 1) := by decide +kernel
theorem dX0_wideSum_99 : decode cX0_wideSum 99 = .ok (.lreturn, 1) := by decide +kernel
theorem dX0_wideSum_100 : decode cX0_wideSum 100 = .ok (.lload_n 2, 1) := by decide +kernel
theorem dX0_wideSum_101 : decode cX0_wideSum 101 = .ok (.lload 4, 2) := by decide +kernel
theorem dX0_wideSum_103 : decode cX0_wideSum 103 = .ok (.lsub, 1) := by decide +kernel
theorem dX0_wideSum_104 : decode cX0_wideSum 104 = .ok (.lreturn, 1) := by decide +kernel
theorem dX0_wideSum_105 : decode cX0_wideSum 105 = .ok (.lload_n 2, 1) := by decide +kernel
theorem dX0_wideSum_106 : decode cX0_wideSum 106 = .ok (.lload 8, 2) := by decide +kernel
theorem dX0_wideSum_108 : decode cX0_wideSum 108 = .ok (.lsub, 1) := by decide +kernel
theorem dX0_wideSum_109 : decode cX0_wideSum 109 = .ok (.lreturn, 1) := by decide +kernel
theorem dX0_wideSum_110 : decode cX0_wideSum 110 = .ok (.lconst 0, 1) := by decide +kernel
theorem dX0_wideSum_111 : decode cX0_wideSum 111 = .ok (.lreturn, 1) := by decide +kernel
theorem dX0_wideProduct_0 : decode cX0_wideProduct 0 = .ok (.lload_n 2, 1) := by decide +kernel
theorem dX0_wideProduct_1 : decode cX0_wideProduct 1 = .ok (.aload_n 0, 1) := by decide +kernel
theorem dX0_wideProduct_2 : decode cX0_wideProduct 2 = .ok (.getfield 15, 3) := by decide +kernel
theorem dX0_wideProduct_5 : decode cX0_wideProduct 5 = .ok (.invokestatic 59, 3) := by decide +kernel
theorem dX0_wideProduct_8 : decode cX0_wideProduct 8 = .ok (.lstore 8, 2) := by decide +kernel
theorem dX0_wideProduct_10 : decode cX0_wideProduct 10 = .ok (.lload 4, 2) := by decide +kernel
theorem dX0_wideProduct_12 : decode cX0_wideProduct 12 = .ok (.aload_n 0, 1) := by decide +kernel
theorem dX0_wideProduct_13 : decode cX0_wideProduct 13 = .ok (.getfield 15, 3) := by decide +kernel
theorem dX0_wideProduct_16 : decode cX0_wideProduct 16 = .ok (.invokestatic 59, 3) := by decide +kernel
theorem dX0_wideProduct_19 : decode cX0_wideProduct 19 = .ok (.lstore 10, 2) := by decide +kernel
theorem dX0_wideProduct_21 : decode cX0_wideProduct 21 = .ok (.iload_n 1, 1) := by decide +kernel
theorem dX0_wideProduct_22 : decode cX0_wideProduct 22 = .ok (.tableswitch 97 120 127 #[46, 97, 51, 57, 63, 71, 80, 89], 46) := by decide +kernel
theorem dX0_wideProduct_68 : decode cX0_wideProduct 68 = .ok (.lload_n 2, 1) := by decide +kernel
theorem dX0_wideProduct_69 : decode cX0_wideProduct 69 = .ok (.lload 4, 2) := by decide +kernel
theorem dX0_wideProduct_71 : decode cX0_wideProduct 71 = .ok (.lmul, 1) := by decide +kernel
theorem dX0_wideProduct_72 : decode cX0_wideProduct 72 = .ok (.lreturn, 1) := by decide +kernel
theorem dX0_wideProduct_73 : decode cX0_wideProduct 73 = .ok (.lload 8, 2) := by decide +kernel
theorem dX0_wideProduct_75 : decode cX0_wideProduct 75 = .ok (.lload 4, 2) := by decide +kernel
theorem dX0_wideProduct_77 : decode cX0_wideProduct 77 = .ok (.lmul, 1) := by decide +kernel
theorem dX0_wideProduct_78 : decode cX0_wideProduct 78 = .ok (.lreturn, 1) := by decide +kernel
theorem dX0_wideProduct_79 : decode cX0_wideProduct 79 = .ok (.lload 8, 2) := by decide +kernel
theorem dX0_wideProduct_81 : decode cX0_wideProduct 81 = .ok (.lload 10, 2) := by decide +kernel
theorem dX0_wideProduct_83 : decode cX0_wideProduct 83 = .ok (.lmul, 1) := by decide +kernel
theorem dX0_wideProduct_84 : decode cX0_wideProduct 84 = .ok (.lreturn, 1) := by decide +kernel
theorem dX0_wideProduct_85 : decode cX0_wideProduct 85 = .ok (.lload_n 2, 1) := by decide +kernel
theorem dX0_wideProduct_86 : decode cX0_wideProduct 86 = .ok (.lload 4, 2) := by decide +kernel
theorem dX0_wideProduct_88 : decode cX0_wideProduct 88 = .ok (.lmul, 1) := by decide +kernel
theorem dX0_wideProduct_89 : decode cX0_wideProduct 89 = .ok (.lload 6, 2) := by decide +kernel
theorem dX0_wideProduct_91 : decode cX0_wideProduct 91 = .ok (.ladd, 1) := by decide +kernel
theorem dX0_wideProduct_92 : decode cX0_wideProduct 92 = .ok (.lreturn, 1) := by decide +kernel
theorem dX0_wideProduct_93 : decode cX0_wideProduct 93 = .ok (.lload 8, 2) := by decide +kernel
theorem dX0_wideProduct_95 : decode cX0_wideProduct 95 = .ok (.lload 10, 2) := by decide +kernel
theorem dX0_wideProduct_97 : decode cX0_wideProduct 97 = .ok (.lmul, 1) := by decide +kernel
theorem dX0_wideProduct_98 : decode cX0_wideProduct 98 = .ok (.lload 6, 2) := by decide +kernel
theorem dX0_wideProduct_100 : decode cX0_wideProduct 100 = .ok (.ladd, 1) := by decide +kernel
theorem dX0_wideProduct_101 : decode cX0_wideProduct 101 = .ok (.lreturn, 1) := by decide +kernel
theorem dX0_wideProduct_102 : decode cX0_wideProduct 102 = .ok (.lload 8, 2) := by decide +kernel
theorem dX0_wideProduct_104 : decode cX0_wideProduct 104 = .ok (.lload 4, 2) := by decide +kernel
theorem dX0_wideProduct_106 : decode cX0_wideProduct 106 = .ok (.lmul, 1) := by decide +kernel
theorem dX0_wideProduct_107 : decode cX0_wideProduct 107 = .ok (.lload 6, 2) := by decide +kernel
theorem dX0_wideProduct_109 : decode cX0_wideProduct 109 = .ok (.ladd, 1) := by decide +kernel
theorem dX0_wideProduct_110 : decode cX0_wideProduct 110 = .ok (.lreturn, 1) := by decide +kernel
theorem dX0_wideProduct_111 : decode cX0_wideProduct 111 = .ok (.lload_n 2, 1) := by decide +kernel
theorem dX0_wideProduct_112 : decode cX0_wideProduct 112 = .ok (.lload 10, 2) := by decide +kernel
theorem dX0_wideProduct_114 : decode cX0_wideProduct 114 = .ok (.lmul, 1) := by decide +kernel
theorem dX0_wideProduct_115 : decode cX0_wideProduct 115 = .ok (.lload 6, 2) := by decide +kernel
theorem dX0_wideProduct_117 : decode cX0_wideProduct 117 = .ok (.ladd, 1) := by decide +kernel
theorem dX0_wideProduct_118 : decode cX0_wideProduct 118 = .ok (.lreturn, 1) := by decide +kernel
theorem dX0_wideProduct_119 : decode cX0_wideProduct 119 = .ok (.lconst 0, 1) := by decide +kernel
theorem dX0_wideProduct_120 : decode cX0_wideProduct 120 = .ok (.lreturn, 1) := by decide +kernel
theorem dX0_clipped_0 : decode cX0_clipped 0 = .ok (.lload_n 1, 1) := by decide +kernel
theorem dX0_clipped_1 : decode cX0_clipped 1 = .ok (.lload_n 3, 1) := by decide +kernel
theorem dX0_clipped_2 : decode cX0_clipped 2 = .ok (.lcmp, 1) := by decide +kernel
theorem dX0_clipped_3 : decode cX0_clipped 3 = .ok (.ifCond .lt 12, 3) := by decide +kernel
theorem dX0_clipped_6 : decode cX0_clipped 6 = .ok (.lload_n 1, 1) := by decide +kernel
theorem dX0_clipped_7 : decode cX0_clipped 7 = .ok (.lload 5, 2) := by decide +kernel
theorem dX0_clipped_9 : decode cX0_clipped 9 = .ok (.lcmp, 1) := by decide +kernel
theorem dX0_clipped_10 : decode cX0_clipped 10 = .ok (.ifCond .gt 5, 3) := by decide +kernel
theorem dX0_clipped_13 : decode cX0_clipped 13 = .ok (.lload_n 1, 1) := by decide +kernel
theorem dX0_clipped_14 : decode cX0_clipped 14 = .ok (.lreturn, 1) := by decide +kernel
theorem dX0_clipped_15 : decode cX0_clipped 15 = .ok (.aload_n 0, 1) := by decide +kernel
theorem dX0_clipped_16 : decode cX0_clipped 16 = .ok (.getfield 9, 3) := by decide +kernel
theorem dX0_clipped_19 : decode cX0_clipped 19 = .ok (.iconst 1, 1) := by decide +kernel
theorem dX0_clipped_20 : decode cX0_clipped 20 = .ok (.putfield 88, 3) := by decide +kernel
theorem dX0_clipped_23 : decode cX0_clipped 23 = .ok (.lload_n 1, 1) := by decide +kernel
theorem dX0_clipped_24 : decode cX0_clipped 24 = .ok (.lload_n 3, 1) := by decide +kernel
theorem dX0_clipped_25 : decode cX0_clipped 25 = .ok (.lcmp, 1) := by decide +kernel
theorem dX0_clipped_26 : decode cX0_clipped 26 = .ok (.ifCond .ge 7, 3) := by decide +kernel
theorem dX0_clipped_29 : decode cX0_clipped 29 = .ok (.lload_n 3, 1) := by decide +kernel
theorem dX0_clipped_30 : decode cX0_clipped 30 = .ok (.goto 5, 3) := by decide +kernel
theorem dX0_clipped_33 : decode cX0_clipped 33 = .ok (.lload 5, 2) := by decide +kernel
theorem dX0_clipped_35 : decode cX0_clipped 35 = .ok (.lreturn, 1) := by decide +kernel
theorem dX0_rounded_0 : decode cX0_rounded 0 = .ok (.iload_n 3, 1) := by decide +kernel
theorem dX0_rounded_1 : decode cX0_rounded 1 = .ok (.iconst 1, 1) := by decide +kernel
theorem dX0_rounded_2 : decode cX0_rounded 2 = .ok (.if_icmp .ge 5, 3) := by decide +kernel
theorem dX0_rounded_5 : decode cX0_rounded 5 = .ok (.lload_n 1, 1) := by decide +kernel
theorem dX0_rounded_6 : decode cX0_rounded 6 = .ok (.lreturn, 1) := by decide +kernel
theorem dX0_rounded_7 : decode cX0_rounded 7 = .ok (.lconst 1, 1) := by decide +kernel
theorem dX0_rounded_8 : decode cX0_rounded 8 = .ok (.iload_n 3, 1) := by decide +kernel
theorem dX0_rounded_9 : decode cX0_rounded 9 = .ok (.iconst 1, 1) := by decide +kernel
theorem dX0_rounded_10 : decode cX0_rounded 10 = .ok (.isub, 1) := by decide +kernel
theorem dX0_rounded_11 : decode cX0_rounded 11 = .ok (.lshl, 1) := by decide +kernel
theorem dX0_rounded_12 : decode cX0_rounded 12 = .ok (.lstore 4, 2) := by decide +kernel
theorem dX0_rounded_14 : decode cX0_rounded 14 = .ok (.lload_n 1, 1) := by decide +kernel
theorem dX0_rounded_15 : decode cX0_rounded 15 = .ok (.iload_n 3, 1) := by decide +kernel
theorem dX0_rounded_16 : decode cX0_rounded 16 = .ok (.lshr, 1) := by decide +kernel
theorem dX0_rounded_17 : decode cX0_rounded 17 = .ok (.lstore 6, 2) := by decide +kernel
theorem dX0_rounded_19 : decode cX0_rounded 19 = .ok (.lload_n 1, 1) := by decide +kernel
theorem dX0_rounded_20 : decode cX0_rounded 20 = .ok (.ldc2_w 93, 3) := by decide +kernel
theorem dX0_rounded_23 : decode cX0_rounded 23 = .ok (.lload 4, 2) := by decide +kernel
theorem dX0_rounded_25 : decode cX0_rounded 25 = .ok (.lmul, 1) := by decide +kernel
theorem dX0_rounded_26 : decode cX0_rounded 26 = .ok (.lconst 1, 1) := by decide +kernel
theorem dX0_rounded_27 : decode cX0_rounded 27 = .ok (.lsub, 1) := by decide +kernel
theorem dX0_rounded_28 : decode cX0_rounded 28 = .ok (.land, 1) := by decide +kernel
theorem dX0_rounded_29 : decode cX0_rounded 29 = .ok (.lstore 8, 2) := by decide +kernel
theorem dX0_rounded_31 : decode cX0_rounded 31 = .ok (.aload_n 0, 1) := by decide +kernel
theorem dX0_rounded_32 : decode cX0_rounded 32 = .ok (.getfield 9, 3) := by decide +kernel
theorem dX0_rounded_35 : decode cX0_rounded 35 = .ok (.getfield 95, 3) := by decide +kernel
theorem dX0_rounded_38 : decode cX0_rounded 38 = .ok (.tableswitch 100 0 3 #[30, 48, 100, 83], 30) := by decide +kernel
theorem dX0_rounded_68 : decode cX0_rounded 68 = .ok (.lload 8, 2) := by decide +kernel
theorem dX0_rounded_70 : decode cX0_rounded 70 = .ok (.lload 4, 2) := by decide +kernel
theorem dX0_rounded_72 : decode cX0_rounded 72 = .ok (.lcmp, 1) := by decide +kernel
theorem dX0_rounded_73 : decode cX0_rounded 73 = .ok (.ifCond .lt 10, 3) := by decide +kernel
theorem dX0_rounded_76 : decode cX0_rounded 76 = .ok (.lload 6, 2) := by decide +kernel
theorem dX0_rounded_78 : decode cX0_rounded 78 = .ok (.lconst 1, 1) := by decide +kernel
theorem dX0_rounded_79 : decode cX0_rounded 79 = .ok (.ladd, 1) := by decide +kernel
theorem dX0_rounded_80 : decode cX0_rounded 80 = .ok (.goto 5, 3) := by decide +kernel
theorem dX0_rounded_83 : decode cX0_rounded 83 = .ok (.lload 6, 2) := by decide +kernel
theorem dX0_rounded_85 : decode cX0_rounded 85 = .ok (.lreturn, 1) := by decide +kernel
theorem dX0_rounded_86 : decode cX0_rounded 86 = .ok (.lload 8, 2) := by decide +kernel
theorem dX0_rounded_88 : decode cX0_rounded 88 = .ok (.lload 4, 2) := by decide +kernel
theorem dX0_rounded_90 : decode cX0_rounded 90 = .ok (.lcmp, 1) := by decide +kernel
theorem dX0_rounded_91 : decode cX0_rounded 91 = .ok (.ifCond .gt 20, 3) := by decide +kernel
theorem dX0_rounded_94 : decode cX0_rounded 94 = .ok (.lload 8, 2) := by decide +kernel
theorem dX0_rounded_96 : decode cX0_rounded 96 = .ok (.lload 4, 2) := by decide +kernel
theorem dX0_rounded_98 : decode cX0_rounded 98 = .ok (.lcmp, 1) := by decide +kernel
theorem dX0_rounded_99 : decode cX0_rounded 99 = .ok (.ifCond .ne 19, 3) := by decide +kernel
theorem dX0_rounded_102 : decode cX0_rounded 102 = .ok (.lload 6, 2) := by decide +kernel
theorem dX0_rounded_104 : decode cX0_rounded 104 = .ok (.lconst 1, 1) := by decide +kernel
theorem dX0_rounded_105 : decode cX0_rounded 105 = .ok (.land, 1) := by decide +kernel
theorem dX0_rounded_106 : decode cX0_rounded 106 = .ok (.lconst 1, 1) := by decide +kernel
theorem dX0_rounded_107 : decode cX0_rounded 107 = .ok (.lcmp, 1) := by decide +kernel
theorem dX0_rounded_108 : decode cX0_rounded 108 = .ok (.ifCond .ne 10, 3) := by decide +kernel
theorem dX0_rounded_111 : decode cX0_rounded 111 = .ok (.lload 6, 2) := by decide +kernel
theorem dX0_rounded_113 : decode cX0_rounded 113 = .ok (.lconst 1, 1) := by decide +kernel
theorem dX0_rounded_114 : decode cX0_rounded 114 = .ok (.ladd, 1) := by decide +kernel
theorem dX0_rounded_115 : decode cX0_rounded 115 = .ok (.goto 5, 3) := by decide +kernel
theorem dX0_rounded_118 : decode cX0_rounded 118 = .ok (.lload 6, 2) := by decide +kernel
theorem dX0_rounded_120 : decode cX0_rounded 120 = .ok (.lreturn, 1) := by decide +kernel
theorem dX0_rounded_121 : decode cX0_rounded 121 = .ok (.lload 8, 2) := by decide +kernel
theorem dX0_rounded_123 : decode cX0_rounded 123 = .ok (.lconst 0, 1) := by decide +kernel
theorem dX0_rounded_124 : decode cX0_rounded 124 = .ok (.lcmp, 1) := by decide +kernel
theorem dX0_rounded_125 : decode cX0_rounded 125 = .ok (.ifCond .eq 10, 3) := by decide +kernel
theorem dX0_rounded_128 : decode cX0_rounded 128 = .ok (.lload 6, 2) := by decide +kernel
theorem dX0_rounded_130 : decode cX0_rounded 130 = .ok (.lconst 1, 1) := by decide +kernel
theorem dX0_rounded_131 : decode cX0_rounded 131 = .ok (.lor, 1) := by decide +kernel
theorem dX0_rounded_132 : decode cX0_rounded 132 = .ok (.goto 5, 3) := by decide +kernel
theorem dX0_rounded_135 : decode cX0_rounded 135 = .ok (.lload 6, 2) := by decide +kernel
theorem dX0_rounded_137 : decode cX0_rounded 137 = .ok (.lreturn, 1) := by decide +kernel
theorem dX0_rounded_138 : decode cX0_rounded 138 = .ok (.lload 6, 2) := by decide +kernel
theorem dX0_rounded_140 : decode cX0_rounded 140 = .ok (.lreturn, 1) := by decide +kernel
theorem dX0_bit_0 : decode cX0_bit 0 = .ok (.iload_n 0, 1) := by decide +kernel
theorem dX0_bit_1 : decode cX0_bit 1 = .ok (.ifCond .eq 7, 3) := by decide +kernel
theorem dX0_bit_4 : decode cX0_bit 4 = .ok (.lconst 1, 1) := by decide +kernel
theorem dX0_bit_5 : decode cX0_bit 5 = .ok (.goto 4, 3) := by decide +kernel
theorem dX0_bit_8 : decode cX0_bit 8 = .ok (.lconst 0, 1) := by decide +kernel
theorem dX0_bit_9 : decode cX0_bit 9 = .ok (.lreturn, 1) := by decide +kernel
theorem dX1_kindOf_0 : decode cX1_kindOf 0 = .ok (.aload_n 0, 1) := by decide +kernel
theorem dX1_kindOf_1 : decode cX1_kindOf 1 = .ok (.invokevirtual 11, 3) := by decide +kernel
theorem dX1_kindOf_4 : decode cX1_kindOf 4 = .ok (.invokestatic 17, 3) := by decide +kernel
theorem dX1_kindOf_7 : decode cX1_kindOf 7 = .ok (.istore_n 1, 1) := by decide +kernel
theorem dX1_kindOf_8 : decode cX1_kindOf 8 = .ok (.iload_n 1, 1) := by decide +kernel
theorem dX1_kindOf_9 : decode cX1_kindOf 9 = .ok (.aload_n 0, 1) := by decide +kernel
theorem dX1_kindOf_10 : decode cX1_kindOf 10 = .ok (.getfield 21, 3) := by decide +kernel
theorem dX1_kindOf_13 : decode cX1_kindOf 13 = .ok (.invokestatic 25, 3) := by decide +kernel
theorem dX1_kindOf_16 : decode cX1_kindOf 16 = .ok (.iand, 1) := by decide +kernel
theorem dX1_kindOf_17 : decode cX1_kindOf 17 = .ok (.ifCond .ne 5, 3) := by decide +kernel
theorem dX1_kindOf_20 : decode cX1_kindOf 20 = .ok (.iconst 0, 1) := by decide +kernel
theorem dX1_kindOf_21 : decode cX1_kindOf 21 = .ok (.ireturn, 1) := by decide +kernel
theorem dX1_kindOf_22 : decode cX1_kindOf 22 = .ok (.aload_n 0, 1) := by decide +kernel
theorem dX1_kindOf_23 : decode cX1_kindOf 23 = .ok (.iload_n 1, 1) := by decide +kernel
theorem dX1_kindOf_24 : decode cX1_kindOf 24 = .ok (.bipush 31, 2) := by decide +kernel
theorem dX1_kindOf_26 : decode cX1_kindOf 26 = .ok (.iand, 1) := by decide +kernel
theorem dX1_kindOf_27 : decode cX1_kindOf 27 = .ok (.invokestatic 28, 3) := by decide +kernel
theorem dX1_kindOf_30 : decode cX1_kindOf 30 = .ok (.istore_n 2, 1) := by decide +kernel
theorem dX1_kindOf_31 : decode cX1_kindOf 31 = .ok (.aload_n 0, 1) := by decide +kernel
theorem dX1_kindOf_32 : decode cX1_kindOf 32 = .ok (.iload_n 2, 1) := by decide +kernel
theorem dX1_kindOf_33 : decode cX1_kindOf 33 = .ok (.invokestatic 32, 3) := by decide +kernel
theorem dX1_kindOf_36 : decode cX1_kindOf 36 = .ok (.ifCond .eq 7, 3) := by decide +kernel
theorem dX1_kindOf_39 : decode cX1_kindOf 39 = .ok (.iload_n 2, 1) := by decide +kernel
theorem dX1_kindOf_40 : decode cX1_kindOf 40 = .ok (.goto 4, 3) := by decide +kernel
theorem dX1_kindOf_43 : decode cX1_kindOf 43 = .ok (.iconst 0, 1) := by decide +kernel
theorem dX1_kindOf_44 : decode cX1_kindOf 44 = .ok (.ireturn, 1) := by decide +kernel
theorem dX1_entryOf_0 : decode cX1_entryOf 0 = .ok (.iload_n 0, 1) := by decide +kernel
theorem dX1_entryOf_1 : decode cX1_entryOf 1 = .ok (.ifCond .lt 19, 3) := by decide +kernel
theorem dX1_entryOf_4 : decode cX1_entryOf 4 = .ok (.iload_n 0, 1) := by decide +kernel
theorem dX1_entryOf_5 : decode cX1_entryOf 5 = .ok (.getstatic 36, 3) := by decide +kernel
theorem dX1_entryOf_8 : decode cX1_entryOf 8 = .ok (.arraylength, 1) := by decide +kernel
theorem dX1_entryOf_9 : decode cX1_entryOf 9 = .ok (.if_icmp .ge 11, 3) := by decide +kernel
theorem dX1_entryOf_12 : decode cX1_entryOf 12 = .ok (.getstatic 36, 3) := by decide +kernel
theorem dX1_entryOf_15 : decode cX1_entryOf 15 = .ok (.iload_n 0, 1) := by decide +kernel
theorem dX1_entryOf_16 : decode cX1_entryOf 16 = .ok (.iaload, 1) := by decide +kernel
theorem dX1_entryOf_17 : decode cX1_entryOf 17 = .ok (.goto 4, 3) := by decide +kernel
theorem dX1_entryOf_20 : decode cX1_entryOf 20 = .ok (.iconst 0, 1) := by decide +kernel
theorem dX1_entryOf_21 : decode cX1_entryOf 21 = .ok (.ireturn, 1) := by decide +kernel
theorem dX1_formBit_0 : decode cX1_formBit 0 = .ok (.iload_n 0, 1) := by decide +kernel
theorem dX1_formBit_1 : decode cX1_formBit 1 = .ok (.tableswitch 53 0 6 #[43, 53, 43, 49, 46, 53, 46], 43) := by decide +kernel
theorem dX1_formBit_44 : decode cX1_formBit 44 = .ok (.bipush 32, 2) := by decide +kernel
theorem dX1_formBit_46 : decode cX1_formBit 46 = .ok (.ireturn, 1) := by decide +kernel
theorem dX1_formBit_47 : decode cX1_formBit 47 = .ok (.bipush 64, 2) := by decide +kernel
theorem dX1_formBit_49 : decode cX1_formBit 49 = .ok (.ireturn, 1) := by decide +kernel
theorem dX1_formBit_50 : decode cX1_formBit 50 = .ok (.sipush 128, 3) := by decide +kernel
theorem dX1_formBit_53 : decode cX1_formBit 53 = .ok (.ireturn, 1) := by decide +kernel
theorem dX1_formBit_54 : decode cX1_formBit 54 = .ok (.iconst 0, 1) := by decide +kernel
theorem dX1_formBit_55 : decode cX1_formBit 55 = .ok (.ireturn, 1) := by decide +kernel
theorem dX1_refined_0 : decode cX1_refined 0 = .ok (.aload_n 0, 1) := by decide +kernel
theorem dX1_refined_1 : decode cX1_refined 1 = .ok (.invokevirtual 11, 3) := by decide +kernel
theorem dX1_refined_4 : decode cX1_refined 4 = .ok (.lookupswitch 151 #[(14, 52), (39, 66), (80, 85), (82, 116), (84, 139)], 52) := by decide +kernel
theorem dX1_refined_56 : decode cX1_refined 56 = .ok (.aload_n 0, 1) := by decide +kernel
theorem dX1_refined_57 : decode cX1_refined 57 = .ok (.invokevirtual 40, 3) := by decide +kernel
theorem dX1_refined_60 : decode cX1_refined 60 = .ok (.ifCond .eq 8, 3) := by decide +kernel
theorem dX1_refined_63 : decode cX1_refined 63 = .ok (.bipush 24, 2) := by decide +kernel
theorem dX1_refined_65 : decode cX1_refined 65 = .ok (.goto 4, 3) := by decide +kernel
theorem dX1_refined_68 : decode cX1_refined 68 = .ok (.iload_n 1, 1) := by decide +kernel
theorem dX1_refined_69 : decode cX1_refined 69 = .ok (.ireturn, 1) := by decide +kernel
theorem dX1_refined_70 : decode cX1_refined 70 = .ok (.aload_n 0, 1) := by decide +kernel
theorem dX1_refined_71 : decode cX1_refined 71 = .ok (.invokevirtual 44, 3) := by decide +kernel
theorem dX1_refined_74 : decode cX1_refined 74 = .ok (.ifCond .eq 13, 3) := by decide +kernel
theorem dX1_refined_77 : decode cX1_refined 77 = .ok (.aload_n 0, 1) := by decide +kernel
theorem dX1_refined_78 : decode cX1_refined 78 = .ok (.getfield 47, 3) := by decide +kernel
theorem dX1_refined_81 : decode cX1_refined 81 = .ok (.invokestatic 50, 3) := by decide +kernel
theorem dX1_refined_84 : decode cX1_refined 84 = .ok (.goto 4, 3) := by decide +kernel
theorem dX1_refined_87 : decode cX1_refined 87 = .ok (.iload_n 1, 1) := by decide +kernel
theorem dX1_refined_88 : decode cX1_refined 88 = .ok (.ireturn, 1) := by decide +kernel
theorem dX1_refined_89 : decode cX1_refined 89 = .ok (.aload_n 0, 1) := by decide +kernel
theorem dX1_refined_90 : decode cX1_refined 90 = .ok (.invokevirtual 40, 3) := by decide +kernel
theorem dX1_refined_93 : decode cX1_refined 93 = .ok (.ifCond .eq 13, 3) := by decide +kernel
theorem dX1_refined_96 : decode cX1_refined 96 = .ok (.aload_n 0, 1) := by decide +kernel
theorem dX1_refined_97 : decode cX1_refined 97 = .ok (.getfield 47, 3) := by decide +kernel
theorem dX1_refined_100 : decode cX1_refined 100 = .ok (.invokestatic 53, 3) := by decide +kernel
theorem dX1_refined_103 : decode cX1_refined 103 = .ok (.goto 16, 3) := by decide +kernel
theorem dX1_refined_106 : decode cX1_refined 106 = .ok (.aload_n 0, 1) := by decide +kernel
theorem dX1_refined_107 : decode cX1_refined 107 = .ok (.getfield 56, 3) := by decide +kernel
theorem dX1_refined_110 : decode cX1_refined 110 = .ok (.ifCond .ne 8, 3) := by decide +kernel
theorem dX1_refined_113 : decode cX1_refined 113 = .ok (.bipush 18, 2) := by decide +kernel
theorem dX1_refined_115 : decode cX1_refined 115 = .ok (.goto 4, 3) := by decide +kernel
theorem dX1_refined_118 : decode cX1_refined 118 = .ok (.iconst 0, 1) := by decide +kernel
theorem dX1_refined_119 : decode cX1_refined 119 = .ok (.ireturn, 1) := by decide +kernel
theorem dX1_refined_120 : decode cX1_refined 120 = .ok (.aload_n 0, 1) := by decide +kernel
theorem dX1_refined_121 : decode cX1_refined 121 = .ok (.getfield 47, 3) := by decide +kernel
theorem dX1_refined_124 : decode cX1_refined 124 = .ok (.iconst 4, 1) := by decide +kernel
theorem dX1_refined_125 : decode cX1_refined 125 = .ok (.if_icmp .lt 16, 3) := by decide +kernel
theorem dX1_refined_128 : decode cX1_refined 128 = .ok (.aload_n 0, 1) := by decide +kernel
theorem dX1_refined_129 : decode cX1_refined 129 = .ok (.getfield 47, 3) := by decide +kernel
theorem dX1_refined_132 : decode cX1_refined 132 = .ok (.bipush 7, 2) := by decide +kernel
theorem dX1_refined_134 : decode cX1_refined 134 = .ok (.if_icmp .gt 7, 3) := by decide +kernel
theorem dX1_refined_137 : decode cX1_refined 137 = .ok (.iload_n 1, 1) := by decide +kernel
theorem dX1_refined_138 : decode cX1_refined 138 = .ok (.goto 4, 3) := by decide +kernel
theorem dX1_refined_141 : decode cX1_refined 141 = .ok (.iconst 0, 1) := by decide +kernel
theorem dX1_refined_142 : decode cX1_refined 142 = .ok (.ireturn, 1) := by decide +kernel
theorem dX1_refined_143 : decode cX1_refined 143 = .ok (.aload_n 0, 1) := by decide +kernel
theorem dX1_refined_144 : decode cX1_refined 144 = .ok (.getfield 47, 3) := by decide +kernel
theorem dX1_refined_147 : decode cX1_refined 147 = .ok (.aload_n 0, 1) := by decide +kernel
theorem dX1_refined_148 : decode cX1_refined 148 = .ok (.getfield 56, 3) := by decide +kernel
theorem dX1_refined_151 : decode cX1_refined 151 = .ok (.invokestatic 59, 3) := by decide +kernel
theorem dX1_refined_154 : decode cX1_refined 154 = .ok (.ireturn, 1) := by decide +kernel
theorem dX1_refined_155 : decode cX1_refined 155 = .ok (.iload_n 1, 1) := by decide +kernel
theorem dX1_refined_156 : decode cX1_refined 156 = .ok (.ireturn, 1) := by decide +kernel
theorem dX1_wholeMove_0 : decode cX1_wholeMove 0 = .ok (.iload_n 0, 1) := by decide +kernel
theorem dX1_wholeMove_1 : decode cX1_wholeMove 1 = .ok (.ifCond .eq 19, 3) := by decide +kernel
theorem dX1_wholeMove_4 : decode cX1_wholeMove 4 = .ok (.iload_n 0, 1) := by decide +kernel
theorem dX1_wholeMove_5 : decode cX1_wholeMove 5 = .ok (.iconst 1, 1) := by decide +kernel
theorem dX1_wholeMove_6 : decode cX1_wholeMove 6 = .ok (.if_icmp .eq 14, 3) := by decide +kernel
theorem dX1_wholeMove_9 : decode cX1_wholeMove 9 = .ok (.iload_n 0, 1) := by decide +kernel
theorem dX1_wholeMove_10 : decode cX1_wholeMove 10 = .ok (.iconst 3, 1) := by decide +kernel
theorem dX1_wholeMove_11 : decode cX1_wholeMove 11 = .ok (.if_icmp .eq 9, 3) := by decide +kernel
theorem dX1_wholeMove_14 : decode cX1_wholeMove 14 = .ok (.iload_n 0, 1) := by decide +kernel
theorem dX1_wholeMove_15 : decode cX1_wholeMove 15 = .ok (.bipush 7, 2) := by decide +kernel
theorem dX1_wholeMove_17 : decode cX1_wholeMove 17 = .ok (.if_icmp .ne 8, 3) := by decide +kernel
theorem dX1_wholeMove_20 : decode cX1_wholeMove 20 = .ok (.bipush 26, 2) := by decide +kernel
theorem dX1_wholeMove_22 : decode cX1_wholeMove 22 = .ok (.goto 4, 3) := by decide +kernel
theorem dX1_wholeMove_25 : decode cX1_wholeMove 25 = .ok (.iconst 0, 1) := by decide +kernel
theorem dX1_wholeMove_26 : decode cX1_wholeMove 26 = .ok (.ireturn, 1) := by decide +kernel
theorem dX1_intoScalar_0 : decode cX1_intoScalar 0 = .ok (.iload_n 0, 1) := by decide +kernel
theorem dX1_intoScalar_1 : decode cX1_intoScalar 1 = .ok (.lookupswitch 44 #[(0, 35), (16, 38), (17, 41)], 35) := by decide +kernel
theorem dX1_intoScalar_36 : decode cX1_intoScalar 36 = .ok (.bipush 17, 2) := by decide +kernel
theorem dX1_intoScalar_38 : decode cX1_intoScalar 38 = .ok (.ireturn, 1) := by decide +kernel
theorem dX1_intoScalar_39 : decode cX1_intoScalar 39 = .ok (.bipush 13, 2) := by decide +kernel
theorem dX1_intoScalar_41 : decode cX1_intoScalar 41 = .ok (.ireturn, 1) := by decide +kernel
theorem dX1_intoScalar_42 : decode cX1_intoScalar 42 = .ok (.bipush 13, 2) := by decide +kernel
theorem dX1_intoScalar_44 : decode cX1_intoScalar 44 = .ok (.ireturn, 1) := by decide +kernel
theorem dX1_intoScalar_45 : decode cX1_intoScalar 45 = .ok (.iconst 0, 1) := by decide +kernel
theorem dX1_intoScalar_46 : decode cX1_intoScalar 46 = .ok (.ireturn, 1) := by decide +kernel
theorem dX1_fromMask_0 : decode cX1_fromMask 0 = .ok (.iload_n 0, 1) := by decide +kernel
theorem dX1_fromMask_1 : decode cX1_fromMask 1 = .ok (.lookupswitch 74 #[(1, 51), (2, 54), (3, 57), (16, 60), (17, 63)], 51) := by decide +kernel
theorem dX1_fromMask_52 : decode cX1_fromMask 52 = .ok (.bipush 14, 2) := by decide +kernel
theorem dX1_fromMask_54 : decode cX1_fromMask 54 = .ok (.ireturn, 1) := by decide +kernel
theorem dX1_fromMask_55 : decode cX1_fromMask 55 = .ok (.bipush 14, 2) := by decide +kernel
theorem dX1_fromMask_57 : decode cX1_fromMask 57 = .ok (.ireturn, 1) := by decide +kernel
theorem dX1_fromMask_58 : decode cX1_fromMask 58 = .ok (.bipush 14, 2) := by decide +kernel
theorem dX1_fromMask_60 : decode cX1_fromMask 60 = .ok (.ireturn, 1) := by decide +kernel
theorem dX1_fromMask_61 : decode cX1_fromMask 61 = .ok (.bipush 15, 2) := by decide +kernel
theorem dX1_fromMask_63 : decode cX1_fromMask 63 = .ok (.ireturn, 1) := by decide +kernel
theorem dX1_fromMask_64 : decode cX1_fromMask 64 = .ok (.iload_n 1, 1) := by decide +kernel
theorem dX1_fromMask_65 : decode cX1_fromMask 65 = .ok (.ifCond .ne 8, 3) := by decide +kernel
theorem dX1_fromMask_68 : decode cX1_fromMask 68 = .ok (.bipush 16, 2) := by decide +kernel
theorem dX1_fromMask_70 : decode cX1_fromMask 70 = .ok (.goto 4, 3) := by decide +kernel
theorem dX1_fromMask_73 : decode cX1_fromMask 73 = .ok (.iconst 0, 1) := by decide +kernel
theorem dX1_fromMask_74 : decode cX1_fromMask 74 = .ok (.ireturn, 1) := by decide +kernel
theorem dX1_fromMask_75 : decode cX1_fromMask 75 = .ok (.iconst 0, 1) := by decide +kernel
theorem dX1_fromMask_76 : decode cX1_fromMask 76 = .ok (.ireturn, 1) := by decide +kernel
theorem dX1_isMaskBitRight_0 : decode cX1_isMaskBitRight 0 = .ok (.iload_n 1, 1) := by decide +kernel
theorem dX1_isMaskBitRight_1 : decode cX1_isMaskBitRight 1 = .ok (.tableswitch 149 3 26 #[111, 149, 116, 149, 149, 149, 149, 149, 149, 136, 149, 149, 149, 149, 136, 136, 149, 149, 149, 149, 149, 149, 136, 136], 111) := by decide +kernel
theorem dX1_isMaskBitRight_112 : decode cX1_isMaskBitRight 112 = .ok (.aload_n 0, 1) := by decide +kernel
theorem dX1_isMaskBitRight_113 : decode cX1_isMaskBitRight 113 = .ok (.getfield 63, 3) := by decide +kernel
theorem dX1_isMaskBitRight_116 : decode cX1_isMaskBitRight 116 = .ok (.ireturn, 1) := by decide +kernel
theorem dX1_isMaskBitRight_117 : decode cX1_isMaskBitRight 117 = .ok (.aload_n 0, 1) := by decide +kernel
theorem dX1_isMaskBitRight_118 : decode cX1_isMaskBitRight 118 = .ok (.getfield 63, 3) := by decide +kernel
theorem dX1_isMaskBitRight_121 : decode cX1_isMaskBitRight 121 = .ok (.ifCond .ne 10, 3) := by decide +kernel
theorem dX1_isMaskBitRight_124 : decode cX1_isMaskBitRight 124 = .ok (.aload_n 0, 1) := by decide +kernel
theorem dX1_isMaskBitRight_125 : decode cX1_isMaskBitRight 125 = .ok (.getfield 56, 3) := by decide +kernel
theorem dX1_isMaskBitRight_128 : decode cX1_isMaskBitRight 128 = .ok (.ifCond .ne 7, 3) := by decide +kernel
theorem dX1_isMaskBitRight_131 : decode cX1_isMaskBitRight 131 = .ok (.iconst 1, 1) := by decide +kernel
theorem dX1_isMaskBitRight_132 : decode cX1_isMaskBitRight 132 = .ok (.goto 4, 3) := by decide +kernel
theorem dX1_isMaskBitRight_135 : decode cX1_isMaskBitRight 135 = .ok (.iconst 0, 1) := by decide +kernel
theorem dX1_isMaskBitRight_136 : decode cX1_isMaskBitRight 136 = .ok (.ireturn, 1) := by decide +kernel
theorem dX1_isMaskBitRight_137 : decode cX1_isMaskBitRight 137 = .ok (.aload_n 0, 1) := by decide +kernel
theorem dX1_isMaskBitRight_138 : decode cX1_isMaskBitRight 138 = .ok (.getfield 63, 3) := by decide +kernel
theorem dX1_isMaskBitRight_141 : decode cX1_isMaskBitRight 141 = .ok (.ifCond .ne 7, 3) := by decide +kernel
theorem dX1_isMaskBitRight_144 : decode cX1_isMaskBitRight 144 = .ok (.iconst 1, 1) := by decide +kernel
theorem dX1_isMaskBitRight_145 : decode cX1_isMaskBitRight 145 = .ok (.goto 4, 3) := by decide +kernel
theorem dX1_isMaskBitRight_148 : decode cX1_isMaskBitRight 148 = .ok (.iconst 0, 1) := by decide +kernel
theorem dX1_isMaskBitRight_149 : decode cX1_isMaskBitRight 149 = .ok (.ireturn, 1) := by decide +kernel
theorem dX1_isMaskBitRight_150 : decode cX1_isMaskBitRight 150 = .ok (.iconst 1, 1) := by decide +kernel
theorem dX1_isMaskBitRight_151 : decode cX1_isMaskBitRight 151 = .ok (.ireturn, 1) := by decide +kernel
theorem dX2_init_0 : decode cX2_init 0 = .ok (.aload_n 0, 1) := by decide +kernel
theorem dX2_init_1 : decode cX2_init 1 = .ok (.invokespecial 3, 3) := by decide +kernel
theorem dX2_init_4 : decode cX2_init 4 = .ok (.aload_n 0, 1) := by decide +kernel
theorem dX2_init_5 : decode cX2_init 5 = .ok (.aload_n 1, 1) := by decide +kernel
theorem dX2_init_6 : decode cX2_init 6 = .ok (.putfield 9, 3) := by decide +kernel
theorem dX2_init_9 : decode cX2_init 9 = .ok (.aload_n 0, 1) := by decide +kernel
theorem dX2_init_10 : decode cX2_init 10 = .ok (.iconst 1, 1) := by decide +kernel
theorem dX2_init_11 : decode cX2_init 11 = .ok (.putfield 15, 3) := by decide +kernel
theorem dX2_init_14 : decode cX2_init 14 = .ok (.aload_n 0, 1) := by decide +kernel
theorem dX2_init_15 : decode cX2_init 15 = .ok (.bipush 8, 2) := by decide +kernel
theorem dX2_init_17 : decode cX2_init 17 = .ok (.putfield 19, 3) := by decide +kernel
theorem dX2_init_20 : decode cX2_init 20 = .ok (.aload_n 0, 1) := by decide +kernel
theorem dX2_init_21 : decode cX2_init 21 = .ok (.iconst 1, 1) := by decide +kernel
theorem dX2_init_22 : decode cX2_init 22 = .ok (.putfield 22, 3) := by decide +kernel
theorem dX2_init_25 : decode cX2_init 25 = .ok (.aload_n 0, 1) := by decide +kernel
theorem dX2_init_26 : decode cX2_init 26 = .ok (.lconst 1, 1) := by decide +kernel
theorem dX2_init_27 : decode cX2_init 27 = .ok (.putfield 25, 3) := by decide +kernel
theorem dX2_init_30 : decode cX2_init 30 = .ok (.return_, 1) := by decide +kernel
theorem dX2_cover_0 : decode cX2_cover 0 = .ok (.aload_n 0, 1) := by decide +kernel
theorem dX2_cover_1 : decode cX2_cover 1 = .ok (.iload_n 1, 1) := by decide +kernel
theorem dX2_cover_2 : decode cX2_cover 2 = .ok (.putfield 29, 3) := by decide +kernel
theorem dX2_cover_5 : decode cX2_cover 5 = .ok (.aload_n 0, 1) := by decide +kernel
theorem dX2_cover_6 : decode cX2_cover 6 = .ok (.iload_n 2, 1) := by decide +kernel
theorem dX2_cover_7 : decode cX2_cover 7 = .ok (.putfield 15, 3) := by decide +kernel
theorem dX2_cover_10 : decode cX2_cover 10 = .ok (.aload_n 0, 1) := by decide +kernel
theorem dX2_cover_11 : decode cX2_cover 11 = .ok (.iload_n 3, 1) := by decide +kernel
theorem dX2_cover_12 : decode cX2_cover 12 = .ok (.putfield 19, 3) := by decide +kernel
theorem dX2_cover_15 : decode cX2_cover 15 = .ok (.aload_n 0, 1) := by decide +kernel
theorem dX2_cover_16 : decode cX2_cover 16 = .ok (.iload_n 3, 1) := by decide +kernel
theorem dX2_cover_17 : decode cX2_cover 17 = .ok (.bipush 8, 2) := by decide +kernel
theorem dX2_cover_19 : decode cX2_cover 19 = .ok (.if_icmp .le 10, 3) := by decide +kernel
theorem dX2_cover_22 : decode cX2_cover 22 = .ok (.iload_n 3, 1) := by decide +kernel
theorem dX2_cover_23 : decode cX2_cover 23 = .ok (.bipush 8, 2) := by decide +kernel
theorem dX2_cover_25 : decode cX2_cover 25 = .ok (.idiv, 1) := by decide +kernel
theorem dX2_cover_26 : decode cX2_cover 26 = .ok (.goto 4, 3) := by decide +kernel
theorem dX2_cover_29 : decode cX2_cover 29 = .ok (.iconst 1, 1) := by decide +kernel
theorem dX2_cover_30 : decode cX2_cover 30 = .ok (.putfield 22, 3) := by decide +kernel
theorem dX2_cover_33 : decode cX2_cover 33 = .ok (.aload_n 0, 1) := by decide +kernel
theorem dX2_cover_34 : decode cX2_cover 34 = .ok (.iload_n 2, 1) := by decide +kernel
theorem dX2_cover_35 : decode cX2_cover 35 = .ok (.invokestatic 32, 3) := by decide +kernel
theorem dX2_cover_38 : decode cX2_cover 38 = .ok (.putfield 25, 3) := by decide +kernel
theorem dX2_cover_41 : decode cX2_cover 41 = .ok (.return_, 1) := by decide +kernel
theorem dX2_isLegal_0 : decode cX2_isLegal 0 = .ok (.aload_n 0, 1) := by decide +kernel
theorem dX2_isLegal_1 : decode cX2_isLegal 1 = .ok (.getfield 15, 3) := by decide +kernel
theorem dX2_isLegal_4 : decode cX2_isLegal 4 = .ok (.iconst 1, 1) := by decide +kernel
theorem dX2_isLegal_5 : decode cX2_isLegal 5 = .ok (.if_icmp .eq 30, 3) := by decide +kernel
theorem dX2_isLegal_8 : decode cX2_isLegal 8 = .ok (.aload_n 0, 1) := by decide +kernel
theorem dX2_isLegal_9 : decode cX2_isLegal 9 = .ok (.getfield 15, 3) := by decide +kernel
theorem dX2_isLegal_12 : decode cX2_isLegal 12 = .ok (.bipush 8, 2) := by decide +kernel
theorem dX2_isLegal_14 : decode cX2_isLegal 14 = .ok (.if_icmp .eq 21, 3) := by decide +kernel
theorem dX2_isLegal_17 : decode cX2_isLegal 17 = .ok (.aload_n 0, 1) := by decide +kernel
theorem dX2_isLegal_18 : decode cX2_isLegal 18 = .ok (.getfield 15, 3) := by decide +kernel
theorem dX2_isLegal_21 : decode cX2_isLegal 21 = .ok (.bipush 16, 2) := by decide +kernel
theorem dX2_isLegal_23 : decode cX2_isLegal 23 = .ok (.if_icmp .eq 12, 3) := by decide +kernel
theorem dX2_isLegal_26 : decode cX2_isLegal 26 = .ok (.aload_n 0, 1) := by decide +kernel
theorem dX2_isLegal_27 : decode cX2_isLegal 27 = .ok (.getfield 15, 3) := by decide +kernel
theorem dX2_isLegal_30 : decode cX2_isLegal 30 = .ok (.bipush 32, 2) := by decide +kernel
theorem dX2_isLegal_32 : decode cX2_isLegal 32 = .ok (.if_icmp .ne 7, 3) := by decide +kernel
theorem dX2_isLegal_35 : decode cX2_isLegal 35 = .ok (.iconst 1, 1) := by decide +kernel
theorem dX2_isLegal_36 : decode cX2_isLegal 36 = .ok (.goto 4, 3) := by decide +kernel
theorem dX2_isLegal_39 : decode cX2_isLegal 39 = .ok (.iconst 0, 1) := by decide +kernel
theorem dX2_isLegal_40 : decode cX2_isLegal 40 = .ok (.istore_n 1, 1) := by decide +kernel
theorem dX2_isLegal_41 : decode cX2_isLegal 41 = .ok (.iload_n 1, 1) := by decide +kernel
theorem dX2_isLegal_42 : decode cX2_isLegal 42 = .ok (.ifCond .eq 38, 3) := by decide +kernel
theorem dX2_isLegal_45 : decode cX2_isLegal 45 = .ok (.aload_n 0, 1) := by decide +kernel
theorem dX2_isLegal_46 : decode cX2_isLegal 46 = .ok (.getfield 19, 3) := by decide +kernel
theorem dX2_isLegal_49 : decode cX2_isLegal 49 = .ok (.iconst 1, 1) := by decide +kernel
theorem dX2_isLegal_50 : decode cX2_isLegal 50 = .ok (.if_icmp .lt 30, 3) := by decide +kernel
theorem dX2_isLegal_53 : decode cX2_isLegal 53 = .ok (.aload_n 0, 1) := by decide +kernel
theorem dX2_isLegal_54 : decode cX2_isLegal 54 = .ok (.getfield 19, 3) := by decide +kernel
theorem dX2_isLegal_57 : decode cX2_isLegal 57 = .ok (.bipush 64, 2) := by decide +kernel
theorem dX2_isLegal_59 : decode cX2_isLegal 59 = .ok (.if_icmp .gt 21, 3) := by decide +kernel
theorem dX2_isLegal_62 : decode cX2_isLegal 62 = .ok (.aload_n 0, 1) := by decide +kernel
theorem dX2_isLegal_63 : decode cX2_isLegal 63 = .ok (.getfield 29, 3) := by decide +kernel
theorem dX2_isLegal_66 : decode cX2_isLegal 66 = .ok (.aload_n 0, 1) := by decide +kernel
theorem dX2_isLegal_67 : decode cX2_isLegal 67 = .ok (.getfield 22, 3) := by decide +kernel
theorem dX2_isLegal_70 : decode cX2_isLegal 70 = .ok (.iconst 1, 1) := by decide +kernel
theorem dX2_isLegal_71 : decode cX2_isLegal 71 = .ok (.isub, 1) := by decide +kernel
theorem dX2_isLegal_72 : decode cX2_isLegal 72 = .ok (.iand, 1) := by decide +kernel
theorem dX2_isLegal_73 : decode cX2_isLegal 73 = .ok (.ifCond .ne 7, 3) := by decide +kernel
theorem dX2_isLegal_76 : decode cX2_isLegal 76 = .ok (.iconst 1, 1) := by decide +kernel
theorem dX2_isLegal_77 : decode cX2_isLegal 77 = .ok (.goto 4, 3) := by decide +kernel
theorem dX2_isLegal_80 : decode cX2_isLegal 80 = .ok (.iconst 0, 1) := by decide +kernel
theorem dX2_isLegal_81 : decode cX2_isLegal 81 = .ok (.ireturn, 1) := by decide +kernel
theorem dX2_meets_0 : decode cX2_meets 0 = .ok (.aload_n 0, 1) := by decide +kernel
theorem dX2_meets_1 : decode cX2_meets 1 = .ok (.getfield 29, 3) := by decide +kernel
theorem dX2_meets_4 : decode cX2_meets 4 = .ok (.aload_n 1, 1) := by decide +kernel
theorem dX2_meets_5 : decode cX2_meets 5 = .ok (.getfield 29, 3) := by decide +kernel
theorem dX2_meets_8 : decode cX2_meets 8 = .ok (.aload_n 1, 1) := by decide +kernel
theorem dX2_meets_9 : decode cX2_meets 9 = .ok (.getfield 22, 3) := by decide +kernel
theorem dX2_meets_12 : decode cX2_meets 12 = .ok (.iadd, 1) := by decide +kernel
theorem dX2_meets_13 : decode cX2_meets 13 = .ok (.if_icmp .ge 23, 3) := by decide +kernel
theorem dX2_meets_16 : decode cX2_meets 16 = .ok (.aload_n 1, 1) := by decide +kernel
theorem dX2_meets_17 : decode cX2_meets 17 = .ok (.getfield 29, 3) := by decide +kernel
theorem dX2_meets_20 : decode cX2_meets 20 = .ok (.aload_n 0, 1) := by decide +kernel
theorem dX2_meets_21 : decode cX2_meets 21 = .ok (.getfield 29, 3) := by decide +kernel
theorem dX2_meets_24 : decode cX2_meets 24 = .ok (.aload_n 0, 1) := by decide +kernel
theorem dX2_meets_25 : decode cX2_meets 25 = .ok (.getfield 22, 3) := by decide +kernel
theorem dX2_meets_28 : decode cX2_meets 28 = .ok (.iadd, 1) := by decide +kernel
theorem dX2_meets_29 : decode cX2_meets 29 = .ok (.if_icmp .ge 7, 3) := by decide +kernel
theorem dX2_meets_32 : decode cX2_meets 32 = .ok (.iconst 1, 1) := by decide +kernel
theorem dX2_meets_33 : decode cX2_meets 33 = .ok (.goto 4, 3) := by decide +kernel
theorem dX2_meets_36 : decode cX2_meets 36 = .ok (.iconst 0, 1) := by decide +kernel
theorem dX2_meets_37 : decode cX2_meets 37 = .ok (.ireturn, 1) := by decide +kernel
theorem dX2_mayOverwrite_0 : decode cX2_mayOverwrite 0 = .ok (.aload_n 0, 1) := by decide +kernel
theorem dX2_mayOverwrite_1 : decode cX2_mayOverwrite 1 = .ok (.aload_n 1, 1) := by decide +kernel
theorem dX2_mayOverwrite_2 : decode cX2_mayOverwrite 2 = .ok (.invokevirtual 36, 3) := by decide +kernel
theorem dX2_mayOverwrite_5 : decode cX2_mayOverwrite 5 = .ok (.ifCond .eq 14, 3) := by decide +kernel
theorem dX2_mayOverwrite_8 : decode cX2_mayOverwrite 8 = .ok (.aload_n 0, 1) := by decide +kernel
theorem dX2_mayOverwrite_9 : decode cX2_mayOverwrite 9 = .ok (.getfield 15, 3) := by decide +kernel
theorem dX2_mayOverwrite_12 : decode cX2_mayOverwrite 12 = .ok (.aload_n 1, 1) := by decide +kernel
theorem dX2_mayOverwrite_13 : decode cX2_mayOverwrite 13 = .ok (.getfield 15, 3) := by decide +kernel
theorem dX2_mayOverwrite_16 : decode cX2_mayOverwrite 16 = .ok (.if_icmp .ne 5, 3) := by decide +kernel
theorem dX2_mayOverwrite_19 : decode cX2_mayOverwrite 19 = .ok (.iconst 1, 1) := by decide +kernel
theorem dX2_mayOverwrite_20 : decode cX2_mayOverwrite 20 = .ok (.ireturn, 1) := by decide +kernel
theorem dX2_mayOverwrite_21 : decode cX2_mayOverwrite 21 = .ok (.aload_n 0, 1) := by decide +kernel
theorem dX2_mayOverwrite_22 : decode cX2_mayOverwrite 22 = .ok (.getfield 15, 3) := by decide +kernel
theorem dX2_mayOverwrite_25 : decode cX2_mayOverwrite 25 = .ok (.aload_n 1, 1) := by decide +kernel
theorem dX2_mayOverwrite_26 : decode cX2_mayOverwrite 26 = .ok (.getfield 15, 3) := by decide +kernel
theorem dX2_mayOverwrite_29 : decode cX2_mayOverwrite 29 = .ok (.if_icmp .ge 20, 3) := by decide +kernel
theorem dX2_mayOverwrite_32 : decode cX2_mayOverwrite 32 = .ok (.aload_n 0, 1) := by decide +kernel
theorem dX2_mayOverwrite_33 : decode cX2_mayOverwrite 33 = .ok (.getfield 29, 3) := by decide +kernel
theorem dX2_mayOverwrite_36 : decode cX2_mayOverwrite 36 = .ok (.aload_n 1, 1) := by decide +kernel
theorem dX2_mayOverwrite_37 : decode cX2_mayOverwrite 37 = .ok (.getfield 29, 3) := by decide +kernel
theorem dX2_mayOverwrite_40 : decode cX2_mayOverwrite 40 = .ok (.if_icmp .ne 7, 3) := by decide +kernel
theorem dX2_mayOverwrite_43 : decode cX2_mayOverwrite 43 = .ok (.iconst 1, 1) := by decide +kernel
theorem dX2_mayOverwrite_44 : decode cX2_mayOverwrite 44 = .ok (.goto 4, 3) := by decide +kernel
theorem dX2_mayOverwrite_47 : decode cX2_mayOverwrite 47 = .ok (.iconst 0, 1) := by decide +kernel
theorem dX2_mayOverwrite_48 : decode cX2_mayOverwrite 48 = .ok (.ireturn, 1) := by decide +kernel
theorem dX2_mayOverwrite_49 : decode cX2_mayOverwrite 49 = .ok (.aload_n 1, 1) := by decide +kernel
theorem dX2_mayOverwrite_50 : decode cX2_mayOverwrite 50 = .ok (.getfield 19, 3) := by decide +kernel
theorem dX2_mayOverwrite_53 : decode cX2_mayOverwrite 53 = .ok (.bipush 8, 2) := by decide +kernel
theorem dX2_mayOverwrite_55 : decode cX2_mayOverwrite 55 = .ok (.if_icmp .lt 28, 3) := by decide +kernel
theorem dX2_mayOverwrite_58 : decode cX2_mayOverwrite 58 = .ok (.aload_n 0, 1) := by decide +kernel
theorem dX2_mayOverwrite_59 : decode cX2_mayOverwrite 59 = .ok (.getfield 29, 3) := by decide +kernel
theorem dX2_mayOverwrite_62 : decode cX2_mayOverwrite 62 = .ok (.aload_n 0, 1) := by decide +kernel
theorem dX2_mayOverwrite_63 : decode cX2_mayOverwrite 63 = .ok (.getfield 22, 3) := by decide +kernel
theorem dX2_mayOverwrite_66 : decode cX2_mayOverwrite 66 = .ok (.iadd, 1) := by decide +kernel
theorem dX2_mayOverwrite_67 : decode cX2_mayOverwrite 67 = .ok (.aload_n 1, 1) := by decide +kernel
theorem dX2_mayOverwrite_68 : decode cX2_mayOverwrite 68 = .ok (.getfield 29, 3) := by decide +kernel
theorem dX2_mayOverwrite_71 : decode cX2_mayOverwrite 71 = .ok (.aload_n 1, 1) := by decide +kernel
theorem dX2_mayOverwrite_72 : decode cX2_mayOverwrite 72 = .ok (.getfield 22, 3) := by decide +kernel
theorem dX2_mayOverwrite_75 : decode cX2_mayOverwrite 75 = .ok (.iadd, 1) := by decide +kernel
theorem dX2_mayOverwrite_76 : decode cX2_mayOverwrite 76 = .ok (.if_icmp .ne 7, 3) := by decide +kernel
theorem dX2_mayOverwrite_79 : decode cX2_mayOverwrite 79 = .ok (.iconst 1, 1) := by decide +kernel
theorem dX2_mayOverwrite_80 : decode cX2_mayOverwrite 80 = .ok (.goto 4, 3) := by decide +kernel
theorem dX2_mayOverwrite_83 : decode cX2_mayOverwrite 83 = .ok (.iconst 0, 1) := by decide +kernel
theorem dX2_mayOverwrite_84 : decode cX2_mayOverwrite 84 = .ok (.ireturn, 1) := by decide +kernel
theorem dX2_capacity_0 : decode cX2_capacity 0 = .ok (.aload_n 0, 1) := by decide +kernel
theorem dX2_capacity_1 : decode cX2_capacity 1 = .ok (.getfield 15, 3) := by decide +kernel
theorem dX2_capacity_4 : decode cX2_capacity 4 = .ok (.iconst 1, 1) := by decide +kernel
theorem dX2_capacity_5 : decode cX2_capacity 5 = .ok (.if_icmp .ge 7, 3) := by decide +kernel
theorem dX2_capacity_8 : decode cX2_capacity 8 = .ok (.iconst 0, 1) := by decide +kernel
theorem dX2_capacity_9 : decode cX2_capacity 9 = .ok (.goto 16, 3) := by decide +kernel
theorem dX2_capacity_12 : decode cX2_capacity 12 = .ok (.aload_n 0, 1) := by decide +kernel
theorem dX2_capacity_13 : decode cX2_capacity 13 = .ok (.getfield 22, 3) := by decide +kernel
theorem dX2_capacity_16 : decode cX2_capacity 16 = .ok (.sipush 128, 3) := by decide +kernel
theorem dX2_capacity_19 : decode cX2_capacity 19 = .ok (.imul, 1) := by decide +kernel
theorem dX2_capacity_20 : decode cX2_capacity 20 = .ok (.aload_n 0, 1) := by decide +kernel
theorem dX2_capacity_21 : decode cX2_capacity 21 = .ok (.getfield 15, 3) := by decide +kernel
theorem dX2_capacity_24 : decode cX2_capacity 24 = .ok (.idiv, 1) := by decide +kernel
theorem dX2_capacity_25 : decode cX2_capacity 25 = .ok (.ireturn, 1) := by decide +kernel
theorem dX2_element_0 : decode cX2_element 0 = .ok (.aload_n 0, 1) := by decide +kernel
theorem dX2_element_1 : decode cX2_element 1 = .ok (.getfield 29, 3) := by decide +kernel
theorem dX2_element_4 : decode cX2_element 4 = .ok (.sipush 128, 3) := by decide +kernel
theorem dX2_element_7 : decode cX2_element 7 = .ok (.imul, 1) := by decide +kernel
theorem dX2_element_8 : decode cX2_element 8 = .ok (.iload_n 1, 1) := by decide +kernel
theorem dX2_element_9 : decode cX2_element 9 = .ok (.aload_n 0, 1) := by decide +kernel
theorem dX2_element_10 : decode cX2_element 10 = .ok (.getfield 15, 3) := by decide +kernel
theorem dX2_element_13 : decode cX2_element 13 = .ok (.imul, 1) := by decide +kernel
theorem dX2_element_14 : decode cX2_element 14 = .ok (.iadd, 1) := by decide +kernel
theorem dX2_element_15 : decode cX2_element 15 = .ok (.istore_n 2, 1) := by decide +kernel
theorem dX2_element_16 : decode cX2_element 16 = .ok (.iload_n 2, 1) := by decide +kernel
theorem dX2_element_17 : decode cX2_element 17 = .ok (.iconst 5, 1) := by decide +kernel
theorem dX2_element_18 : decode cX2_element 18 = .ok (.ishr, 1) := by decide +kernel
theorem dX2_element_19 : decode cX2_element 19 = .ok (.istore_n 3, 1) := by decide +kernel
theorem dX2_element_20 : decode cX2_element 20 = .ok (.iload_n 3, 1) := by decide +kernel
theorem dX2_element_21 : decode cX2_element 21 = .ok (.ifCond .lt 10, 3) := by decide +kernel
theorem dX2_element_24 : decode cX2_element 24 = .ok (.iload_n 3, 1) := by decide +kernel
theorem dX2_element_25 : decode cX2_element 25 = .ok (.sipush 128, 3) := by decide +kernel
theorem dX2_element_28 : decode cX2_element 28 = .ok (.if_icmp .lt 5, 3) := by decide +kernel
theorem dX2_element_31 : decode cX2_element 31 = .ok (.lconst 0, 1) := by decide +kernel
theorem dX2_element_32 : decode cX2_element 32 = .ok (.lreturn, 1) := by decide +kernel
theorem dX2_element_33 : decode cX2_element 33 = .ok (.aload_n 0, 1) := by decide +kernel
theorem dX2_element_34 : decode cX2_element 34 = .ok (.getfield 9, 3) := by decide +kernel
theorem dX2_element_37 : decode cX2_element 37 = .ok (.getfield 40, 3) := by decide +kernel
theorem dX2_element_40 : decode cX2_element 40 = .ok (.iload_n 3, 1) := by decide +kernel
theorem dX2_element_41 : decode cX2_element 41 = .ok (.iaload, 1) := by decide +kernel
theorem dX2_element_42 : decode cX2_element 42 = .ok (.iload_n 2, 1) := by decide +kernel
theorem dX2_element_43 : decode cX2_element 43 = .ok (.bipush 31, 2) := by decide +kernel
theorem dX2_element_45 : decode cX2_element 45 = .ok (.iand, 1) := by decide +kernel
theorem dX2_element_46 : decode cX2_element 46 = .ok (.iushr, 1) := by decide +kernel
theorem dX2_element_47 : decode cX2_element 47 = .ok (.i2l, 1) := by decide +kernel
theorem dX2_element_48 : decode cX2_element 48 = .ok (.aload_n 0, 1) := by decide +kernel
theorem dX2_element_49 : decode cX2_element 49 = .ok (.getfield 25, 3) := by decide +kernel
theorem dX2_element_52 : decode cX2_element 52 = .ok (.land, 1) := by decide +kernel
theorem dX2_element_53 : decode cX2_element 53 = .ok (.lreturn, 1) := by decide +kernel
theorem dX2_put_0 : decode cX2_put 0 = .ok (.aload_n 0, 1) := by decide +kernel
theorem dX2_put_1 : decode cX2_put 1 = .ok (.getfield 29, 3) := by decide +kernel
theorem dX2_put_4 : decode cX2_put 4 = .ok (.sipush 128, 3) := by decide +kernel
theorem dX2_put_7 : decode cX2_put 7 = .ok (.imul, 1) := by decide +kernel
theorem dX2_put_8 : decode cX2_put 8 = .ok (.iload_n 1, 1) := by decide +kernel
theorem dX2_put_9 : decode cX2_put 9 = .ok (.aload_n 0, 1) := by decide +kernel
theorem dX2_put_10 : decode cX2_put 10 = .ok (.getfield 15, 3) := by decide +kernel
theorem dX2_put_13 : decode cX2_put 13 = .ok (.imul, 1) := by decide +kernel
theorem dX2_put_14 : decode cX2_put 14 = .ok (.iadd, 1) := by decide +kernel
theorem dX2_put_15 : decode cX2_put 15 = .ok (.istore 4, 2) := by decide +kernel
theorem dX2_put_17 : decode cX2_put 17 = .ok (.iload 4, 2) := by decide +kernel
theorem dX2_put_19 : decode cX2_put 19 = .ok (.iconst 5, 1) := by decide +kernel
theorem dX2_put_20 : decode cX2_put 20 = .ok (.ishr, 1) := by decide +kernel
theorem dX2_put_21 : decode cX2_put 21 = .ok (.istore 5, 2) := by decide +kernel
theorem dX2_put_23 : decode cX2_put 23 = .ok (.iload 5, 2) := by decide +kernel
theorem dX2_put_25 : decode cX2_put 25 = .ok (.ifCond .lt 11, 3) := by decide +kernel
theorem dX2_put_28 : decode cX2_put 28 = .ok (.iload 5, 2) := by decide +kernel
theorem dX2_put_30 : decode cX2_put 30 = .ok (.sipush 128, 3) := by decide +kernel
theorem dX2_put_33 : decode cX2_put 33 = .ok (.if_icmp .lt 4, 3) := by decide +kernel
theorem dX2_put_36 : decode cX2_put 36 = .ok (.return_, 1) := by decide +kernel
theorem dX2_put_37 : decode cX2_put 37 = .ok (.aload_n 0, 1) := by decide +kernel
theorem dX2_put_38 : decode cX2_put 38 = .ok (.getfield 25, 3) := by decide +kernel
theorem dX2_put_41 : decode cX2_put 41 = .ok (.l2i, 1) := by decide +kernel
theorem dX2_put_42 : decode cX2_put 42 = .ok (.iload 4, 2) := by decide +kernel
theorem dX2_put_44 : decode cX2_put 44 = .ok (.bipush 31, 2) := by decide +kernel
theorem dX2_put_46 : decode cX2_put 46 = .ok (.iand, 1) := by decide +kernel
theorem dX2_put_47 : decode cX2_put 47 = .ok (.ishl, 1) := by decide +kernel
theorem dX2_put_48 : decode cX2_put 48 = .ok (.istore 6, 2) := by decide +kernel
theorem dX2_put_50 : decode cX2_put 50 = .ok (.lload_n 2, 1) := by decide +kernel
theorem dX2_put_51 : decode cX2_put 51 = .ok (.l2i, 1) := by decide +kernel
theorem dX2_put_52 : decode cX2_put 52 = .ok (.iload 4, 2) := by decide +kernel
theorem dX2_put_54 : decode cX2_put 54 = .ok (.bipush 31, 2) := by decide +kernel
theorem dX2_put_56 : decode cX2_put 56 = .ok (.iand, 1) := by decide +kernel
theorem dX2_put_57 : decode cX2_put 57 = .ok (.ishl, 1) := by decide +kernel
theorem dX2_put_58 : decode cX2_put 58 = .ok (.istore 7, 2) := by decide +kernel
theorem dX2_put_60 : decode cX2_put 60 = .ok (.aload_n 0, 1) := by decide +kernel
theorem dX2_put_61 : decode cX2_put 61 = .ok (.getfield 9, 3) := by decide +kernel
theorem dX2_put_64 : decode cX2_put 64 = .ok (.getfield 40, 3) := by decide +kernel
theorem dX2_put_67 : decode cX2_put 67 = .ok (.iload 5, 2) := by decide +kernel
theorem dX2_put_69 : decode cX2_put 69 = .ok (.aload_n 0, 1) := by decide +kernel
theorem dX2_put_70 : decode cX2_put 70 = .ok (.getfield 9, 3) := by decide +kernel
theorem dX2_put_73 : decode cX2_put 73 = .ok (.getfield 40, 3) := by decide +kernel
theorem dX2_put_76 : decode cX2_put 76 = .ok (.iload 5, 2) := by decide +kernel
theorem dX2_put_78 : decode cX2_put 78 = .ok (.iaload, 1) := by decide +kernel
theorem dX2_put_79 : decode cX2_put 79 = .ok (.iload 6, 2) := by decide +kernel
theorem dX2_put_81 : decode cX2_put 81 = .ok (.iconst (-1), 1) := by decide +kernel
theorem dX2_put_82 : decode cX2_put 82 = .ok (.ixor, 1) := by decide +kernel
theorem dX2_put_83 : decode cX2_put 83 = .ok (.iand, 1) := by decide +kernel
theorem dX2_put_84 : decode cX2_put 84 = .ok (.iload 7, 2) := by decide +kernel
theorem dX2_put_86 : decode cX2_put 86 = .ok (.iload 6, 2) := by decide +kernel
theorem dX2_put_88 : decode cX2_put 88 = .ok (.iand, 1) := by decide +kernel
theorem dX2_put_89 : decode cX2_put 89 = .ok (.ior, 1) := by decide +kernel
theorem dX2_put_90 : decode cX2_put 90 = .ok (.iastore, 1) := by decide +kernel
theorem dX2_put_91 : decode cX2_put 91 = .ok (.return_, 1) := by decide +kernel
theorem dX2_leaveOpen_0 : decode cX2_leaveOpen 0 = .ok (.aload_n 0, 1) := by decide +kernel
theorem dX2_leaveOpen_1 : decode cX2_leaveOpen 1 = .ok (.getfield 9, 3) := by decide +kernel
theorem dX2_leaveOpen_4 : decode cX2_leaveOpen 4 = .ok (.iload_n 1, 1) := by decide +kernel
theorem dX2_leaveOpen_5 : decode cX2_leaveOpen 5 = .ok (.invokevirtual 46, 3) := by decide +kernel
theorem dX2_leaveOpen_8 : decode cX2_leaveOpen 8 = .ok (.ifCond .eq 11, 3) := by decide +kernel
theorem dX2_leaveOpen_11 : decode cX2_leaveOpen 11 = .ok (.aload_n 0, 1) := by decide +kernel
theorem dX2_leaveOpen_12 : decode cX2_leaveOpen 12 = .ok (.iload_n 1, 1) := by decide +kernel
theorem dX2_leaveOpen_13 : decode cX2_leaveOpen 13 = .ok (.ldc2_w 50, 3) := by decide +kernel
theorem dX2_leaveOpen_16 : decode cX2_leaveOpen 16 = .ok (.invokevirtual 52, 3) := by decide +kernel
theorem dX2_leaveOpen_19 : decode cX2_leaveOpen 19 = .ok (.return_, 1) := by decide +kernel
theorem dX2_leaveTail_0 : decode cX2_leaveTail 0 = .ok (.iload_n 2, 1) := by decide +kernel
theorem dX2_leaveTail_1 : decode cX2_leaveTail 1 = .ok (.ifCond .ne 17, 3) := by decide +kernel
theorem dX2_leaveTail_4 : decode cX2_leaveTail 4 = .ok (.aload_n 0, 1) := by decide +kernel
theorem dX2_leaveTail_5 : decode cX2_leaveTail 5 = .ok (.getfield 9, 3) := by decide +kernel
theorem dX2_leaveTail_8 : decode cX2_leaveTail 8 = .ok (.getfield 56, 3) := by decide +kernel
theorem dX2_leaveTail_11 : decode cX2_leaveTail 11 = .ok (.getfield 60, 3) := by decide +kernel
theorem dX2_leaveTail_14 : decode cX2_leaveTail 14 = .ok (.ifCond .ne 4, 3) := by decide +kernel
theorem dX2_leaveTail_17 : decode cX2_leaveTail 17 = .ok (.return_, 1) := by decide +kernel
theorem dX2_leaveTail_18 : decode cX2_leaveTail 18 = .ok (.aload_n 0, 1) := by decide +kernel
theorem dX2_leaveTail_19 : decode cX2_leaveTail 19 = .ok (.invokevirtual 66, 3) := by decide +kernel
theorem dX2_leaveTail_22 : decode cX2_leaveTail 22 = .ok (.istore_n 3, 1) := by decide +kernel
theorem dX2_leaveTail_23 : decode cX2_leaveTail 23 = .ok (.iload_n 1, 1) := by decide +kernel
theorem dX2_leaveTail_24 : decode cX2_leaveTail 24 = .ok (.istore 4, 2) := by decide +kernel
theorem dX2_leaveTail_26 : decode cX2_leaveTail 26 = .ok (.iload 4, 2) := by decide +kernel
theorem dX2_leaveTail_28 : decode cX2_leaveTail 28 = .ok (.iload_n 3, 1) := by decide +kernel
theorem dX2_leaveTail_29 : decode cX2_leaveTail 29 = .ok (.if_icmp .ge 15, 3) := by decide +kernel
theorem dX2_leaveTail_32 : decode cX2_leaveTail 32 = .ok (.aload_n 0, 1) := by decide +kernel
theorem dX2_leaveTail_33 : decode cX2_leaveTail 33 = .ok (.iload 4, 2) := by decide +kernel
theorem dX2_leaveTail_35 : decode cX2_leaveTail 35 = .ok (.invokevirtual 70, 3) := by decide +kernel
theorem dX2_leaveTail_38 : decode cX2_leaveTail 38 = .ok (.iinc 4 1, 3) := by decide +kernel
theorem dX2_leaveTail_41 : decode cX2_leaveTail 41 = .ok (.goto (-15), 3) := by decide +kernel
theorem dX2_leaveTail_44 : decode cX2_leaveTail 44 = .ok (.return_, 1) := by decide +kernel
theorem dX3_init_0 : decode cX3_init 0 = .ok (.aload_n 0, 1) := by decide +kernel
theorem dX3_init_1 : decode cX3_init 1 = .ok (.invokespecial 3, 3) := by decide +kernel
theorem dX3_init_4 : decode cX3_init 4 = .ok (.return_, 1) := by decide +kernel
theorem dX3_take_0 : decode cX3_take 0 = .ok (.aload_n 0, 1) := by decide +kernel
theorem dX3_take_1 : decode cX3_take 1 = .ok (.iload_n 1, 1) := by decide +kernel
theorem dX3_take_2 : decode cX3_take 2 = .ok (.putfield 9, 3) := by decide +kernel
theorem dX3_take_5 : decode cX3_take 5 = .ok (.aload_n 0, 1) := by decide +kernel
theorem dX3_take_6 : decode cX3_take 6 = .ok (.iload_n 1, 1) := by decide +kernel
theorem dX3_take_7 : decode cX3_take 7 = .ok (.bipush 127, 2) := by decide +kernel
theorem dX3_take_9 : decode cX3_take 9 = .ok (.iand, 1) := by decide +kernel
theorem dX3_take_10 : decode cX3_take 10 = .ok (.putfield 15, 3) := by decide +kernel
theorem dX3_take_13 : decode cX3_take 13 = .ok (.aload_n 0, 1) := by decide +kernel
theorem dX3_take_14 : decode cX3_take 14 = .ok (.iload_n 1, 1) := by decide +kernel
theorem dX3_take_15 : decode cX3_take 15 = .ok (.bipush 7, 2) := by decide +kernel
theorem dX3_take_17 : decode cX3_take 17 = .ok (.iushr, 1) := by decide +kernel
theorem dX3_take_18 : decode cX3_take 18 = .ok (.bipush 31, 2) := by decide +kernel
theorem dX3_take_20 : decode cX3_take 20 = .ok (.iand, 1) := by decide +kernel
theorem dX3_take_21 : decode cX3_take 21 = .ok (.putfield 18, 3) := by decide +kernel
theorem dX3_take_24 : decode cX3_take 24 = .ok (.aload_n 0, 1) := by decide +kernel
theorem dX3_take_25 : decode cX3_take 25 = .ok (.iload_n 1, 1) := by decide +kernel
theorem dX3_take_26 : decode cX3_take 26 = .ok (.bipush 12, 2) := by decide +kernel
theorem dX3_take_28 : decode cX3_take 28 = .ok (.iushr, 1) := by decide +kernel
theorem dX3_take_29 : decode cX3_take 29 = .ok (.bipush 7, 2) := by decide +kernel
theorem dX3_take_31 : decode cX3_take 31 = .ok (.iand, 1) := by decide +kernel
theorem dX3_take_32 : decode cX3_take 32 = .ok (.putfield 21, 3) := by decide +kernel
theorem dX3_take_35 : decode cX3_take 35 = .ok (.aload_n 0, 1) := by decide +kernel
theorem dX3_take_36 : decode cX3_take 36 = .ok (.iload_n 1, 1) := by decide +kernel
theorem dX3_take_37 : decode cX3_take 37 = .ok (.bipush 15, 2) := by decide +kernel
theorem dX3_take_39 : decode cX3_take 39 = .ok (.iushr, 1) := by decide +kernel
theorem dX3_take_40 : decode cX3_take 40 = .ok (.bipush 31, 2) := by decide +kernel
theorem dX3_take_42 : decode cX3_take 42 = .ok (.iand, 1) := by decide +kernel
theorem dX3_take_43 : decode cX3_take 43 = .ok (.putfield 24, 3) := by decide +kernel
theorem dX3_take_46 : decode cX3_take 46 = .ok (.aload_n 0, 1) := by decide +kernel
theorem dX3_take_47 : decode cX3_take 47 = .ok (.iload_n 1, 1) := by decide +kernel
theorem dX3_take_48 : decode cX3_take 48 = .ok (.bipush 20, 2) := by decide +kernel
theorem dX3_take_50 : decode cX3_take 50 = .ok (.iushr, 1) := by decide +kernel
theorem dX3_take_51 : decode cX3_take 51 = .ok (.bipush 31, 2) := by decide +kernel
theorem dX3_take_53 : decode cX3_take 53 = .ok (.iand, 1) := by decide +kernel
theorem dX3_take_54 : decode cX3_take 54 = .ok (.putfield 27, 3) := by decide +kernel
theorem dX3_take_57 : decode cX3_take 57 = .ok (.aload_n 0, 1) := by decide +kernel
theorem dX3_take_58 : decode cX3_take 58 = .ok (.iload_n 1, 1) := by decide +kernel
theorem dX3_take_59 : decode cX3_take 59 = .ok (.bipush 25, 2) := by decide +kernel
theorem dX3_take_61 : decode cX3_take 61 = .ok (.iushr, 1) := by decide +kernel
theorem dX3_take_62 : decode cX3_take 62 = .ok (.iconst 1, 1) := by decide +kernel
theorem dX3_take_63 : decode cX3_take 63 = .ok (.iand, 1) := by decide +kernel
theorem dX3_take_64 : decode cX3_take 64 = .ok (.ifCond .ne 7, 3) := by decide +kernel
theorem dX3_take_67 : decode cX3_take 67 = .ok (.iconst 1, 1) := by decide +kernel
theorem dX3_take_68 : decode cX3_take 68 = .ok (.goto 4, 3) := by decide +kernel
theorem dX3_take_71 : decode cX3_take 71 = .ok (.iconst 0, 1) := by decide +kernel
theorem dX3_take_72 : decode cX3_take 72 = .ok (.putfield 30, 3) := by decide +kernel
theorem dX3_take_75 : decode cX3_take 75 = .ok (.aload_n 0, 1) := by decide +kernel
theorem dX3_take_76 : decode cX3_take 76 = .ok (.iload_n 1, 1) := by decide +kernel
theorem dX3_take_77 : decode cX3_take 77 = .ok (.bipush 26, 2) := by decide +kernel
theorem dX3_take_79 : decode cX3_take 79 = .ok (.iushr, 1) := by decide +kernel
theorem dX3_take_80 : decode cX3_take 80 = .ok (.putfield 34, 3) := by decide +kernel
theorem dX3_take_83 : decode cX3_take 83 = .ok (.return_, 1) := by decide +kernel
theorem dX3_takesVector_0 : decode cX3_takesVector 0 = .ok (.aload_n 0, 1) := by decide +kernel
theorem dX3_takesVector_1 : decode cX3_takesVector 1 = .ok (.getfield 21, 3) := by decide +kernel
theorem dX3_takesVector_4 : decode cX3_takesVector 4 = .ok (.ifCond .eq 11, 3) := by decide +kernel
theorem dX3_takesVector_7 : decode cX3_takesVector 7 = .ok (.aload_n 0, 1) := by decide +kernel
theorem dX3_takesVector_8 : decode cX3_takesVector 8 = .ok (.getfield 21, 3) := by decide +kernel
theorem dX3_takesVector_11 : decode cX3_takesVector 11 = .ok (.iconst 2, 1) := by decide +kernel
theorem dX3_takesVector_12 : decode cX3_takesVector 12 = .ok (.if_icmp .ne 7, 3) := by decide +kernel
theorem dX3_takesVector_15 : decode cX3_takesVector 15 = .ok (.iconst 1, 1) := by decide +kernel
theorem dX3_takesVector_16 : decode cX3_takesVector 16 = .ok (.goto 4, 3) := by decide +kernel
theorem dX3_takesVector_19 : decode cX3_takesVector 19 = .ok (.iconst 0, 1) := by decide +kernel
theorem dX3_takesVector_20 : decode cX3_takesVector 20 = .ok (.ireturn, 1) := by decide +kernel
theorem dX3_takesNumber_0 : decode cX3_takesNumber 0 = .ok (.aload_n 0, 1) := by decide +kernel
theorem dX3_takesNumber_1 : decode cX3_takesNumber 1 = .ok (.getfield 21, 3) := by decide +kernel
theorem dX3_takesNumber_4 : decode cX3_takesNumber 4 = .ok (.iconst 3, 1) := by decide +kernel
theorem dX3_takesNumber_5 : decode cX3_takesNumber 5 = .ok (.if_icmp .ne 7, 3) := by decide +kernel
theorem dX3_takesNumber_8 : decode cX3_takesNumber 8 = .ok (.iconst 1, 1) := by decide +kernel
theorem dX3_takesNumber_9 : decode cX3_takesNumber 9 = .ok (.goto 4, 3) := by decide +kernel
theorem dX3_takesNumber_12 : decode cX3_takesNumber 12 = .ok (.iconst 0, 1) := by decide +kernel
theorem dX3_takesNumber_13 : decode cX3_takesNumber 13 = .ok (.ireturn, 1) := by decide +kernel
theorem dX3_operation_0 : decode cX3_operation 0 = .ok (.aload_n 0, 1) := by decide +kernel
theorem dX3_operation_1 : decode cX3_operation 1 = .ok (.getfield 21, 3) := by decide +kernel
theorem dX3_operation_4 : decode cX3_operation 4 = .ok (.iconst 2, 1) := by decide +kernel
theorem dX3_operation_5 : decode cX3_operation 5 = .ok (.if_icmp .eq 12, 3) := by decide +kernel
theorem dX3_operation_8 : decode cX3_operation 8 = .ok (.aload_n 0, 1) := by decide +kernel
theorem dX3_operation_9 : decode cX3_operation 9 = .ok (.getfield 21, 3) := by decide +kernel
theorem dX3_operation_12 : decode cX3_operation 12 = .ok (.bipush 6, 2) := by decide +kernel
theorem dX3_operation_14 : decode cX3_operation 14 = .ok (.if_icmp .ne 13, 3) := by decide +kernel
theorem dX3_operation_17 : decode cX3_operation 17 = .ok (.bipush 64, 2) := by decide +kernel
theorem dX3_operation_19 : decode cX3_operation 19 = .ok (.aload_n 0, 1) := by decide +kernel
theorem dX3_operation_20 : decode cX3_operation 20 = .ok (.getfield 34, 3) := by decide +kernel
theorem dX3_operation_23 : decode cX3_operation 23 = .ok (.iadd, 1) := by decide +kernel
theorem dX3_operation_24 : decode cX3_operation 24 = .ok (.goto 7, 3) := by decide +kernel
theorem dX3_operation_27 : decode cX3_operation 27 = .ok (.aload_n 0, 1) := by decide +kernel
theorem dX3_operation_28 : decode cX3_operation 28 = .ok (.getfield 34, 3) := by decide +kernel
theorem dX3_operation_31 : decode cX3_operation 31 = .ok (.ireturn, 1) := by decide +kernel
theorem dX4_init_0 : decode cX4_init 0 = .ok (.aload_n 0, 1) := by decide +kernel
theorem dX4_init_1 : decode cX4_init 1 = .ok (.invokespecial 3, 3) := by decide +kernel
theorem dX4_init_4 : decode cX4_init 4 = .ok (.aload_n 0, 1) := by decide +kernel
theorem dX4_init_5 : decode cX4_init 5 = .ok (.aload_n 1, 1) := by decide +kernel
theorem dX4_init_6 : decode cX4_init 6 = .ok (.putfield 9, 3) := by decide +kernel
theorem dX4_init_9 : decode cX4_init 9 = .ok (.aload_n 0, 1) := by decide +kernel
theorem dX4_init_10 : decode cX4_init 10 = .ok (.new 15, 3) := by decide +kernel
theorem dX4_init_13 : decode cX4_init 13 = .ok (.dup, 1) := by decide +kernel
theorem dX4_init_14 : decode cX4_init 14 = .ok (.aload_n 1, 1) := by decide +kernel
theorem dX4_init_15 : decode cX4_init 15 = .ok (.invokespecial 17, 3) := by decide +kernel
theorem dX4_init_18 : decode cX4_init 18 = .ok (.putfield 20, 3) := by decide +kernel
theorem dX4_init_21 : decode cX4_init 21 = .ok (.aload_n 0, 1) := by decide +kernel
theorem dX4_init_22 : decode cX4_init 22 = .ok (.new 24, 3) := by decide +kernel
theorem dX4_init_25 : decode cX4_init 25 = .ok (.dup, 1) := by decide +kernel
theorem dX4_init_26 : decode cX4_init 26 = .ok (.aload_n 1, 1) := by decide +kernel
theorem dX4_init_27 : decode cX4_init 27 = .ok (.invokespecial 26, 3) := by decide +kernel
theorem dX4_init_30 : decode cX4_init 30 = .ok (.putfield 27, 3) := by decide +kernel
theorem dX4_init_33 : decode cX4_init 33 = .ok (.aload_n 0, 1) := by decide +kernel
theorem dX4_init_34 : decode cX4_init 34 = .ok (.new 24, 3) := by decide +kernel
theorem dX4_init_37 : decode cX4_init 37 = .ok (.dup, 1) := by decide +kernel
theorem dX4_init_38 : decode cX4_init 38 = .ok (.aload_n 1, 1) := by decide +kernel
theorem dX4_init_39 : decode cX4_init 39 = .ok (.invokespecial 26, 3) := by decide +kernel
theorem dX4_init_42 : decode cX4_init 42 = .ok (.putfield 31, 3) := by decide +kernel
theorem dX4_init_45 : decode cX4_init 45 = .ok (.aload_n 0, 1) := by decide +kernel
theorem dX4_init_46 : decode cX4_init 46 = .ok (.new 24, 3) := by decide +kernel
theorem dX4_init_49 : decode cX4_init 49 = .ok (.dup, 1) := by decide +kernel
theorem dX4_init_50 : decode cX4_init 50 = .ok (.aload_n 1, 1) := by decide +kernel
theorem dX4_init_51 : decode cX4_init 51 = .ok (.invokespecial 26, 3) := by decide +kernel
theorem dX4_init_54 : decode cX4_init 54 = .ok (.putfield 34, 3) := by decide +kernel
theorem dX4_init_57 : decode cX4_init 57 = .ok (.aload_n 0, 1) := by decide +kernel
theorem dX4_init_58 : decode cX4_init 58 = .ok (.new 24, 3) := by decide +kernel
theorem dX4_init_61 : decode cX4_init 61 = .ok (.dup, 1) := by decide +kernel
theorem dX4_init_62 : decode cX4_init 62 = .ok (.aload_n 1, 1) := by decide +kernel
theorem dX4_init_63 : decode cX4_init 63 = .ok (.invokespecial 26, 3) := by decide +kernel
theorem dX4_init_66 : decode cX4_init 66 = .ok (.putfield 37, 3) := by decide +kernel
theorem dX4_init_69 : decode cX4_init 69 = .ok (.return_, 1) := by decide +kernel
theorem dX4_execute_0 : decode cX4_execute 0 = .ok (.aload_n 0, 1) := by decide +kernel
theorem dX4_execute_1 : decode cX4_execute 1 = .ok (.aload_n 1, 1) := by decide +kernel
theorem dX4_execute_2 : decode cX4_execute 2 = .ok (.invokestatic 40, 3) := by decide +kernel
theorem dX4_execute_5 : decode cX4_execute 5 = .ok (.putfield 46, 3) := by decide +kernel
theorem dX4_execute_8 : decode cX4_execute 8 = .ok (.aload_n 0, 1) := by decide +kernel
theorem dX4_execute_9 : decode cX4_execute 9 = .ok (.getfield 46, 3) := by decide +kernel
theorem dX4_execute_12 : decode cX4_execute 12 = .ok (.ifCond .eq 33, 3) := by decide +kernel
theorem dX4_execute_15 : decode cX4_execute 15 = .ok (.aload_n 0, 1) := by decide +kernel
theorem dX4_execute_16 : decode cX4_execute 16 = .ok (.getfield 9, 3) := by decide +kernel
theorem dX4_execute_19 : decode cX4_execute 19 = .ok (.getfield 50, 3) := by decide +kernel
theorem dX4_execute_22 : decode cX4_execute 22 = .ok (.invokevirtual 56, 3) := by decide +kernel
theorem dX4_execute_25 : decode cX4_execute 25 = .ok (.ifCond .ne 20, 3) := by decide +kernel
theorem dX4_execute_28 : decode cX4_execute 28 = .ok (.aload_n 0, 1) := by decide +kernel
theorem dX4_execute_29 : decode cX4_execute 29 = .ok (.getfield 9, 3) := by decide +kernel
theorem dX4_execute_32 : decode cX4_execute 32 = .ok (.getfield 62, 3) := by decide +kernel
theorem dX4_execute_35 : decode cX4_execute 35 = .ok (.ifCond .eq 12, 3) := by decide +kernel
theorem dX4_execute_38 : decode cX4_execute 38 = .ok (.aload_n 0, 1) := by decide +kernel
theorem dX4_execute_39 : decode cX4_execute 39 = .ok (.invokevirtual 65, 3) := by decide +kernel
theorem dX4_execute_42 : decode cX4_execute 42 = .ok (.ifCond .eq 5, 3) := by decide +kernel
theorem dX4_execute_45 : decode cX4_execute 45 = .ok (.iconst 1, 1) := by decide +kernel
theorem dX4_execute_46 : decode cX4_execute 46 = .ok (.ireturn, 1) := by decide +kernel
theorem dX4_execute_47 : decode cX4_execute 47 = .ok (.aload_n 0, 1) := by decide +kernel
theorem dX4_execute_48 : decode cX4_execute 48 = .ok (.aload_n 1, 1) := by decide +kernel
theorem dX4_execute_49 : decode cX4_execute 49 = .ok (.invokevirtual 68, 3) := by decide +kernel
theorem dX4_execute_52 : decode cX4_execute 52 = .ok (.aload_n 0, 1) := by decide +kernel
theorem dX4_execute_53 : decode cX4_execute 53 = .ok (.getfield 46, 3) := by decide +kernel
theorem dX4_execute_56 : decode cX4_execute 56 = .ok (.tableswitch 104 10 18 #[52, 68, 104, 86, 104, 104, 104, 92, 98], 52) := by decide +kernel
theorem dX4_execute_108 : decode cX4_execute 108 = .ok (.aload_n 0, 1) := by decide +kernel
theorem dX4_execute_109 : decode cX4_execute 109 = .ok (.aload_n 1, 1) := by decide +kernel
theorem dX4_execute_110 : decode cX4_execute 110 = .ok (.aload_n 0, 1) := by decide +kernel
theorem dX4_execute_111 : decode cX4_execute 111 = .ok (.getfield 9, 3) := by decide +kernel
theorem dX4_execute_114 : decode cX4_execute 114 = .ok (.getfield 50, 3) := by decide +kernel
theorem dX4_execute_117 : decode cX4_execute 117 = .ok (.getfield 72, 3) := by decide +kernel
theorem dX4_execute_120 : decode cX4_execute 120 = .ok (.invokevirtual 75, 3) := by decide +kernel
theorem dX4_execute_123 : decode cX4_execute 123 = .ok (.ireturn, 1) := by decide +kernel
theorem dX4_execute_124 : decode cX4_execute 124 = .ok (.aload_n 0, 1) := by decide +kernel
theorem dX4_execute_125 : decode cX4_execute 125 = .ok (.aload_n 1, 1) := by decide +kernel
theorem dX4_execute_126 : decode cX4_execute 126 = .ok (.iconst 2, 1) := by decide +kernel
theorem dX4_execute_127 : decode cX4_execute 127 = .ok (.aload_n 0, 1) := by decide +kernel
theorem dX4_execute_128 : decode cX4_execute 128 = .ok (.getfield 9, 3) := by decide +kernel
theorem dX4_execute_131 : decode cX4_execute 131 = .ok (.getfield 50, 3) := by decide +kernel
theorem dX4_execute_134 : decode cX4_execute 134 = .ok (.getfield 72, 3) := by decide +kernel
theorem dX4_execute_137 : decode cX4_execute 137 = .ok (.imul, 1) := by decide +kernel
theorem dX4_execute_138 : decode cX4_execute 138 = .ok (.invokevirtual 75, 3) := by decide +kernel
theorem dX4_execute_141 : decode cX4_execute 141 = .ok (.ireturn, 1) := by decide +kernel
theorem dX4_execute_142 : decode cX4_execute 142 = .ok (.aload_n 0, 1) := by decide +kernel
theorem dX4_execute_143 : decode cX4_execute 143 = .ok (.aload_n 1, 1) := by decide +kernel
theorem dX4_execute_144 : decode cX4_execute 144 = .ok (.invokevirtual 79, 3) := by decide +kernel
theorem dX4_execute_147 : decode cX4_execute 147 = .ok (.ireturn, 1) := by decide +kernel
theorem dX4_execute_148 : decode cX4_execute 148 = .ok (.aload_n 0, 1) := by decide +kernel
theorem dX4_execute_149 : decode cX4_execute 149 = .ok (.aload_n 1, 1) := by decide +kernel
theorem dX4_execute_150 : decode cX4_execute 150 = .ok (.invokevirtual 82, 3) := by decide +kernel
theorem dX4_execute_153 : decode cX4_execute 153 = .ok (.ireturn, 1) := by decide +kernel
theorem dX4_execute_154 : decode cX4_execute 154 = .ok (.aload_n 0, 1) := by decide +kernel
theorem dX4_execute_155 : decode cX4_execute 155 = .ok (.aload_n 1, 1) := by decide +kernel
theorem dX4_execute_156 : decode cX4_execute 156 = .ok (.invokevirtual 85, 3) := by decide +kernel
theorem dX4_execute_159 : decode cX4_execute 159 = .ok (.ireturn, 1) := by decide +kernel
theorem dX4_execute_160 : decode cX4_execute 160 = .ok (.aload_n 0, 1) := by decide +kernel
theorem dX4_execute_161 : decode cX4_execute 161 = .ok (.aload_n 1, 1) := by decide +kernel
theorem dX4_execute_162 : decode cX4_execute 162 = .ok (.invokevirtual 88, 3) := by decide +kernel
theorem dX4_execute_165 : decode cX4_execute 165 = .ok (.ifCond .eq 17, 3) := by decide +kernel
theorem dX4_execute_168 : decode cX4_execute 168 = .ok (.aload_n 0, 1) := by decide +kernel
theorem dX4_execute_169 : decode cX4_execute 169 = .ok (.invokevirtual 92, 3) := by decide +kernel
theorem dX4_execute_172 : decode cX4_execute 172 = .ok (.ifCond .eq 10, 3) := by decide +kernel
theorem dX4_execute_175 : decode cX4_execute 175 = .ok (.aload_n 0, 1) := by decide +kernel
theorem dX4_execute_176 : decode cX4_execute 176 = .ok (.invokevirtual 95, 3) := by decide +kernel
theorem dX4_execute_179 : decode cX4_execute 179 = .ok (.goto 4, 3) := by decide +kernel
theorem dX4_execute_182 : decode cX4_execute 182 = .ok (.iconst 1, 1) := by decide +kernel
theorem dX4_execute_183 : decode cX4_execute 183 = .ok (.ireturn, 1) := by decide +kernel
theorem dX4_startsAtZero_0 : decode cX4_startsAtZero 0 = .ok (.aload_n 0, 1) := by decide +kernel
theorem dX4_startsAtZero_1 : decode cX4_startsAtZero 1 = .ok (.getfield 46, 3) := by decide +kernel
theorem dX4_startsAtZero_4 : decode cX4_startsAtZero 4 = .ok (.tableswitch 82 10 25 #[80, 80, 82, 80, 80, 80, 82, 82, 82, 82, 82, 82, 82, 82, 82, 80], 80) := by decide +kernel
theorem dX4_startsAtZero_84 : decode cX4_startsAtZero 84 = .ok (.iconst 1, 1) := by decide +kernel
theorem dX4_startsAtZero_85 : decode cX4_startsAtZero 85 = .ok (.ireturn, 1) := by decide +kernel
theorem dX4_startsAtZero_86 : decode cX4_startsAtZero 86 = .ok (.iconst 0, 1) := by decide +kernel
theorem dX4_startsAtZero_87 : decode cX4_startsAtZero 87 = .ok (.ireturn, 1) := by decide +kernel
theorem dX4_prepare_0 : decode cX4_prepare 0 = .ok (.aload_n 0, 1) := by decide +kernel
theorem dX4_prepare_1 : decode cX4_prepare 1 = .ok (.aload_n 1, 1) := by decide +kernel
theorem dX4_prepare_2 : decode cX4_prepare 2 = .ok (.invokevirtual 99, 3) := by decide +kernel
theorem dX4_prepare_5 : decode cX4_prepare 5 = .ok (.putfield 104, 3) := by decide +kernel
theorem dX4_prepare_8 : decode cX4_prepare 8 = .ok (.aload_n 0, 1) := by decide +kernel
theorem dX4_prepare_9 : decode cX4_prepare 9 = .ok (.aload_n 1, 1) := by decide +kernel
theorem dX4_prepare_10 : decode cX4_prepare 10 = .ok (.getfield 106, 3) := by decide +kernel
theorem dX4_prepare_13 : decode cX4_prepare 13 = .ok (.putfield 109, 3) := by decide +kernel
theorem dX4_prepare_16 : decode cX4_prepare 16 = .ok (.aload_n 0, 1) := by decide +kernel
theorem dX4_prepare_17 : decode cX4_prepare 17 = .ok (.aload_n 0, 1) := by decide +kernel
theorem dX4_prepare_18 : decode cX4_prepare 18 = .ok (.getfield 9, 3) := by decide +kernel
theorem dX4_prepare_21 : decode cX4_prepare 21 = .ok (.getfield 112, 3) := by decide +kernel
theorem dX4_prepare_24 : decode cX4_prepare 24 = .ok (.putfield 115, 3) := by decide +kernel
theorem dX4_prepare_27 : decode cX4_prepare 27 = .ok (.aload_n 0, 1) := by decide +kernel
theorem dX4_prepare_28 : decode cX4_prepare 28 = .ok (.aload_n 1, 1) := by decide +kernel
theorem dX4_prepare_29 : decode cX4_prepare 29 = .ok (.getfield 116, 3) := by decide +kernel
theorem dX4_prepare_32 : decode cX4_prepare 32 = .ok (.putfield 120, 3) := by decide +kernel
theorem dX4_prepare_35 : decode cX4_prepare 35 = .ok (.aload_n 0, 1) := by decide +kernel
theorem dX4_prepare_36 : decode cX4_prepare 36 = .ok (.getfield 20, 3) := by decide +kernel
theorem dX4_prepare_39 : decode cX4_prepare 39 = .ok (.aload_n 0, 1) := by decide +kernel
theorem dX4_prepare_40 : decode cX4_prepare 40 = .ok (.getfield 9, 3) := by decide +kernel
theorem dX4_prepare_43 : decode cX4_prepare 43 = .ok (.getfield 50, 3) := by decide +kernel
theorem dX4_prepare_46 : decode cX4_prepare 46 = .ok (.getfield 72, 3) := by decide +kernel
theorem dX4_prepare_49 : decode cX4_prepare 49 = .ok (.invokevirtual 123, 3) := by decide +kernel
theorem dX4_prepare_52 : decode cX4_prepare 52 = .ok (.aload_n 0, 1) := by decide +kernel
theorem dX4_prepare_53 : decode cX4_prepare 53 = .ok (.iconst 0, 1) := by decide +kernel
theorem dX4_prepare_54 : decode cX4_prepare 54 = .ok (.putfield 127, 3) := by decide +kernel
theorem dX4_prepare_57 : decode cX4_prepare 57 = .ok (.aload_n 1, 1) := by decide +kernel
theorem dX4_prepare_58 : decode cX4_prepare 58 = .ok (.invokevirtual 130, 3) := by decide +kernel
theorem dX4_prepare_61 : decode cX4_prepare 61 = .ok (.ifCond .eq 15, 3) := by decide +kernel
theorem dX4_prepare_64 : decode cX4_prepare 64 = .ok (.aload_n 1, 1) := by decide +kernel
theorem dX4_prepare_65 : decode cX4_prepare 65 = .ok (.getfield 106, 3) := by decide +kernel
theorem dX4_prepare_68 : decode cX4_prepare 68 = .ok (.i2l, 1) := by decide +kernel
theorem dX4_prepare_69 : decode cX4_prepare 69 = .ok (.iconst 5, 1) := by decide +kernel
theorem dX4_prepare_70 : decode cX4_prepare 70 = .ok (.invokestatic 133, 3) := by decide +kernel
theorem dX4_prepare_73 : decode cX4_prepare 73 = .ok (.goto 15, 3) := by decide +kernel
theorem dX4_prepare_76 : decode cX4_prepare 76 = .ok (.aload_n 0, 1) := by decide +kernel
theorem dX4_prepare_77 : decode cX4_prepare 77 = .ok (.getfield 9, 3) := by decide +kernel
theorem dX4_prepare_80 : decode cX4_prepare 80 = .ok (.aload_n 1, 1) := by decide +kernel
theorem dX4_prepare_81 : decode cX4_prepare 81 = .ok (.getfield 106, 3) := by decide +kernel
theorem dX4_prepare_84 : decode cX4_prepare 84 = .ok (.invokevirtual 137, 3) := by decide +kernel
theorem dX4_prepare_87 : decode cX4_prepare 87 = .ok (.i2l, 1) := by decide +kernel
theorem dX4_prepare_88 : decode cX4_prepare 88 = .ok (.lstore_n 2, 1) := by decide +kernel
theorem dX4_prepare_89 : decode cX4_prepare 89 = .ok (.aload_n 0, 1) := by decide +kernel
theorem dX4_prepare_90 : decode cX4_prepare 90 = .ok (.lload_n 2, 1) := by decide +kernel
theorem dX4_prepare_91 : decode cX4_prepare 91 = .ok (.aload_n 0, 1) := by decide +kernel
theorem dX4_prepare_92 : decode cX4_prepare 92 = .ok (.getfield 9, 3) := by decide +kernel
theorem dX4_prepare_95 : decode cX4_prepare 95 = .ok (.getfield 50, 3) := by decide +kernel
theorem dX4_prepare_98 : decode cX4_prepare 98 = .ok (.getfield 72, 3) := by decide +kernel
theorem dX4_prepare_101 : decode cX4_prepare 101 = .ok (.invokestatic 141, 3) := by decide +kernel
theorem dX4_prepare_104 : decode cX4_prepare 104 = .ok (.land, 1) := by decide +kernel
theorem dX4_prepare_105 : decode cX4_prepare 105 = .ok (.putfield 145, 3) := by decide +kernel
theorem dX4_prepare_108 : decode cX4_prepare 108 = .ok (.aload_n 0, 1) := by decide +kernel
theorem dX4_prepare_109 : decode cX4_prepare 109 = .ok (.aload_n 1, 1) := by decide +kernel
theorem dX4_prepare_110 : decode cX4_prepare 110 = .ok (.invokevirtual 130, 3) := by decide +kernel
theorem dX4_prepare_113 : decode cX4_prepare 113 = .ok (.ifCond .eq 11, 3) := by decide +kernel
theorem dX4_prepare_116 : decode cX4_prepare 116 = .ok (.aload_n 1, 1) := by decide +kernel
theorem dX4_prepare_117 : decode cX4_prepare 117 = .ok (.getfield 106, 3) := by decide +kernel
theorem dX4_prepare_120 : decode cX4_prepare 120 = .ok (.i2l, 1) := by decide +kernel
theorem dX4_prepare_121 : decode cX4_prepare 121 = .ok (.goto 21, 3) := by decide +kernel
theorem dX4_prepare_124 : decode cX4_prepare 124 = .ok (.aload_n 0, 1) := by decide +kernel
theorem dX4_prepare_125 : decode cX4_prepare 125 = .ok (.getfield 9, 3) := by decide +kernel
theorem dX4_prepare_128 : decode cX4_prepare 128 = .ok (.aload_n 1, 1) := by decide +kernel
theorem dX4_prepare_129 : decode cX4_prepare 129 = .ok (.getfield 106, 3) := by decide +kernel
theorem dX4_prepare_132 : decode cX4_prepare 132 = .ok (.invokevirtual 137, 3) := by decide +kernel
theorem dX4_prepare_135 : decode cX4_prepare 135 = .ok (.i2l, 1) := by decide +kernel
theorem dX4_prepare_136 : decode cX4_prepare 136 = .ok (.bipush 32, 2) := by decide +kernel
theorem dX4_prepare_138 : decode cX4_prepare 138 = .ok (.invokestatic 141, 3) := by decide +kernel
theorem dX4_prepare_141 : decode cX4_prepare 141 = .ok (.land, 1) := by decide +kernel
theorem dX4_prepare_142 : decode cX4_prepare 142 = .ok (.putfield 149, 3) := by decide +kernel
theorem dX4_prepare_145 : decode cX4_prepare 145 = .ok (.return_, 1) := by decide +kernel
theorem dX4_coverGroups_0 : decode cX4_coverGroups 0 = .ok (.aload_n 0, 1) := by decide +kernel
theorem dX4_coverGroups_1 : decode cX4_coverGroups 1 = .ok (.getfield 9, 3) := by decide +kernel
theorem dX4_coverGroups_4 : decode cX4_coverGroups 4 = .ok (.getfield 50, 3) := by decide +kernel
theorem dX4_coverGroups_7 : decode cX4_coverGroups 7 = .ok (.getfield 72, 3) := by decide +kernel
theorem dX4_coverGroups_10 : decode cX4_coverGroups 10 = .ok (.istore_n 2, 1) := by decide +kernel
theorem dX4_coverGroups_11 : decode cX4_coverGroups 11 = .ok (.aload_n 0, 1) := by decide +kernel
theorem dX4_coverGroups_12 : decode cX4_coverGroups 12 = .ok (.getfield 46, 3) := by decide +kernel
theorem dX4_coverGroups_15 : decode cX4_coverGroups 15 = .ok (.tableswitch 244 2 26 #[113, 244, 113, 244, 122, 133, 144, 157, 244, 244, 193, 244, 202, 211, 220, 244, 244, 244, 244, 244, 244, 244, 183, 229, 238], 113) := by decide +kernel
theorem dX4_coverGroups_128 : decode cX4_coverGroups 128 = .ok (.aload_n 0, 1) := by decide +kernel
theorem dX4_coverGroups_129 : decode cX4_coverGroups 129 = .ok (.aload_n 1, 1) := by decide +kernel
theorem dX4_coverGroups_130 : decode cX4_coverGroups 130 = .ok (.iconst 1, 1) := by decide +kernel
theorem dX4_coverGroups_131 : decode cX4_coverGroups 131 = .ok (.iload_n 2, 1) := by decide +kernel
theorem dX4_coverGroups_132 : decode cX4_coverGroups 132 = .ok (.iload_n 2, 1) := by decide +kernel
theorem dX4_coverGroups_133 : decode cX4_coverGroups 133 = .ok (.invokevirtual 152, 3) := by decide +kernel
theorem dX4_coverGroups_136 : decode cX4_coverGroups 136 = .ok (.ireturn, 1) := by decide +kernel
theorem dX4_coverGroups_137 : decode cX4_coverGroups 137 = .ok (.aload_n 0, 1) := by decide +kernel
theorem dX4_coverGroups_138 : decode cX4_coverGroups 138 = .ok (.aload_n 1, 1) := by decide +kernel
theorem dX4_coverGroups_139 : decode cX4_coverGroups 139 = .ok (.iload_n 2, 1) := by decide +kernel
theorem dX4_coverGroups_140 : decode cX4_coverGroups 140 = .ok (.iconst 2, 1) := by decide +kernel
theorem dX4_coverGroups_141 : decode cX4_coverGroups 141 = .ok (.iload_n 2, 1) := by decide +kernel
theorem dX4_coverGroups_142 : decode cX4_coverGroups 142 = .ok (.imul, 1) := by decide +kernel
theorem dX4_coverGroups_143 : decode cX4_coverGroups 143 = .ok (.iload_n 2, 1) := by decide +kernel
theorem dX4_coverGroups_144 : decode cX4_coverGroups 144 = .ok (.invokevirtual 152, 3) := by decide +kernel
theorem dX4_coverGroups_147 : decode cX4_coverGroups 147 = .ok (.ireturn, 1) := by decide +kernel
theorem dX4_coverGroups_148 : decode cX4_coverGroups 148 = .ok (.aload_n 0, 1) := by decide +kernel
theorem dX4_coverGroups_149 : decode cX4_coverGroups 149 = .ok (.aload_n 1, 1) := by decide +kernel
theorem dX4_coverGroups_150 : decode cX4_coverGroups 150 = .ok (.iconst 2, 1) := by decide +kernel
theorem dX4_coverGroups_151 : decode cX4_coverGroups 151 = .ok (.iload_n 2, 1) := by decide +kernel
theorem dX4_coverGroups_152 : decode cX4_coverGroups 152 = .ok (.imul, 1) := by decide +kernel
theorem dX4_coverGroups_153 : decode cX4_coverGroups 153 = .ok (.iload_n 2, 1) := by decide +kernel
theorem dX4_coverGroups_154 : decode cX4_coverGroups 154 = .ok (.iload_n 2, 1) := by decide +kernel
theorem dX4_coverGroups_155 : decode cX4_coverGroups 155 = .ok (.invokevirtual 152, 3) := by decide +kernel
theorem dX4_coverGroups_158 : decode cX4_coverGroups 158 = .ok (.ireturn, 1) := by decide +kernel
theorem dX4_coverGroups_159 : decode cX4_coverGroups 159 = .ok (.aload_n 0, 1) := by decide +kernel
theorem dX4_coverGroups_160 : decode cX4_coverGroups 160 = .ok (.aload_n 1, 1) := by decide +kernel
theorem dX4_coverGroups_161 : decode cX4_coverGroups 161 = .ok (.iconst 2, 1) := by decide +kernel
theorem dX4_coverGroups_162 : decode cX4_coverGroups 162 = .ok (.iload_n 2, 1) := by decide +kernel
theorem dX4_coverGroups_163 : decode cX4_coverGroups 163 = .ok (.imul, 1) := by decide +kernel
theorem dX4_coverGroups_164 : decode cX4_coverGroups 164 = .ok (.iconst 2, 1) := by decide +kernel
theorem dX4_coverGroups_165 : decode cX4_coverGroups 165 = .ok (.iload_n 2, 1) := by decide +kernel
theorem dX4_coverGroups_166 : decode cX4_coverGroups 166 = .ok (.imul, 1) := by decide +kernel
theorem dX4_coverGroups_167 : decode cX4_coverGroups 167 = .ok (.iload_n 2, 1) := by decide +kernel
theorem dX4_coverGroups_168 : decode cX4_coverGroups 168 = .ok (.invokevirtual 152, 3) := by decide +kernel
theorem dX4_coverGroups_171 : decode cX4_coverGroups 171 = .ok (.ireturn, 1) := by decide +kernel
theorem dX4_coverGroups_172 : decode cX4_coverGroups 172 = .ok (.aload_n 0, 1) := by decide +kernel
theorem dX4_coverGroups_173 : decode cX4_coverGroups 173 = .ok (.aload_n 1, 1) := by decide +kernel
theorem dX4_coverGroups_174 : decode cX4_coverGroups 174 = .ok (.iload_n 2, 1) := by decide +kernel
theorem dX4_coverGroups_175 : decode cX4_coverGroups 175 = .ok (.aload_n 0, 1) := by decide +kernel
theorem dX4_coverGroups_176 : decode cX4_coverGroups 176 = .ok (.getfield 109, 3) := by decide +kernel
theorem dX4_coverGroups_179 : decode cX4_coverGroups 179 = .ok (.bipush 6, 2) := by decide +kernel
theorem dX4_coverGroups_181 : decode cX4_coverGroups 181 = .ok (.if_icmp .ge 9, 3) := by decide +kernel
theorem dX4_coverGroups_184 : decode cX4_coverGroups 184 = .ok (.iload_n 2, 1) := by decide +kernel
theorem dX4_coverGroups_185 : decode cX4_coverGroups 185 = .ok (.iconst 4, 1) := by decide +kernel
theorem dX4_coverGroups_186 : decode cX4_coverGroups 186 = .ok (.idiv, 1) := by decide +kernel
theorem dX4_coverGroups_187 : decode cX4_coverGroups 187 = .ok (.goto 6, 3) := by decide +kernel
theorem dX4_coverGroups_190 : decode cX4_coverGroups 190 = .ok (.iload_n 2, 1) := by decide +kernel
theorem dX4_coverGroups_191 : decode cX4_coverGroups 191 = .ok (.iconst 2, 1) := by decide +kernel
theorem dX4_coverGroups_192 : decode cX4_coverGroups 192 = .ok (.idiv, 1) := by decide +kernel
theorem dX4_coverGroups_193 : decode cX4_coverGroups 193 = .ok (.iconst 0, 1) := by decide +kernel
theorem dX4_coverGroups_194 : decode cX4_coverGroups 194 = .ok (.invokevirtual 152, 3) := by decide +kernel
theorem dX4_coverGroups_197 : decode cX4_coverGroups 197 = .ok (.ireturn, 1) := by decide +kernel
theorem dX4_coverGroups_198 : decode cX4_coverGroups 198 = .ok (.aload_n 0, 1) := by decide +kernel
theorem dX4_coverGroups_199 : decode cX4_coverGroups 199 = .ok (.aload_n 1, 1) := by decide +kernel
theorem dX4_coverGroups_200 : decode cX4_coverGroups 200 = .ok (.iload_n 2, 1) := by decide +kernel
theorem dX4_coverGroups_201 : decode cX4_coverGroups 201 = .ok (.iload_n 2, 1) := by decide +kernel
theorem dX4_coverGroups_202 : decode cX4_coverGroups 202 = .ok (.bipush 16, 2) := by decide +kernel
theorem dX4_coverGroups_204 : decode cX4_coverGroups 204 = .ok (.invokevirtual 152, 3) := by decide +kernel
theorem dX4_coverGroups_207 : decode cX4_coverGroups 207 = .ok (.ireturn, 1) := by decide +kernel
theorem dX4_coverGroups_208 : decode cX4_coverGroups 208 = .ok (.aload_n 0, 1) := by decide +kernel
theorem dX4_coverGroups_209 : decode cX4_coverGroups 209 = .ok (.aload_n 1, 1) := by decide +kernel
theorem dX4_coverGroups_210 : decode cX4_coverGroups 210 = .ok (.iconst 1, 1) := by decide +kernel
theorem dX4_coverGroups_211 : decode cX4_coverGroups 211 = .ok (.iconst 1, 1) := by decide +kernel
theorem dX4_coverGroups_212 : decode cX4_coverGroups 212 = .ok (.iconst 1, 1) := by decide +kernel
theorem dX4_coverGroups_213 : decode cX4_coverGroups 213 = .ok (.invokevirtual 152, 3) := by decide +kernel
theorem dX4_coverGroups_216 : decode cX4_coverGroups 216 = .ok (.ireturn, 1) := by decide +kernel
theorem dX4_coverGroups_217 : decode cX4_coverGroups 217 = .ok (.aload_n 0, 1) := by decide +kernel
theorem dX4_coverGroups_218 : decode cX4_coverGroups 218 = .ok (.aload_n 1, 1) := by decide +kernel
theorem dX4_coverGroups_219 : decode cX4_coverGroups 219 = .ok (.iconst 1, 1) := by decide +kernel
theorem dX4_coverGroups_220 : decode cX4_coverGroups 220 = .ok (.iconst 1, 1) := by decide +kernel
theorem dX4_coverGroups_221 : decode cX4_coverGroups 221 = .ok (.iconst 0, 1) := by decide +kernel
theorem dX4_coverGroups_222 : decode cX4_coverGroups 222 = .ok (.invokevirtual 152, 3) := by decide +kernel
theorem dX4_coverGroups_225 : decode cX4_coverGroups 225 = .ok (.ireturn, 1) := by decide +kernel
theorem dX4_coverGroups_226 : decode cX4_coverGroups 226 = .ok (.aload_n 0, 1) := by decide +kernel
theorem dX4_coverGroups_227 : decode cX4_coverGroups 227 = .ok (.aload_n 1, 1) := by decide +kernel
theorem dX4_coverGroups_228 : decode cX4_coverGroups 228 = .ok (.iload_n 2, 1) := by decide +kernel
theorem dX4_coverGroups_229 : decode cX4_coverGroups 229 = .ok (.iconst 1, 1) := by decide +kernel
theorem dX4_coverGroups_230 : decode cX4_coverGroups 230 = .ok (.iconst 0, 1) := by decide +kernel
theorem dX4_coverGroups_231 : decode cX4_coverGroups 231 = .ok (.invokevirtual 152, 3) := by decide +kernel
theorem dX4_coverGroups_234 : decode cX4_coverGroups 234 = .ok (.ireturn, 1) := by decide +kernel
theorem dX4_coverGroups_235 : decode cX4_coverGroups 235 = .ok (.aload_n 0, 1) := by decide +kernel
theorem dX4_coverGroups_236 : decode cX4_coverGroups 236 = .ok (.aload_n 1, 1) := by decide +kernel
theorem dX4_coverGroups_237 : decode cX4_coverGroups 237 = .ok (.iload_n 2, 1) := by decide +kernel
theorem dX4_coverGroups_238 : decode cX4_coverGroups 238 = .ok (.iconst 0, 1) := by decide +kernel
theorem dX4_coverGroups_239 : decode cX4_coverGroups 239 = .ok (.iconst 0, 1) := by decide +kernel
theorem dX4_coverGroups_240 : decode cX4_coverGroups 240 = .ok (.invokevirtual 152, 3) := by decide +kernel
theorem dX4_coverGroups_243 : decode cX4_coverGroups 243 = .ok (.ireturn, 1) := by decide +kernel
theorem dX4_coverGroups_244 : decode cX4_coverGroups 244 = .ok (.aload_n 0, 1) := by decide +kernel
theorem dX4_coverGroups_245 : decode cX4_coverGroups 245 = .ok (.aload_n 1, 1) := by decide +kernel
theorem dX4_coverGroups_246 : decode cX4_coverGroups 246 = .ok (.iload_n 2, 1) := by decide +kernel
theorem dX4_coverGroups_247 : decode cX4_coverGroups 247 = .ok (.iload_n 2, 1) := by decide +kernel
theorem dX4_coverGroups_248 : decode cX4_coverGroups 248 = .ok (.iconst 1, 1) := by decide +kernel
theorem dX4_coverGroups_249 : decode cX4_coverGroups 249 = .ok (.invokevirtual 152, 3) := by decide +kernel
theorem dX4_coverGroups_252 : decode cX4_coverGroups 252 = .ok (.ireturn, 1) := by decide +kernel
theorem dX4_coverGroups_253 : decode cX4_coverGroups 253 = .ok (.aload_n 0, 1) := by decide +kernel
theorem dX4_coverGroups_254 : decode cX4_coverGroups 254 = .ok (.aload_n 1, 1) := by decide +kernel
theorem dX4_coverGroups_255 : decode cX4_coverGroups 255 = .ok (.invokevirtual 156, 3) := by decide +kernel
theorem dX4_coverGroups_258 : decode cX4_coverGroups 258 = .ok (.ireturn, 1) := by decide +kernel
theorem dX4_coverGroups_259 : decode cX4_coverGroups 259 = .ok (.aload_n 0, 1) := by decide +kernel
theorem dX4_coverGroups_260 : decode cX4_coverGroups 260 = .ok (.aload_n 1, 1) := by decide +kernel
theorem dX4_coverGroups_261 : decode cX4_coverGroups 261 = .ok (.iload_n 2, 1) := by decide +kernel
theorem dX4_coverGroups_262 : decode cX4_coverGroups 262 = .ok (.iload_n 2, 1) := by decide +kernel
theorem dX4_coverGroups_263 : decode cX4_coverGroups 263 = .ok (.iload_n 2, 1) := by decide +kernel
theorem dX4_coverGroups_264 : decode cX4_coverGroups 264 = .ok (.invokevirtual 152, 3) := by decide +kernel
theorem dX4_coverGroups_267 : decode cX4_coverGroups 267 = .ok (.ireturn, 1) := by decide +kernel
theorem dX4_cover_0 : decode cX4_cover 0 = .ok (.aload_n 0, 1) := by decide +kernel
theorem dX4_cover_1 : decode cX4_cover 1 = .ok (.iload_n 3, 1) := by decide +kernel
theorem dX4_cover_2 : decode cX4_cover 2 = .ok (.ifCond .eq 7, 3) := by decide +kernel
theorem dX4_cover_5 : decode cX4_cover 5 = .ok (.iconst 1, 1) := by decide +kernel
theorem dX4_cover_6 : decode cX4_cover 6 = .ok (.goto 4, 3) := by decide +kernel
theorem dX4_cover_9 : decode cX4_cover 9 = .ok (.iconst 0, 1) := by decide +kernel
theorem dX4_cover_10 : decode cX4_cover 10 = .ok (.putfield 159, 3) := by decide +kernel
theorem dX4_cover_13 : decode cX4_cover 13 = .ok (.aload_n 0, 1) := by decide +kernel
theorem dX4_cover_14 : decode cX4_cover 14 = .ok (.iload 4, 2) := by decide +kernel
theorem dX4_cover_16 : decode cX4_cover 16 = .ok (.ifCond .eq 14, 3) := by decide +kernel
theorem dX4_cover_19 : decode cX4_cover 19 = .ok (.aload_n 1, 1) := by decide +kernel
theorem dX4_cover_20 : decode cX4_cover 20 = .ok (.invokevirtual 162, 3) := by decide +kernel
theorem dX4_cover_23 : decode cX4_cover 23 = .ok (.ifCond .eq 7, 3) := by decide +kernel
theorem dX4_cover_26 : decode cX4_cover 26 = .ok (.iconst 1, 1) := by decide +kernel
theorem dX4_cover_27 : decode cX4_cover 27 = .ok (.goto 4, 3) := by decide +kernel
theorem dX4_cover_30 : decode cX4_cover 30 = .ok (.iconst 0, 1) := by decide +kernel
theorem dX4_cover_31 : decode cX4_cover 31 = .ok (.putfield 165, 3) := by decide +kernel
theorem dX4_cover_34 : decode cX4_cover 34 = .ok (.aload_n 0, 1) := by decide +kernel
theorem dX4_cover_35 : decode cX4_cover 35 = .ok (.getfield 27, 3) := by decide +kernel
theorem dX4_cover_38 : decode cX4_cover 38 = .ok (.aload_n 1, 1) := by decide +kernel
theorem dX4_cover_39 : decode cX4_cover 39 = .ok (.getfield 168, 3) := by decide +kernel
theorem dX4_cover_42 : decode cX4_cover 42 = .ok (.iload_n 2, 1) := by decide +kernel
theorem dX4_cover_43 : decode cX4_cover 43 = .ok (.aload_n 0, 1) := by decide +kernel
theorem dX4_cover_44 : decode cX4_cover 44 = .ok (.getfield 9, 3) := by decide +kernel
theorem dX4_cover_47 : decode cX4_cover 47 = .ok (.getfield 50, 3) := by decide +kernel
theorem dX4_cover_50 : decode cX4_cover 50 = .ok (.iload_n 2, 1) := by decide +kernel
theorem dX4_cover_51 : decode cX4_cover 51 = .ok (.invokevirtual 171, 3) := by decide +kernel
theorem dX4_cover_54 : decode cX4_cover 54 = .ok (.invokevirtual 174, 3) := by decide +kernel
theorem dX4_cover_57 : decode cX4_cover 57 = .ok (.aload_n 0, 1) := by decide +kernel
theorem dX4_cover_58 : decode cX4_cover 58 = .ok (.getfield 31, 3) := by decide +kernel
theorem dX4_cover_61 : decode cX4_cover 61 = .ok (.aload_n 1, 1) := by decide +kernel
theorem dX4_cover_62 : decode cX4_cover 62 = .ok (.getfield 177, 3) := by decide +kernel
theorem dX4_cover_65 : decode cX4_cover 65 = .ok (.iload_n 3, 1) := by decide +kernel
theorem dX4_cover_66 : decode cX4_cover 66 = .ok (.aload_n 0, 1) := by decide +kernel
theorem dX4_cover_67 : decode cX4_cover 67 = .ok (.getfield 9, 3) := by decide +kernel
theorem dX4_cover_70 : decode cX4_cover 70 = .ok (.getfield 50, 3) := by decide +kernel
theorem dX4_cover_73 : decode cX4_cover 73 = .ok (.iload_n 3, 1) := by decide +kernel
theorem dX4_cover_74 : decode cX4_cover 74 = .ok (.invokevirtual 171, 3) := by decide +kernel
theorem dX4_cover_77 : decode cX4_cover 77 = .ok (.invokevirtual 174, 3) := by decide +kernel
theorem dX4_cover_80 : decode cX4_cover 80 = .ok (.aload_n 0, 1) := by decide +kernel
theorem dX4_cover_81 : decode cX4_cover 81 = .ok (.getfield 34, 3) := by decide +kernel
theorem dX4_cover_84 : decode cX4_cover 84 = .ok (.aload_n 1, 1) := by decide +kernel
theorem dX4_cover_85 : decode cX4_cover 85 = .ok (.getfield 106, 3) := by decide +kernel
theorem dX4_cover_88 : decode cX4_cover 88 = .ok (.iload 4, 2) := by decide +kernel
theorem dX4_cover_90 : decode cX4_cover 90 = .ok (.aload_n 0, 1) := by decide +kernel
theorem dX4_cover_91 : decode cX4_cover 91 = .ok (.getfield 9, 3) := by decide +kernel
theorem dX4_cover_94 : decode cX4_cover 94 = .ok (.getfield 50, 3) := by decide +kernel
theorem dX4_cover_97 : decode cX4_cover 97 = .ok (.iload 4, 2) := by decide +kernel
theorem dX4_cover_99 : decode cX4_cover 99 = .ok (.invokevirtual 171, 3) := by decide +kernel
theorem dX4_cover_102 : decode cX4_cover 102 = .ok (.invokevirtual 174, 3) := by decide +kernel
theorem dX4_cover_105 : decode cX4_cover 105 = .ok (.aload_n 0, 1) := by decide +kernel
theorem dX4_cover_106 : decode cX4_cover 106 = .ok (.getfield 27, 3) := by decide +kernel
theorem dX4_cover_109 : decode cX4_cover 109 = .ok (.invokevirtual 180, 3) := by decide +kernel
theorem dX4_cover_112 : decode cX4_cover 112 = .ok (.ifCond .eq 41, 3) := by decide +kernel
theorem dX4_cover_115 : decode cX4_cover 115 = .ok (.aload_n 0, 1) := by decide +kernel
theorem dX4_cover_116 : decode cX4_cover 116 = .ok (.getfield 159, 3) := by decide +kernel
theorem dX4_cover_119 : decode cX4_cover 119 = .ok (.ifCond .eq 13, 3) := by decide +kernel
theorem dX4_cover_122 : decode cX4_cover 122 = .ok (.aload_n 0, 1) := by decide +kernel
theorem dX4_cover_123 : decode cX4_cover 123 = .ok (.getfield 31, 3) := by decide +kernel
theorem dX4_cover_126 : decode cX4_cover 126 = .ok (.invokevirtual 180, 3) := by decide +kernel
theorem dX4_cover_129 : decode cX4_cover 129 = .ok (.ifCond .eq 24, 3) := by decide +kernel
theorem dX4_cover_132 : decode cX4_cover 132 = .ok (.aload_n 0, 1) := by decide +kernel
theorem dX4_cover_133 : decode cX4_cover 133 = .ok (.getfield 165, 3) := by decide +kernel
theorem dX4_cover_136 : decode cX4_cover 136 = .ok (.ifCond .eq 13, 3) := by decide +kernel
theorem dX4_cover_139 : decode cX4_cover 139 = .ok (.aload_n 0, 1) := by decide +kernel
theorem dX4_cover_140 : decode cX4_cover 140 = .ok (.getfield 34, 3) := by decide +kernel
theorem dX4_cover_143 : decode cX4_cover 143 = .ok (.invokevirtual 180, 3) := by decide +kernel
theorem dX4_cover_146 : decode cX4_cover 146 = .ok (.ifCond .eq 7, 3) := by decide +kernel
theorem dX4_cover_149 : decode cX4_cover 149 = .ok (.iconst 1, 1) := by decide +kernel
theorem dX4_cover_150 : decode cX4_cover 150 = .ok (.goto 4, 3) := by decide +kernel
theorem dX4_cover_153 : decode cX4_cover 153 = .ok (.iconst 0, 1) := by decide +kernel
theorem dX4_cover_154 : decode cX4_cover 154 = .ok (.ireturn, 1) := by decide +kernel
theorem dX4_coverWhole_0 : decode cX4_coverWhole 0 = .ok (.bipush 8, 2) := by decide +kernel
theorem dX4_coverWhole_2 : decode cX4_coverWhole 2 = .ok (.aload_n 1, 1) := by decide +kernel
theorem dX4_coverWhole_3 : decode cX4_coverWhole 3 = .ok (.getfield 106, 3) := by decide +kernel
theorem dX4_coverWhole_6 : decode cX4_coverWhole 6 = .ok (.iconst 1, 1) := by decide +kernel
theorem dX4_coverWhole_7 : decode cX4_coverWhole 7 = .ok (.iadd, 1) := by decide +kernel
theorem dX4_coverWhole_8 : decode cX4_coverWhole 8 = .ok (.imul, 1) := by decide +kernel
theorem dX4_coverWhole_9 : decode cX4_coverWhole 9 = .ok (.istore_n 2, 1) := by decide +kernel
theorem dX4_coverWhole_10 : decode cX4_coverWhole 10 = .ok (.aload_n 0, 1) := by decide +kernel
theorem dX4_coverWhole_11 : decode cX4_coverWhole 11 = .ok (.iconst 1, 1) := by decide +kernel
theorem dX4_coverWhole_12 : decode cX4_coverWhole 12 = .ok (.putfield 159, 3) := by decide +kernel
theorem dX4_coverWhole_15 : decode cX4_coverWhole 15 = .ok (.aload_n 0, 1) := by decide +kernel
theorem dX4_coverWhole_16 : decode cX4_coverWhole 16 = .ok (.iconst 0, 1) := by decide +kernel
theorem dX4_coverWhole_17 : decode cX4_coverWhole 17 = .ok (.putfield 165, 3) := by decide +kernel
theorem dX4_coverWhole_20 : decode cX4_coverWhole 20 = .ok (.aload_n 0, 1) := by decide +kernel
theorem dX4_coverWhole_21 : decode cX4_coverWhole 21 = .ok (.getfield 27, 3) := by decide +kernel
theorem dX4_coverWhole_24 : decode cX4_coverWhole 24 = .ok (.aload_n 1, 1) := by decide +kernel
theorem dX4_coverWhole_25 : decode cX4_coverWhole 25 = .ok (.getfield 168, 3) := by decide +kernel
theorem dX4_coverWhole_28 : decode cX4_coverWhole 28 = .ok (.aload_n 0, 1) := by decide +kernel
theorem dX4_coverWhole_29 : decode cX4_coverWhole 29 = .ok (.getfield 9, 3) := by decide +kernel
theorem dX4_coverWhole_32 : decode cX4_coverWhole 32 = .ok (.getfield 50, 3) := by decide +kernel
theorem dX4_coverWhole_35 : decode cX4_coverWhole 35 = .ok (.getfield 72, 3) := by decide +kernel
theorem dX4_coverWhole_38 : decode cX4_coverWhole 38 = .ok (.iload_n 2, 1) := by decide +kernel
theorem dX4_coverWhole_39 : decode cX4_coverWhole 39 = .ok (.invokevirtual 174, 3) := by decide +kernel
theorem dX4_coverWhole_42 : decode cX4_coverWhole 42 = .ok (.aload_n 0, 1) := by decide +kernel
theorem dX4_coverWhole_43 : decode cX4_coverWhole 43 = .ok (.getfield 31, 3) := by decide +kernel
theorem dX4_coverWhole_46 : decode cX4_coverWhole 46 = .ok (.aload_n 1, 1) := by decide +kernel
theorem dX4_coverWhole_47 : decode cX4_coverWhole 47 = .ok (.getfield 177, 3) := by decide +kernel
theorem dX4_coverWhole_50 : decode cX4_coverWhole 50 = .ok (.aload_n 0, 1) := by decide +kernel
theorem dX4_coverWhole_51 : decode cX4_coverWhole 51 = .ok (.getfield 9, 3) := by decide +kernel
theorem dX4_coverWhole_54 : decode cX4_coverWhole 54 = .ok (.getfield 50, 3) := by decide +kernel
theorem dX4_coverWhole_57 : decode cX4_coverWhole 57 = .ok (.getfield 72, 3) := by decide +kernel
theorem dX4_coverWhole_60 : decode cX4_coverWhole 60 = .ok (.iload_n 2, 1) := by decide +kernel
theorem dX4_coverWhole_61 : decode cX4_coverWhole 61 = .ok (.invokevirtual 174, 3) := by decide +kernel
theorem dX4_coverWhole_64 : decode cX4_coverWhole 64 = .ok (.aload_n 0, 1) := by decide +kernel
theorem dX4_coverWhole_65 : decode cX4_coverWhole 65 = .ok (.aload_n 0, 1) := by decide +kernel
theorem dX4_coverWhole_66 : decode cX4_coverWhole 66 = .ok (.getfield 27, 3) := by decide +kernel
theorem dX4_coverWhole_69 : decode cX4_coverWhole 69 = .ok (.invokevirtual 183, 3) := by decide +kernel
theorem dX4_coverWhole_72 : decode cX4_coverWhole 72 = .ok (.putfield 115, 3) := by decide +kernel
theorem dX4_coverWhole_75 : decode cX4_coverWhole 75 = .ok (.aload_n 0, 1) := by decide +kernel
theorem dX4_coverWhole_76 : decode cX4_coverWhole 76 = .ok (.getfield 27, 3) := by decide +kernel
theorem dX4_coverWhole_79 : decode cX4_coverWhole 79 = .ok (.invokevirtual 180, 3) := by decide +kernel
theorem dX4_coverWhole_82 : decode cX4_coverWhole 82 = .ok (.ifCond .eq 17, 3) := by decide +kernel
theorem dX4_coverWhole_85 : decode cX4_coverWhole 85 = .ok (.aload_n 0, 1) := by decide +kernel
theorem dX4_coverWhole_86 : decode cX4_coverWhole 86 = .ok (.getfield 31, 3) := by decide +kernel
theorem dX4_coverWhole_89 : decode cX4_coverWhole 89 = .ok (.invokevirtual 180, 3) := by decide +kernel
theorem dX4_coverWhole_92 : decode cX4_coverWhole 92 = .ok (.ifCond .eq 7, 3) := by decide +kernel
theorem dX4_coverWhole_95 : decode cX4_coverWhole 95 = .ok (.iconst 1, 1) := by decide +kernel
theorem dX4_coverWhole_96 : decode cX4_coverWhole 96 = .ok (.goto 4, 3) := by decide +kernel
theorem dX4_coverWhole_99 : decode cX4_coverWhole 99 = .ok (.iconst 0, 1) := by decide +kernel
theorem dX4_coverWhole_100 : decode cX4_coverWhole 100 = .ok (.ireturn, 1) := by decide +kernel
theorem dX4_mayBeTarget_0 : decode cX4_mayBeTarget 0 = .ok (.aload_n 0, 1) := by decide +kernel
theorem dX4_mayBeTarget_1 : decode cX4_mayBeTarget 1 = .ok (.getfield 120, 3) := by decide +kernel
theorem dX4_mayBeTarget_4 : decode cX4_mayBeTarget 4 = .ok (.ifCond .eq 35, 3) := by decide +kernel
theorem dX4_mayBeTarget_7 : decode cX4_mayBeTarget 7 = .ok (.aload_n 0, 1) := by decide +kernel
theorem dX4_mayBeTarget_8 : decode cX4_mayBeTarget 8 = .ok (.getfield 27, 3) := by decide +kernel
theorem dX4_mayBeTarget_11 : decode cX4_mayBeTarget 11 = .ok (.aload_n 0, 1) := by decide +kernel
theorem dX4_mayBeTarget_12 : decode cX4_mayBeTarget 12 = .ok (.getfield 37, 3) := by decide +kernel
theorem dX4_mayBeTarget_15 : decode cX4_mayBeTarget 15 = .ok (.invokevirtual 186, 3) := by decide +kernel
theorem dX4_mayBeTarget_18 : decode cX4_mayBeTarget 18 = .ok (.ifCond .eq 21, 3) := by decide +kernel
theorem dX4_mayBeTarget_21 : decode cX4_mayBeTarget 21 = .ok (.aload_n 0, 1) := by decide +kernel
theorem dX4_mayBeTarget_22 : decode cX4_mayBeTarget 22 = .ok (.getfield 46, 3) := by decide +kernel
theorem dX4_mayBeTarget_25 : decode cX4_mayBeTarget 25 = .ok (.iconst 2, 1) := by decide +kernel
theorem dX4_mayBeTarget_26 : decode cX4_mayBeTarget 26 = .ok (.if_icmp .eq 13, 3) := by decide +kernel
theorem dX4_mayBeTarget_29 : decode cX4_mayBeTarget 29 = .ok (.aload_n 0, 1) := by decide +kernel
theorem dX4_mayBeTarget_30 : decode cX4_mayBeTarget 30 = .ok (.getfield 46, 3) := by decide +kernel
theorem dX4_mayBeTarget_33 : decode cX4_mayBeTarget 33 = .ok (.iconst 4, 1) := by decide +kernel
theorem dX4_mayBeTarget_34 : decode cX4_mayBeTarget 34 = .ok (.if_icmp .eq 5, 3) := by decide +kernel
theorem dX4_mayBeTarget_37 : decode cX4_mayBeTarget 37 = .ok (.iconst 0, 1) := by decide +kernel
theorem dX4_mayBeTarget_38 : decode cX4_mayBeTarget 38 = .ok (.ireturn, 1) := by decide +kernel
theorem dX4_mayBeTarget_39 : decode cX4_mayBeTarget 39 = .ok (.aload_n 0, 1) := by decide +kernel
theorem dX4_mayBeTarget_40 : decode cX4_mayBeTarget 40 = .ok (.aload_n 0, 1) := by decide +kernel
theorem dX4_mayBeTarget_41 : decode cX4_mayBeTarget 41 = .ok (.getfield 31, 3) := by decide +kernel
theorem dX4_mayBeTarget_44 : decode cX4_mayBeTarget 44 = .ok (.aload_n 0, 1) := by decide +kernel
theorem dX4_mayBeTarget_45 : decode cX4_mayBeTarget 45 = .ok (.getfield 159, 3) := by decide +kernel
theorem dX4_mayBeTarget_48 : decode cX4_mayBeTarget 48 = .ok (.invokevirtual 190, 3) := by decide +kernel
theorem dX4_mayBeTarget_51 : decode cX4_mayBeTarget 51 = .ok (.ifCond .eq 22, 3) := by decide +kernel
theorem dX4_mayBeTarget_54 : decode cX4_mayBeTarget 54 = .ok (.aload_n 0, 1) := by decide +kernel
theorem dX4_mayBeTarget_55 : decode cX4_mayBeTarget 55 = .ok (.aload_n 0, 1) := by decide +kernel
theorem dX4_mayBeTarget_56 : decode cX4_mayBeTarget 56 = .ok (.getfield 34, 3) := by decide +kernel
theorem dX4_mayBeTarget_59 : decode cX4_mayBeTarget 59 = .ok (.aload_n 0, 1) := by decide +kernel
theorem dX4_mayBeTarget_60 : decode cX4_mayBeTarget 60 = .ok (.getfield 165, 3) := by decide +kernel
theorem dX4_mayBeTarget_63 : decode cX4_mayBeTarget 63 = .ok (.invokevirtual 190, 3) := by decide +kernel
theorem dX4_mayBeTarget_66 : decode cX4_mayBeTarget 66 = .ok (.ifCond .eq 7, 3) := by decide +kernel
theorem dX4_mayBeTarget_69 : decode cX4_mayBeTarget 69 = .ok (.iconst 1, 1) := by decide +kernel
theorem dX4_mayBeTarget_70 : decode cX4_mayBeTarget 70 = .ok (.goto 4, 3) := by decide +kernel
theorem dX4_mayBeTarget_73 : decode cX4_mayBeTarget 73 = .ok (.iconst 0, 1) := by decide +kernel
theorem dX4_mayBeTarget_74 : decode cX4_mayBeTarget 74 = .ok (.ireturn, 1) := by decide +kernel
theorem dX4_mayTargetMeet_0 : decode cX4_mayTargetMeet 0 = .ok (.iload_n 2, 1) := by decide +kernel
theorem dX4_mayTargetMeet_1 : decode cX4_mayTargetMeet 1 = .ok (.ifCond .ne 5, 3) := by decide +kernel
theorem dX4_mayTargetMeet_4 : decode cX4_mayTargetMeet 4 = .ok (.iconst 1, 1) := by decide +kernel
theorem dX4_mayTargetMeet_5 : decode cX4_mayTargetMeet 5 = .ok (.ireturn, 1) := by decide +kernel
theorem dX4_mayTargetMeet_6 : decode cX4_mayTargetMeet 6 = .ok (.aload_n 0, 1) := by decide +kernel
theorem dX4_mayTargetMeet_7 : decode cX4_mayTargetMeet 7 = .ok (.invokevirtual 194, 3) := by decide +kernel
theorem dX4_mayTargetMeet_10 : decode cX4_mayTargetMeet 10 = .ok (.ifCond .eq 22, 3) := by decide +kernel
theorem dX4_mayTargetMeet_13 : decode cX4_mayTargetMeet 13 = .ok (.aload_n 0, 1) := by decide +kernel
theorem dX4_mayTargetMeet_14 : decode cX4_mayTargetMeet 14 = .ok (.getfield 27, 3) := by decide +kernel
theorem dX4_mayTargetMeet_17 : decode cX4_mayTargetMeet 17 = .ok (.aload_n 1, 1) := by decide +kernel
theorem dX4_mayTargetMeet_18 : decode cX4_mayTargetMeet 18 = .ok (.invokevirtual 186, 3) := by decide +kernel
theorem dX4_mayTargetMeet_21 : decode cX4_mayTargetMeet 21 = .ok (.ifCond .ne 7, 3) := by decide +kernel
theorem dX4_mayTargetMeet_24 : decode cX4_mayTargetMeet 24 = .ok (.iconst 1, 1) := by decide +kernel
theorem dX4_mayTargetMeet_25 : decode cX4_mayTargetMeet 25 = .ok (.goto 15, 3) := by decide +kernel
theorem dX4_mayTargetMeet_28 : decode cX4_mayTargetMeet 28 = .ok (.iconst 0, 1) := by decide +kernel
theorem dX4_mayTargetMeet_29 : decode cX4_mayTargetMeet 29 = .ok (.goto 11, 3) := by decide +kernel
theorem dX4_mayTargetMeet_32 : decode cX4_mayTargetMeet 32 = .ok (.aload_n 0, 1) := by decide +kernel
theorem dX4_mayTargetMeet_33 : decode cX4_mayTargetMeet 33 = .ok (.getfield 27, 3) := by decide +kernel
theorem dX4_mayTargetMeet_36 : decode cX4_mayTargetMeet 36 = .ok (.aload_n 1, 1) := by decide +kernel
theorem dX4_mayTargetMeet_37 : decode cX4_mayTargetMeet 37 = .ok (.invokevirtual 197, 3) := by decide +kernel
theorem dX4_mayTargetMeet_40 : decode cX4_mayTargetMeet 40 = .ok (.ireturn, 1) := by decide +kernel
theorem dX4_staysApart_0 : decode cX4_staysApart 0 = .ok (.aload_n 0, 1) := by decide +kernel
theorem dX4_staysApart_1 : decode cX4_staysApart 1 = .ok (.getfield 46, 3) := by decide +kernel
theorem dX4_staysApart_4 : decode cX4_staysApart 4 = .ok (.tableswitch 66 14 25 #[64, 64, 66, 66, 66, 64, 66, 64, 66, 64, 64, 64], 64) := by decide +kernel
theorem dX4_staysApart_68 : decode cX4_staysApart 68 = .ok (.iconst 1, 1) := by decide +kernel
theorem dX4_staysApart_69 : decode cX4_staysApart 69 = .ok (.ireturn, 1) := by decide +kernel
theorem dX4_staysApart_70 : decode cX4_staysApart 70 = .ok (.iconst 0, 1) := by decide +kernel
theorem dX4_staysApart_71 : decode cX4_staysApart 71 = .ok (.ireturn, 1) := by decide +kernel
theorem dX4_runElements_0 : decode cX4_runElements 0 = .ok (.aload_n 0, 1) := by decide +kernel
theorem dX4_runElements_1 : decode cX4_runElements 1 = .ok (.getfield 9, 3) := by decide +kernel
theorem dX4_runElements_4 : decode cX4_runElements 4 = .ok (.getfield 62, 3) := by decide +kernel
theorem dX4_runElements_7 : decode cX4_runElements 7 = .ok (.aload_n 0, 1) := by decide +kernel
theorem dX4_runElements_8 : decode cX4_runElements 8 = .ok (.getfield 115, 3) := by decide +kernel
theorem dX4_runElements_11 : decode cX4_runElements 11 = .ok (.if_icmp .lt 5, 3) := by decide +kernel
theorem dX4_runElements_14 : decode cX4_runElements 14 = .ok (.iconst 0, 1) := by decide +kernel
theorem dX4_runElements_15 : decode cX4_runElements 15 = .ok (.ireturn, 1) := by decide +kernel
theorem dX4_runElements_16 : decode cX4_runElements 16 = .ok (.aload_n 0, 1) := by decide +kernel
theorem dX4_runElements_17 : decode cX4_runElements 17 = .ok (.getfield 46, 3) := by decide +kernel
theorem dX4_runElements_20 : decode cX4_runElements 20 = .ok (.bipush 25, 2) := by decide +kernel
theorem dX4_runElements_22 : decode cX4_runElements 22 = .ok (.if_icmp .ne 17, 3) := by decide +kernel
theorem dX4_runElements_25 : decode cX4_runElements 25 = .ok (.aload_n 0, 1) := by decide +kernel
theorem dX4_runElements_26 : decode cX4_runElements 26 = .ok (.getfield 27, 3) := by decide +kernel
theorem dX4_runElements_29 : decode cX4_runElements 29 = .ok (.aload_n 0, 1) := by decide +kernel
theorem dX4_runElements_30 : decode cX4_runElements 30 = .ok (.invokevirtual 200, 3) := by decide +kernel
theorem dX4_runElements_33 : decode cX4_runElements 33 = .ok (.iconst 0, 1) := by decide +kernel
theorem dX4_runElements_34 : decode cX4_runElements 34 = .ok (.invokevirtual 203, 3) := by decide +kernel
theorem dX4_runElements_37 : decode cX4_runElements 37 = .ok (.iconst 0, 1) := by decide +kernel
theorem dX4_runElements_38 : decode cX4_runElements 38 = .ok (.ireturn, 1) := by decide +kernel
theorem dX4_runElements_39 : decode cX4_runElements 39 = .ok (.aload_n 0, 1) := by decide +kernel
theorem dX4_runElements_40 : decode cX4_runElements 40 = .ok (.invokevirtual 207, 3) := by decide +kernel
theorem dX4_runElements_43 : decode cX4_runElements 43 = .ok (.istore_n 1, 1) := by decide +kernel
theorem dX4_runElements_44 : decode cX4_runElements 44 = .ok (.iload_n 1, 1) := by decide +kernel
theorem dX4_runElements_45 : decode cX4_runElements 45 = .ok (.aload_n 0, 1) := by decide +kernel
theorem dX4_runElements_46 : decode cX4_runElements 46 = .ok (.getfield 115, 3) := by decide +kernel
theorem dX4_runElements_49 : decode cX4_runElements 49 = .ok (.if_icmp .ge 54, 3) := by decide +kernel
theorem dX4_runElements_52 : decode cX4_runElements 52 = .ok (.aload_n 0, 1) := by decide +kernel
theorem dX4_runElements_53 : decode cX4_runElements 53 = .ok (.iload_n 1, 1) := by decide +kernel
theorem dX4_runElements_54 : decode cX4_runElements 54 = .ok (.invokevirtual 210, 3) := by decide +kernel
theorem dX4_runElements_57 : decode cX4_runElements 57 = .ok (.ifCond .eq 19, 3) := by decide +kernel
theorem dX4_runElements_60 : decode cX4_runElements 60 = .ok (.aload_n 0, 1) := by decide +kernel
theorem dX4_runElements_61 : decode cX4_runElements 61 = .ok (.getfield 27, 3) := by decide +kernel
theorem dX4_runElements_64 : decode cX4_runElements 64 = .ok (.iload_n 1, 1) := by decide +kernel
theorem dX4_runElements_65 : decode cX4_runElements 65 = .ok (.aload_n 0, 1) := by decide +kernel
theorem dX4_runElements_66 : decode cX4_runElements 66 = .ok (.iload_n 1, 1) := by decide +kernel
theorem dX4_runElements_67 : decode cX4_runElements 67 = .ok (.invokevirtual 214, 3) := by decide +kernel
theorem dX4_runElements_70 : decode cX4_runElements 70 = .ok (.invokevirtual 217, 3) := by decide +kernel
theorem dX4_runElements_73 : decode cX4_runElements 73 = .ok (.goto 24, 3) := by decide +kernel
theorem dX4_runElements_76 : decode cX4_runElements 76 = .ok (.aload_n 0, 1) := by decide +kernel
theorem dX4_runElements_77 : decode cX4_runElements 77 = .ok (.getfield 9, 3) := by decide +kernel
theorem dX4_runElements_80 : decode cX4_runElements 80 = .ok (.getfield 50, 3) := by decide +kernel
theorem dX4_runElements_83 : decode cX4_runElements 83 = .ok (.getfield 221, 3) := by decide +kernel
theorem dX4_runElements_86 : decode cX4_runElements 86 = .ok (.ifCond .eq 11, 3) := by decide +kernel
theorem dX4_runElements_89 : decode cX4_runElements 89 = .ok (.aload_n 0, 1) := by decide +kernel
theorem dX4_runElements_90 : decode cX4_runElements 90 = .ok (.getfield 27, 3) := by decide +kernel
theorem dX4_runElements_93 : decode cX4_runElements 93 = .ok (.iload_n 1, 1) := by decide +kernel
theorem dX4_runElements_94 : decode cX4_runElements 94 = .ok (.invokevirtual 224, 3) := by decide +kernel
theorem dX4_runElements_97 : decode cX4_runElements 97 = .ok (.iinc 1 1, 3) := by decide +kernel
theorem dX4_runElements_100 : decode cX4_runElements 100 = .ok (.goto (-56), 3) := by decide +kernel
theorem dX4_runElements_103 : decode cX4_runElements 103 = .ok (.aload_n 0, 1) := by decide +kernel
theorem dX4_runElements_104 : decode cX4_runElements 104 = .ok (.getfield 27, 3) := by decide +kernel
theorem dX4_runElements_107 : decode cX4_runElements 107 = .ok (.aload_n 0, 1) := by decide +kernel
theorem dX4_runElements_108 : decode cX4_runElements 108 = .ok (.getfield 115, 3) := by decide +kernel
theorem dX4_runElements_111 : decode cX4_runElements 111 = .ok (.aload_n 0, 1) := by decide +kernel
theorem dX4_runElements_112 : decode cX4_runElements 112 = .ok (.getfield 27, 3) := by decide +kernel
theorem dX4_runElements_115 : decode cX4_runElements 115 = .ok (.getfield 227, 3) := by decide +kernel
theorem dX4_runElements_118 : decode cX4_runElements 118 = .ok (.iconst 1, 1) := by decide +kernel
theorem dX4_runElements_119 : decode cX4_runElements 119 = .ok (.if_icmp .ne 7, 3) := by decide +kernel
theorem dX4_runElements_122 : decode cX4_runElements 122 = .ok (.iconst 1, 1) := by decide +kernel
theorem dX4_runElements_123 : decode cX4_runElements 123 = .ok (.goto 4, 3) := by decide +kernel
theorem dX4_runElements_126 : decode cX4_runElements 126 = .ok (.iconst 0, 1) := by decide +kernel
theorem dX4_runElements_127 : decode cX4_runElements 127 = .ok (.invokevirtual 203, 3) := by decide +kernel
theorem dX4_runElements_130 : decode cX4_runElements 130 = .ok (.iconst 0, 1) := by decide +kernel
theorem dX4_runElements_131 : decode cX4_runElements 131 = .ok (.ireturn, 1) := by decide +kernel
theorem dX4_firstElement_0 : decode cX4_firstElement 0 = .ok (.aload_n 0, 1) := by decide +kernel
theorem dX4_firstElement_1 : decode cX4_firstElement 1 = .ok (.getfield 46, 3) := by decide +kernel
theorem dX4_firstElement_4 : decode cX4_firstElement 4 = .ok (.bipush 19, 2) := by decide +kernel
theorem dX4_firstElement_6 : decode cX4_firstElement 6 = .ok (.if_icmp .ne 33, 3) := by decide +kernel
theorem dX4_firstElement_9 : decode cX4_firstElement 9 = .ok (.aload_n 0, 1) := by decide +kernel
theorem dX4_firstElement_10 : decode cX4_firstElement 10 = .ok (.getfield 149, 3) := by decide +kernel
theorem dX4_firstElement_13 : decode cX4_firstElement 13 = .ok (.aload_n 0, 1) := by decide +kernel
theorem dX4_firstElement_14 : decode cX4_firstElement 14 = .ok (.getfield 9, 3) := by decide +kernel
theorem dX4_firstElement_17 : decode cX4_firstElement 17 = .ok (.getfield 62, 3) := by decide +kernel
theorem dX4_firstElement_20 : decode cX4_firstElement 20 = .ok (.i2l, 1) := by decide +kernel
theorem dX4_firstElement_21 : decode cX4_firstElement 21 = .ok (.lcmp, 1) := by decide +kernel
theorem dX4_firstElement_22 : decode cX4_firstElement 22 = .ok (.ifCond .le 17, 3) := by decide +kernel
theorem dX4_firstElement_25 : decode cX4_firstElement 25 = .ok (.aload_n 0, 1) := by decide +kernel
theorem dX4_firstElement_26 : decode cX4_firstElement 26 = .ok (.getfield 149, 3) := by decide +kernel
theorem dX4_firstElement_29 : decode cX4_firstElement 29 = .ok (.aload_n 0, 1) := by decide +kernel
theorem dX4_firstElement_30 : decode cX4_firstElement 30 = .ok (.getfield 115, 3) := by decide +kernel
theorem dX4_firstElement_33 : decode cX4_firstElement 33 = .ok (.i2l, 1) := by decide +kernel
theorem dX4_firstElement_34 : decode cX4_firstElement 34 = .ok (.invokestatic 230, 3) := by decide +kernel
theorem dX4_firstElement_37 : decode cX4_firstElement 37 = .ok (.l2i, 1) := by decide +kernel
theorem dX4_firstElement_38 : decode cX4_firstElement 38 = .ok (.ireturn, 1) := by decide +kernel
theorem dX4_firstElement_39 : decode cX4_firstElement 39 = .ok (.aload_n 0, 1) := by decide +kernel
theorem dX4_firstElement_40 : decode cX4_firstElement 40 = .ok (.getfield 9, 3) := by decide +kernel
theorem dX4_firstElement_43 : decode cX4_firstElement 43 = .ok (.getfield 62, 3) := by decide +kernel
theorem dX4_firstElement_46 : decode cX4_firstElement 46 = .ok (.ireturn, 1) := by decide +kernel
theorem dX4_isActive_0 : decode cX4_isActive 0 = .ok (.aload_n 0, 1) := by decide +kernel
theorem dX4_isActive_1 : decode cX4_isActive 1 = .ok (.getfield 120, 3) := by decide +kernel
theorem dX4_isActive_4 : decode cX4_isActive 4 = .ok (.ifCond .eq 40, 3) := by decide +kernel
theorem dX4_isActive_7 : decode cX4_isActive 7 = .ok (.aload_n 0, 1) := by decide +kernel
theorem dX4_isActive_8 : decode cX4_isActive 8 = .ok (.getfield 46, 3) := by decide +kernel
theorem dX4_isActive_11 : decode cX4_isActive 11 = .ok (.iconst 5, 1) := by decide +kernel
theorem dX4_isActive_12 : decode cX4_isActive 12 = .ok (.if_icmp .eq 32, 3) := by decide +kernel
theorem dX4_isActive_15 : decode cX4_isActive 15 = .ok (.aload_n 0, 1) := by decide +kernel
theorem dX4_isActive_16 : decode cX4_isActive 16 = .ok (.getfield 46, 3) := by decide +kernel
theorem dX4_isActive_19 : decode cX4_isActive 19 = .ok (.iconst 3, 1) := by decide +kernel
theorem dX4_isActive_20 : decode cX4_isActive 20 = .ok (.if_icmp .eq 24, 3) := by decide +kernel
theorem dX4_isActive_23 : decode cX4_isActive 23 = .ok (.aload_n 0, 1) := by decide +kernel
theorem dX4_isActive_24 : decode cX4_isActive 24 = .ok (.getfield 46, 3) := by decide +kernel
theorem dX4_isActive_27 : decode cX4_isActive 27 = .ok (.iconst 4, 1) := by decide +kernel
theorem dX4_isActive_28 : decode cX4_isActive 28 = .ok (.if_icmp .eq 16, 3) := by decide +kernel
theorem dX4_isActive_31 : decode cX4_isActive 31 = .ok (.aload_n 0, 1) := by decide +kernel
theorem dX4_isActive_32 : decode cX4_isActive 32 = .ok (.getfield 37, 3) := by decide +kernel
theorem dX4_isActive_35 : decode cX4_isActive 35 = .ok (.iload_n 1, 1) := by decide +kernel
theorem dX4_isActive_36 : decode cX4_isActive 36 = .ok (.invokevirtual 236, 3) := by decide +kernel
theorem dX4_isActive_39 : decode cX4_isActive 39 = .ok (.lconst 1, 1) := by decide +kernel
theorem dX4_isActive_40 : decode cX4_isActive 40 = .ok (.lcmp, 1) := by decide +kernel
theorem dX4_isActive_41 : decode cX4_isActive 41 = .ok (.ifCond .ne 7, 3) := by decide +kernel
theorem dX4_isActive_44 : decode cX4_isActive 44 = .ok (.iconst 1, 1) := by decide +kernel
theorem dX4_isActive_45 : decode cX4_isActive 45 = .ok (.goto 4, 3) := by decide +kernel
theorem dX4_isActive_48 : decode cX4_isActive 48 = .ok (.iconst 0, 1) := by decide +kernel
theorem dX4_isActive_49 : decode cX4_isActive 49 = .ok (.ireturn, 1) := by decide +kernel
theorem dX4_valueAt_0 : decode cX4_valueAt 0 = .ok (.aload_n 0, 1) := by decide +kernel
theorem dX4_valueAt_1 : decode cX4_valueAt 1 = .ok (.getfield 46, 3) := by decide +kernel
theorem dX4_valueAt_4 : decode cX4_valueAt 4 = .ok (.tableswitch 368 1 16 #[335, 80, 105, 138, 182, 335, 335, 335, 219, 368, 368, 258, 368, 286, 309, 332], 80) := by decide +kernel
theorem dX4_valueAt_84 : decode cX4_valueAt 84 = .ok (.aload_n 0, 1) := by decide +kernel
theorem dX4_valueAt_85 : decode cX4_valueAt 85 = .ok (.getfield 20, 3) := by decide +kernel
theorem dX4_valueAt_88 : decode cX4_valueAt 88 = .ok (.aload_n 0, 1) := by decide +kernel
theorem dX4_valueAt_89 : decode cX4_valueAt 89 = .ok (.getfield 104, 3) := by decide +kernel
theorem dX4_valueAt_92 : decode cX4_valueAt 92 = .ok (.aload_n 0, 1) := by decide +kernel
theorem dX4_valueAt_93 : decode cX4_valueAt 93 = .ok (.getfield 31, 3) := by decide +kernel
theorem dX4_valueAt_96 : decode cX4_valueAt 96 = .ok (.iload_n 1, 1) := by decide +kernel
theorem dX4_valueAt_97 : decode cX4_valueAt 97 = .ok (.invokevirtual 236, 3) := by decide +kernel
theorem dX4_valueAt_100 : decode cX4_valueAt 100 = .ok (.aload_n 0, 1) := by decide +kernel
theorem dX4_valueAt_101 : decode cX4_valueAt 101 = .ok (.iload_n 1, 1) := by decide +kernel
theorem dX4_valueAt_102 : decode cX4_valueAt 102 = .ok (.invokevirtual 239, 3) := by decide +kernel
theorem dX4_valueAt_105 : decode cX4_valueAt 105 = .ok (.invokevirtual 242, 3) := by decide +kernel
theorem dX4_valueAt_108 : decode cX4_valueAt 108 = .ok (.lreturn, 1) := by decide +kernel
theorem dX4_valueAt_109 : decode cX4_valueAt 109 = .ok (.aload_n 0, 1) := by decide +kernel
theorem dX4_valueAt_110 : decode cX4_valueAt 110 = .ok (.getfield 20, 3) := by decide +kernel
theorem dX4_valueAt_113 : decode cX4_valueAt 113 = .ok (.aload_n 0, 1) := by decide +kernel
theorem dX4_valueAt_114 : decode cX4_valueAt 114 = .ok (.getfield 104, 3) := by decide +kernel
theorem dX4_valueAt_117 : decode cX4_valueAt 117 = .ok (.aload_n 0, 1) := by decide +kernel
theorem dX4_valueAt_118 : decode cX4_valueAt 118 = .ok (.getfield 31, 3) := by decide +kernel
theorem dX4_valueAt_121 : decode cX4_valueAt 121 = .ok (.iload_n 1, 1) := by decide +kernel
theorem dX4_valueAt_122 : decode cX4_valueAt 122 = .ok (.invokevirtual 236, 3) := by decide +kernel
theorem dX4_valueAt_125 : decode cX4_valueAt 125 = .ok (.aload_n 0, 1) := by decide +kernel
theorem dX4_valueAt_126 : decode cX4_valueAt 126 = .ok (.iload_n 1, 1) := by decide +kernel
theorem dX4_valueAt_127 : decode cX4_valueAt 127 = .ok (.invokevirtual 239, 3) := by decide +kernel
theorem dX4_valueAt_130 : decode cX4_valueAt 130 = .ok (.aload_n 0, 1) := by decide +kernel
theorem dX4_valueAt_131 : decode cX4_valueAt 131 = .ok (.getfield 37, 3) := by decide +kernel
theorem dX4_valueAt_134 : decode cX4_valueAt 134 = .ok (.iload_n 1, 1) := by decide +kernel
theorem dX4_valueAt_135 : decode cX4_valueAt 135 = .ok (.invokevirtual 236, 3) := by decide +kernel
theorem dX4_valueAt_138 : decode cX4_valueAt 138 = .ok (.invokevirtual 246, 3) := by decide +kernel
theorem dX4_valueAt_141 : decode cX4_valueAt 141 = .ok (.lreturn, 1) := by decide +kernel
theorem dX4_valueAt_142 : decode cX4_valueAt 142 = .ok (.aload_n 0, 1) := by decide +kernel
theorem dX4_valueAt_143 : decode cX4_valueAt 143 = .ok (.getfield 20, 3) := by decide +kernel
theorem dX4_valueAt_146 : decode cX4_valueAt 146 = .ok (.aload_n 0, 1) := by decide +kernel
theorem dX4_valueAt_147 : decode cX4_valueAt 147 = .ok (.getfield 104, 3) := by decide +kernel
theorem dX4_valueAt_150 : decode cX4_valueAt 150 = .ok (.aload_n 0, 1) := by decide +kernel
theorem dX4_valueAt_151 : decode cX4_valueAt 151 = .ok (.getfield 31, 3) := by decide +kernel
theorem dX4_valueAt_154 : decode cX4_valueAt 154 = .ok (.iload_n 1, 1) := by decide +kernel
theorem dX4_valueAt_155 : decode cX4_valueAt 155 = .ok (.invokevirtual 236, 3) := by decide +kernel
theorem dX4_valueAt_158 : decode cX4_valueAt 158 = .ok (.aload_n 0, 1) := by decide +kernel
theorem dX4_valueAt_159 : decode cX4_valueAt 159 = .ok (.iload_n 1, 1) := by decide +kernel
theorem dX4_valueAt_160 : decode cX4_valueAt 160 = .ok (.invokevirtual 239, 3) := by decide +kernel
theorem dX4_valueAt_163 : decode cX4_valueAt 163 = .ok (.aload_n 0, 1) := by decide +kernel
theorem dX4_valueAt_164 : decode cX4_valueAt 164 = .ok (.getfield 120, 3) := by decide +kernel
theorem dX4_valueAt_167 : decode cX4_valueAt 167 = .ok (.ifCond .eq 14, 3) := by decide +kernel
theorem dX4_valueAt_170 : decode cX4_valueAt 170 = .ok (.aload_n 0, 1) := by decide +kernel
theorem dX4_valueAt_171 : decode cX4_valueAt 171 = .ok (.getfield 37, 3) := by decide +kernel
theorem dX4_valueAt_174 : decode cX4_valueAt 174 = .ok (.iload_n 1, 1) := by decide +kernel
theorem dX4_valueAt_175 : decode cX4_valueAt 175 = .ok (.invokevirtual 236, 3) := by decide +kernel
theorem dX4_valueAt_178 : decode cX4_valueAt 178 = .ok (.goto 4, 3) := by decide +kernel
theorem dX4_valueAt_181 : decode cX4_valueAt 181 = .ok (.lconst 0, 1) := by decide +kernel
theorem dX4_valueAt_182 : decode cX4_valueAt 182 = .ok (.invokevirtual 250, 3) := by decide +kernel
theorem dX4_valueAt_185 : decode cX4_valueAt 185 = .ok (.lreturn, 1) := by decide +kernel
theorem dX4_valueAt_186 : decode cX4_valueAt 186 = .ok (.aload_n 0, 1) := by decide +kernel
theorem dX4_valueAt_187 : decode cX4_valueAt 187 = .ok (.getfield 120, 3) := by decide +kernel
theorem dX4_valueAt_190 : decode cX4_valueAt 190 = .ok (.ifCond .eq 16, 3) := by decide +kernel
theorem dX4_valueAt_193 : decode cX4_valueAt 193 = .ok (.aload_n 0, 1) := by decide +kernel
theorem dX4_valueAt_194 : decode cX4_valueAt 194 = .ok (.getfield 37, 3) := by decide +kernel
theorem dX4_valueAt_197 : decode cX4_valueAt 197 = .ok (.iload_n 1, 1) := by decide +kernel
theorem dX4_valueAt_198 : decode cX4_valueAt 198 = .ok (.invokevirtual 236, 3) := by decide +kernel
theorem dX4_valueAt_201 : decode cX4_valueAt 201 = .ok (.lconst 1, 1) := by decide +kernel
theorem dX4_valueAt_202 : decode cX4_valueAt 202 = .ok (.lcmp, 1) := by decide +kernel
theorem dX4_valueAt_203 : decode cX4_valueAt 203 = .ok (.ifCond .ne 11, 3) := by decide +kernel
theorem dX4_valueAt_206 : decode cX4_valueAt 206 = .ok (.aload_n 0, 1) := by decide +kernel
theorem dX4_valueAt_207 : decode cX4_valueAt 207 = .ok (.iload_n 1, 1) := by decide +kernel
theorem dX4_valueAt_208 : decode cX4_valueAt 208 = .ok (.invokevirtual 239, 3) := by decide +kernel
theorem dX4_valueAt_211 : decode cX4_valueAt 211 = .ok (.goto 11, 3) := by decide +kernel
theorem dX4_valueAt_214 : decode cX4_valueAt 214 = .ok (.aload_n 0, 1) := by decide +kernel
theorem dX4_valueAt_215 : decode cX4_valueAt 215 = .ok (.getfield 31, 3) := by decide +kernel
theorem dX4_valueAt_218 : decode cX4_valueAt 218 = .ok (.iload_n 1, 1) := by decide +kernel
theorem dX4_valueAt_219 : decode cX4_valueAt 219 = .ok (.invokevirtual 236, 3) := by decide +kernel
theorem dX4_valueAt_222 : decode cX4_valueAt 222 = .ok (.lreturn, 1) := by decide +kernel
theorem dX4_valueAt_223 : decode cX4_valueAt 223 = .ok (.aload_n 0, 1) := by decide +kernel
theorem dX4_valueAt_224 : decode cX4_valueAt 224 = .ok (.getfield 109, 3) := by decide +kernel
theorem dX4_valueAt_227 : decode cX4_valueAt 227 = .ok (.iconst 1, 1) := by decide +kernel
theorem dX4_valueAt_228 : decode cX4_valueAt 228 = .ok (.iand, 1) := by decide +kernel
theorem dX4_valueAt_229 : decode cX4_valueAt 229 = .ok (.ifCond .ne 14, 3) := by decide +kernel
theorem dX4_valueAt_232 : decode cX4_valueAt 232 = .ok (.aload_n 0, 1) := by decide +kernel
theorem dX4_valueAt_233 : decode cX4_valueAt 233 = .ok (.getfield 31, 3) := by decide +kernel
theorem dX4_valueAt_236 : decode cX4_valueAt 236 = .ok (.iload_n 1, 1) := by decide +kernel
theorem dX4_valueAt_237 : decode cX4_valueAt 237 = .ok (.invokevirtual 236, 3) := by decide +kernel
theorem dX4_valueAt_240 : decode cX4_valueAt 240 = .ok (.goto 21, 3) := by decide +kernel
theorem dX4_valueAt_243 : decode cX4_valueAt 243 = .ok (.aload_n 0, 1) := by decide +kernel
theorem dX4_valueAt_244 : decode cX4_valueAt 244 = .ok (.getfield 31, 3) := by decide +kernel
theorem dX4_valueAt_247 : decode cX4_valueAt 247 = .ok (.iload_n 1, 1) := by decide +kernel
theorem dX4_valueAt_248 : decode cX4_valueAt 248 = .ok (.invokevirtual 236, 3) := by decide +kernel
theorem dX4_valueAt_251 : decode cX4_valueAt 251 = .ok (.aload_n 0, 1) := by decide +kernel
theorem dX4_valueAt_252 : decode cX4_valueAt 252 = .ok (.getfield 31, 3) := by decide +kernel
theorem dX4_valueAt_255 : decode cX4_valueAt 255 = .ok (.getfield 227, 3) := by decide +kernel
theorem dX4_valueAt_258 : decode cX4_valueAt 258 = .ok (.invokestatic 133, 3) := by decide +kernel
theorem dX4_valueAt_261 : decode cX4_valueAt 261 = .ok (.lreturn, 1) := by decide +kernel
theorem dX4_valueAt_262 : decode cX4_valueAt 262 = .ok (.aload_n 0, 1) := by decide +kernel
theorem dX4_valueAt_263 : decode cX4_valueAt 263 = .ok (.getfield 20, 3) := by decide +kernel
theorem dX4_valueAt_266 : decode cX4_valueAt 266 = .ok (.aload_n 0, 1) := by decide +kernel
theorem dX4_valueAt_267 : decode cX4_valueAt 267 = .ok (.getfield 104, 3) := by decide +kernel
theorem dX4_valueAt_270 : decode cX4_valueAt 270 = .ok (.aload_n 0, 1) := by decide +kernel
theorem dX4_valueAt_271 : decode cX4_valueAt 271 = .ok (.getfield 31, 3) := by decide +kernel
theorem dX4_valueAt_274 : decode cX4_valueAt 274 = .ok (.iload_n 1, 1) := by decide +kernel
theorem dX4_valueAt_275 : decode cX4_valueAt 275 = .ok (.invokevirtual 236, 3) := by decide +kernel
theorem dX4_valueAt_278 : decode cX4_valueAt 278 = .ok (.aload_n 0, 1) := by decide +kernel
theorem dX4_valueAt_279 : decode cX4_valueAt 279 = .ok (.getfield 34, 3) := by decide +kernel
theorem dX4_valueAt_282 : decode cX4_valueAt 282 = .ok (.iload_n 1, 1) := by decide +kernel
theorem dX4_valueAt_283 : decode cX4_valueAt 283 = .ok (.invokevirtual 236, 3) := by decide +kernel
theorem dX4_valueAt_286 : decode cX4_valueAt 286 = .ok (.invokevirtual 253, 3) := by decide +kernel
theorem dX4_valueAt_289 : decode cX4_valueAt 289 = .ok (.lreturn, 1) := by decide +kernel
theorem dX4_valueAt_290 : decode cX4_valueAt 290 = .ok (.aload_n 0, 1) := by decide +kernel
theorem dX4_valueAt_291 : decode cX4_valueAt 291 = .ok (.aload_n 0, 1) := by decide +kernel
theorem dX4_valueAt_292 : decode cX4_valueAt 292 = .ok (.getfield 31, 3) := by decide +kernel
theorem dX4_valueAt_295 : decode cX4_valueAt 295 = .ok (.iload_n 1, 1) := by decide +kernel
theorem dX4_valueAt_296 : decode cX4_valueAt 296 = .ok (.invokevirtual 236, 3) := by decide +kernel
theorem dX4_valueAt_299 : decode cX4_valueAt 299 = .ok (.lconst 1, 1) := by decide +kernel
theorem dX4_valueAt_300 : decode cX4_valueAt 300 = .ok (.lcmp, 1) := by decide +kernel
theorem dX4_valueAt_301 : decode cX4_valueAt 301 = .ok (.ifCond .ne 7, 3) := by decide +kernel
theorem dX4_valueAt_304 : decode cX4_valueAt 304 = .ok (.iconst 1, 1) := by decide +kernel
theorem dX4_valueAt_305 : decode cX4_valueAt 305 = .ok (.goto 4, 3) := by decide +kernel
theorem dX4_valueAt_308 : decode cX4_valueAt 308 = .ok (.iconst 0, 1) := by decide +kernel
theorem dX4_valueAt_309 : decode cX4_valueAt 309 = .ok (.invokevirtual 256, 3) := by decide +kernel
theorem dX4_valueAt_312 : decode cX4_valueAt 312 = .ok (.lreturn, 1) := by decide +kernel
theorem dX4_valueAt_313 : decode cX4_valueAt 313 = .ok (.aload_n 0, 1) := by decide +kernel
theorem dX4_valueAt_314 : decode cX4_valueAt 314 = .ok (.aload_n 0, 1) := by decide +kernel
theorem dX4_valueAt_315 : decode cX4_valueAt 315 = .ok (.getfield 31, 3) := by decide +kernel
theorem dX4_valueAt_318 : decode cX4_valueAt 318 = .ok (.iload_n 1, 1) := by decide +kernel
theorem dX4_valueAt_319 : decode cX4_valueAt 319 = .ok (.invokevirtual 236, 3) := by decide +kernel
theorem dX4_valueAt_322 : decode cX4_valueAt 322 = .ok (.lconst 1, 1) := by decide +kernel
theorem dX4_valueAt_323 : decode cX4_valueAt 323 = .ok (.lcmp, 1) := by decide +kernel
theorem dX4_valueAt_324 : decode cX4_valueAt 324 = .ok (.ifCond .ne 7, 3) := by decide +kernel
theorem dX4_valueAt_327 : decode cX4_valueAt 327 = .ok (.iconst 1, 1) := by decide +kernel
theorem dX4_valueAt_328 : decode cX4_valueAt 328 = .ok (.goto 4, 3) := by decide +kernel
theorem dX4_valueAt_331 : decode cX4_valueAt 331 = .ok (.iconst 0, 1) := by decide +kernel
theorem dX4_valueAt_332 : decode cX4_valueAt 332 = .ok (.invokevirtual 260, 3) := by decide +kernel
theorem dX4_valueAt_335 : decode cX4_valueAt 335 = .ok (.lreturn, 1) := by decide +kernel
theorem dX4_valueAt_336 : decode cX4_valueAt 336 = .ok (.iload_n 1, 1) := by decide +kernel
theorem dX4_valueAt_337 : decode cX4_valueAt 337 = .ok (.i2l, 1) := by decide +kernel
theorem dX4_valueAt_338 : decode cX4_valueAt 338 = .ok (.lreturn, 1) := by decide +kernel
theorem dX4_valueAt_339 : decode cX4_valueAt 339 = .ok (.aload_n 0, 1) := by decide +kernel
theorem dX4_valueAt_340 : decode cX4_valueAt 340 = .ok (.getfield 20, 3) := by decide +kernel
theorem dX4_valueAt_343 : decode cX4_valueAt 343 = .ok (.aload_n 0, 1) := by decide +kernel
theorem dX4_valueAt_344 : decode cX4_valueAt 344 = .ok (.getfield 104, 3) := by decide +kernel
theorem dX4_valueAt_347 : decode cX4_valueAt 347 = .ok (.aload_n 0, 1) := by decide +kernel
theorem dX4_valueAt_348 : decode cX4_valueAt 348 = .ok (.getfield 31, 3) := by decide +kernel
theorem dX4_valueAt_351 : decode cX4_valueAt 351 = .ok (.iload_n 1, 1) := by decide +kernel
theorem dX4_valueAt_352 : decode cX4_valueAt 352 = .ok (.invokevirtual 236, 3) := by decide +kernel
theorem dX4_valueAt_355 : decode cX4_valueAt 355 = .ok (.aload_n 0, 1) := by decide +kernel
theorem dX4_valueAt_356 : decode cX4_valueAt 356 = .ok (.iload_n 1, 1) := by decide +kernel
theorem dX4_valueAt_357 : decode cX4_valueAt 357 = .ok (.invokevirtual 239, 3) := by decide +kernel
theorem dX4_valueAt_360 : decode cX4_valueAt 360 = .ok (.aload_n 0, 1) := by decide +kernel
theorem dX4_valueAt_361 : decode cX4_valueAt 361 = .ok (.getfield 27, 3) := by decide +kernel
theorem dX4_valueAt_364 : decode cX4_valueAt 364 = .ok (.iload_n 1, 1) := by decide +kernel
theorem dX4_valueAt_365 : decode cX4_valueAt 365 = .ok (.invokevirtual 236, 3) := by decide +kernel
theorem dX4_valueAt_368 : decode cX4_valueAt 368 = .ok (.invokevirtual 263, 3) := by decide +kernel
theorem dX4_valueAt_371 : decode cX4_valueAt 371 = .ok (.lreturn, 1) := by decide +kernel
theorem dX4_valueAt_372 : decode cX4_valueAt 372 = .ok (.aload_n 0, 1) := by decide +kernel
theorem dX4_valueAt_373 : decode cX4_valueAt 373 = .ok (.iload_n 1, 1) := by decide +kernel
theorem dX4_valueAt_374 : decode cX4_valueAt 374 = .ok (.invokevirtual 266, 3) := by decide +kernel
theorem dX4_valueAt_377 : decode cX4_valueAt 377 = .ok (.lreturn, 1) := by decide +kernel
theorem dX4_rightAt_0 : decode cX4_rightAt 0 = .ok (.aload_n 0, 1) := by decide +kernel
theorem dX4_rightAt_1 : decode cX4_rightAt 1 = .ok (.getfield 165, 3) := by decide +kernel
theorem dX4_rightAt_4 : decode cX4_rightAt 4 = .ok (.ifCond .eq 14, 3) := by decide +kernel
theorem dX4_rightAt_7 : decode cX4_rightAt 7 = .ok (.aload_n 0, 1) := by decide +kernel
theorem dX4_rightAt_8 : decode cX4_rightAt 8 = .ok (.getfield 34, 3) := by decide +kernel
theorem dX4_rightAt_11 : decode cX4_rightAt 11 = .ok (.iload_n 1, 1) := by decide +kernel
theorem dX4_rightAt_12 : decode cX4_rightAt 12 = .ok (.invokevirtual 236, 3) := by decide +kernel
theorem dX4_rightAt_15 : decode cX4_rightAt 15 = .ok (.goto 7, 3) := by decide +kernel
theorem dX4_rightAt_18 : decode cX4_rightAt 18 = .ok (.aload_n 0, 1) := by decide +kernel
theorem dX4_rightAt_19 : decode cX4_rightAt 19 = .ok (.getfield 145, 3) := by decide +kernel
theorem dX4_rightAt_22 : decode cX4_rightAt 22 = .ok (.lreturn, 1) := by decide +kernel
theorem dX4_movedTo_0 : decode cX4_movedTo 0 = .ok (.aload_n 0, 1) := by decide +kernel
theorem dX4_movedTo_1 : decode cX4_movedTo 1 = .ok (.getfield 46, 3) := by decide +kernel
theorem dX4_movedTo_4 : decode cX4_movedTo 4 = .ok (.tableswitch 141 19 24 #[40, 52, 64, 86, 114, 114], 40) := by decide +kernel
theorem dX4_movedTo_44 : decode cX4_movedTo 44 = .ok (.aload_n 0, 1) := by decide +kernel
theorem dX4_movedTo_45 : decode cX4_movedTo 45 = .ok (.iload_n 1, 1) := by decide +kernel
theorem dX4_movedTo_46 : decode cX4_movedTo 46 = .ok (.i2l, 1) := by decide +kernel
theorem dX4_movedTo_47 : decode cX4_movedTo 47 = .ok (.aload_n 0, 1) := by decide +kernel
theorem dX4_movedTo_48 : decode cX4_movedTo 48 = .ok (.getfield 149, 3) := by decide +kernel
theorem dX4_movedTo_51 : decode cX4_movedTo 51 = .ok (.lsub, 1) := by decide +kernel
theorem dX4_movedTo_52 : decode cX4_movedTo 52 = .ok (.invokevirtual 269, 3) := by decide +kernel
theorem dX4_movedTo_55 : decode cX4_movedTo 55 = .ok (.lreturn, 1) := by decide +kernel
theorem dX4_movedTo_56 : decode cX4_movedTo 56 = .ok (.aload_n 0, 1) := by decide +kernel
theorem dX4_movedTo_57 : decode cX4_movedTo 57 = .ok (.iload_n 1, 1) := by decide +kernel
theorem dX4_movedTo_58 : decode cX4_movedTo 58 = .ok (.i2l, 1) := by decide +kernel
theorem dX4_movedTo_59 : decode cX4_movedTo 59 = .ok (.aload_n 0, 1) := by decide +kernel
theorem dX4_movedTo_60 : decode cX4_movedTo 60 = .ok (.getfield 149, 3) := by decide +kernel
theorem dX4_movedTo_63 : decode cX4_movedTo 63 = .ok (.ladd, 1) := by decide +kernel
theorem dX4_movedTo_64 : decode cX4_movedTo 64 = .ok (.invokevirtual 269, 3) := by decide +kernel
theorem dX4_movedTo_67 : decode cX4_movedTo 67 = .ok (.lreturn, 1) := by decide +kernel
theorem dX4_movedTo_68 : decode cX4_movedTo 68 = .ok (.iload_n 1, 1) := by decide +kernel
theorem dX4_movedTo_69 : decode cX4_movedTo 69 = .ok (.ifCond .ne 10, 3) := by decide +kernel
theorem dX4_movedTo_72 : decode cX4_movedTo 72 = .ok (.aload_n 0, 1) := by decide +kernel
theorem dX4_movedTo_73 : decode cX4_movedTo 73 = .ok (.getfield 145, 3) := by decide +kernel
theorem dX4_movedTo_76 : decode cX4_movedTo 76 = .ok (.goto 13, 3) := by decide +kernel
theorem dX4_movedTo_79 : decode cX4_movedTo 79 = .ok (.aload_n 0, 1) := by decide +kernel
theorem dX4_movedTo_80 : decode cX4_movedTo 80 = .ok (.getfield 31, 3) := by decide +kernel
theorem dX4_movedTo_83 : decode cX4_movedTo 83 = .ok (.iload_n 1, 1) := by decide +kernel
theorem dX4_movedTo_84 : decode cX4_movedTo 84 = .ok (.iconst 1, 1) := by decide +kernel
theorem dX4_movedTo_85 : decode cX4_movedTo 85 = .ok (.isub, 1) := by decide +kernel
theorem dX4_movedTo_86 : decode cX4_movedTo 86 = .ok (.invokevirtual 236, 3) := by decide +kernel
theorem dX4_movedTo_89 : decode cX4_movedTo 89 = .ok (.lreturn, 1) := by decide +kernel
theorem dX4_movedTo_90 : decode cX4_movedTo 90 = .ok (.iload_n 1, 1) := by decide +kernel
theorem dX4_movedTo_91 : decode cX4_movedTo 91 = .ok (.aload_n 0, 1) := by decide +kernel
theorem dX4_movedTo_92 : decode cX4_movedTo 92 = .ok (.getfield 115, 3) := by decide +kernel
theorem dX4_movedTo_95 : decode cX4_movedTo 95 = .ok (.iconst 1, 1) := by decide +kernel
theorem dX4_movedTo_96 : decode cX4_movedTo 96 = .ok (.isub, 1) := by decide +kernel
theorem dX4_movedTo_97 : decode cX4_movedTo 97 = .ok (.if_icmp .ne 10, 3) := by decide +kernel
theorem dX4_movedTo_100 : decode cX4_movedTo 100 = .ok (.aload_n 0, 1) := by decide +kernel
theorem dX4_movedTo_101 : decode cX4_movedTo 101 = .ok (.getfield 145, 3) := by decide +kernel
theorem dX4_movedTo_104 : decode cX4_movedTo 104 = .ok (.goto 13, 3) := by decide +kernel
theorem dX4_movedTo_107 : decode cX4_movedTo 107 = .ok (.aload_n 0, 1) := by decide +kernel
theorem dX4_movedTo_108 : decode cX4_movedTo 108 = .ok (.getfield 31, 3) := by decide +kernel
theorem dX4_movedTo_111 : decode cX4_movedTo 111 = .ok (.iload_n 1, 1) := by decide +kernel
theorem dX4_movedTo_112 : decode cX4_movedTo 112 = .ok (.iconst 1, 1) := by decide +kernel
theorem dX4_movedTo_113 : decode cX4_movedTo 113 = .ok (.iadd, 1) := by decide +kernel
theorem dX4_movedTo_114 : decode cX4_movedTo 114 = .ok (.invokevirtual 236, 3) := by decide +kernel
theorem dX4_movedTo_117 : decode cX4_movedTo 117 = .ok (.lreturn, 1) := by decide +kernel
theorem dX4_movedTo_118 : decode cX4_movedTo 118 = .ok (.aload_n 0, 1) := by decide +kernel
theorem dX4_movedTo_119 : decode cX4_movedTo 119 = .ok (.aload_n 0, 1) := by decide +kernel
theorem dX4_movedTo_120 : decode cX4_movedTo 120 = .ok (.getfield 165, 3) := by decide +kernel
theorem dX4_movedTo_123 : decode cX4_movedTo 123 = .ok (.ifCond .eq 14, 3) := by decide +kernel
theorem dX4_movedTo_126 : decode cX4_movedTo 126 = .ok (.aload_n 0, 1) := by decide +kernel
theorem dX4_movedTo_127 : decode cX4_movedTo 127 = .ok (.getfield 34, 3) := by decide +kernel
theorem dX4_movedTo_130 : decode cX4_movedTo 130 = .ok (.iload_n 1, 1) := by decide +kernel
theorem dX4_movedTo_131 : decode cX4_movedTo 131 = .ok (.invokevirtual 236, 3) := by decide +kernel
theorem dX4_movedTo_134 : decode cX4_movedTo 134 = .ok (.goto 7, 3) := by decide +kernel
theorem dX4_movedTo_137 : decode cX4_movedTo 137 = .ok (.aload_n 0, 1) := by decide +kernel
theorem dX4_movedTo_138 : decode cX4_movedTo 138 = .ok (.getfield 149, 3) := by decide +kernel
theorem dX4_movedTo_141 : decode cX4_movedTo 141 = .ok (.invokevirtual 269, 3) := by decide +kernel
theorem dX4_movedTo_144 : decode cX4_movedTo 144 = .ok (.lreturn, 1) := by decide +kernel
theorem dX4_movedTo_145 : decode cX4_movedTo 145 = .ok (.aload_n 0, 1) := by decide +kernel
theorem dX4_movedTo_146 : decode cX4_movedTo 146 = .ok (.getfield 31, 3) := by decide +kernel
theorem dX4_movedTo_149 : decode cX4_movedTo 149 = .ok (.iload_n 1, 1) := by decide +kernel
theorem dX4_movedTo_150 : decode cX4_movedTo 150 = .ok (.invokevirtual 236, 3) := by decide +kernel
theorem dX4_movedTo_153 : decode cX4_movedTo 153 = .ok (.lreturn, 1) := by decide +kernel
theorem dX4_leftAt_0 : decode cX4_leftAt 0 = .ok (.lload_n 1, 1) := by decide +kernel
theorem dX4_leftAt_1 : decode cX4_leftAt 1 = .ok (.lconst 0, 1) := by decide +kernel
theorem dX4_leftAt_2 : decode cX4_leftAt 2 = .ok (.lcmp, 1) := by decide +kernel
theorem dX4_leftAt_3 : decode cX4_leftAt 3 = .ok (.ifCond .lt 31, 3) := by decide +kernel
theorem dX4_leftAt_6 : decode cX4_leftAt 6 = .ok (.lload_n 1, 1) := by decide +kernel
theorem dX4_leftAt_7 : decode cX4_leftAt 7 = .ok (.aload_n 0, 1) := by decide +kernel
theorem dX4_leftAt_8 : decode cX4_leftAt 8 = .ok (.getfield 9, 3) := by decide +kernel
theorem dX4_leftAt_11 : decode cX4_leftAt 11 = .ok (.getfield 50, 3) := by decide +kernel
theorem dX4_leftAt_14 : decode cX4_leftAt 14 = .ok (.getfield 273, 3) := by decide +kernel
theorem dX4_leftAt_17 : decode cX4_leftAt 17 = .ok (.i2l, 1) := by decide +kernel
theorem dX4_leftAt_18 : decode cX4_leftAt 18 = .ok (.lcmp, 1) := by decide +kernel
theorem dX4_leftAt_19 : decode cX4_leftAt 19 = .ok (.ifCond .ge 15, 3) := by decide +kernel
theorem dX4_leftAt_22 : decode cX4_leftAt 22 = .ok (.aload_n 0, 1) := by decide +kernel
theorem dX4_leftAt_23 : decode cX4_leftAt 23 = .ok (.getfield 31, 3) := by decide +kernel
theorem dX4_leftAt_26 : decode cX4_leftAt 26 = .ok (.lload_n 1, 1) := by decide +kernel
theorem dX4_leftAt_27 : decode cX4_leftAt 27 = .ok (.l2i, 1) := by decide +kernel
theorem dX4_leftAt_28 : decode cX4_leftAt 28 = .ok (.invokevirtual 236, 3) := by decide +kernel
theorem dX4_leftAt_31 : decode cX4_leftAt 31 = .ok (.goto 4, 3) := by decide +kernel
theorem dX4_leftAt_34 : decode cX4_leftAt 34 = .ok (.lconst 0, 1) := by decide +kernel
theorem dX4_leftAt_35 : decode cX4_leftAt 35 = .ok (.lreturn, 1) := by decide +kernel
theorem dX4_bitsBefore_0 : decode cX4_bitsBefore 0 = .ok (.aload_n 0, 1) := by decide +kernel
theorem dX4_bitsBefore_1 : decode cX4_bitsBefore 1 = .ok (.getfield 127, 3) := by decide +kernel
theorem dX4_bitsBefore_4 : decode cX4_bitsBefore 4 = .ok (.istore_n 2, 1) := by decide +kernel
theorem dX4_bitsBefore_5 : decode cX4_bitsBefore 5 = .ok (.iload_n 1, 1) := by decide +kernel
theorem dX4_bitsBefore_6 : decode cX4_bitsBefore 6 = .ok (.ifCond .eq 13, 3) := by decide +kernel
theorem dX4_bitsBefore_9 : decode cX4_bitsBefore 9 = .ok (.aload_n 0, 1) := by decide +kernel
theorem dX4_bitsBefore_10 : decode cX4_bitsBefore 10 = .ok (.dup, 1) := by decide +kernel
theorem dX4_bitsBefore_11 : decode cX4_bitsBefore 11 = .ok (.getfield 127, 3) := by decide +kernel
theorem dX4_bitsBefore_14 : decode cX4_bitsBefore 14 = .ok (.iconst 1, 1) := by decide +kernel
theorem dX4_bitsBefore_15 : decode cX4_bitsBefore 15 = .ok (.iadd, 1) := by decide +kernel
theorem dX4_bitsBefore_16 : decode cX4_bitsBefore 16 = .ok (.putfield 127, 3) := by decide +kernel
theorem dX4_bitsBefore_19 : decode cX4_bitsBefore 19 = .ok (.iload_n 2, 1) := by decide +kernel
theorem dX4_bitsBefore_20 : decode cX4_bitsBefore 20 = .ok (.i2l, 1) := by decide +kernel
theorem dX4_bitsBefore_21 : decode cX4_bitsBefore 21 = .ok (.lreturn, 1) := by decide +kernel
theorem dX4_aroundFirstBit_0 : decode cX4_aroundFirstBit 0 = .ok (.aload_n 0, 1) := by decide +kernel
theorem dX4_aroundFirstBit_1 : decode cX4_aroundFirstBit 1 = .ok (.iload_n 1, 1) := by decide +kernel
theorem dX4_aroundFirstBit_2 : decode cX4_aroundFirstBit 2 = .ok (.invokevirtual 260, 3) := by decide +kernel
theorem dX4_aroundFirstBit_5 : decode cX4_aroundFirstBit 5 = .ok (.lconst 0, 1) := by decide +kernel
theorem dX4_aroundFirstBit_6 : decode cX4_aroundFirstBit 6 = .ok (.lcmp, 1) := by decide +kernel
theorem dX4_aroundFirstBit_7 : decode cX4_aroundFirstBit 7 = .ok (.ifCond .ne 7, 3) := by decide +kernel
theorem dX4_aroundFirstBit_10 : decode cX4_aroundFirstBit 10 = .ok (.iconst 1, 1) := by decide +kernel
theorem dX4_aroundFirstBit_11 : decode cX4_aroundFirstBit 11 = .ok (.goto 4, 3) := by decide +kernel
theorem dX4_aroundFirstBit_14 : decode cX4_aroundFirstBit 14 = .ok (.iconst 0, 1) := by decide +kernel
theorem dX4_aroundFirstBit_15 : decode cX4_aroundFirstBit 15 = .ok (.istore_n 2, 1) := by decide +kernel
theorem dX4_aroundFirstBit_16 : decode cX4_aroundFirstBit 16 = .ok (.aload_n 0, 1) := by decide +kernel
theorem dX4_aroundFirstBit_17 : decode cX4_aroundFirstBit 17 = .ok (.getfield 109, 3) := by decide +kernel
theorem dX4_aroundFirstBit_20 : decode cX4_aroundFirstBit 20 = .ok (.lookupswitch 56 #[(1, 28), (2, 42)], 28) := by decide +kernel
theorem dX4_aroundFirstBit_48 : decode cX4_aroundFirstBit 48 = .ok (.iload_n 2, 1) := by decide +kernel
theorem dX4_aroundFirstBit_49 : decode cX4_aroundFirstBit 49 = .ok (.ifCond .eq 11, 3) := by decide +kernel
theorem dX4_aroundFirstBit_52 : decode cX4_aroundFirstBit 52 = .ok (.iload_n 1, 1) := by decide +kernel
theorem dX4_aroundFirstBit_53 : decode cX4_aroundFirstBit 53 = .ok (.ifCond .ne 7, 3) := by decide +kernel
theorem dX4_aroundFirstBit_56 : decode cX4_aroundFirstBit 56 = .ok (.lconst 1, 1) := by decide +kernel
theorem dX4_aroundFirstBit_57 : decode cX4_aroundFirstBit 57 = .ok (.goto 4, 3) := by decide +kernel
theorem dX4_aroundFirstBit_60 : decode cX4_aroundFirstBit 60 = .ok (.lconst 0, 1) := by decide +kernel
theorem dX4_aroundFirstBit_61 : decode cX4_aroundFirstBit 61 = .ok (.lreturn, 1) := by decide +kernel
theorem dX4_aroundFirstBit_62 : decode cX4_aroundFirstBit 62 = .ok (.iload_n 2, 1) := by decide +kernel
theorem dX4_aroundFirstBit_63 : decode cX4_aroundFirstBit 63 = .ok (.ifCond .eq 11, 3) := by decide +kernel
theorem dX4_aroundFirstBit_66 : decode cX4_aroundFirstBit 66 = .ok (.iload_n 1, 1) := by decide +kernel
theorem dX4_aroundFirstBit_67 : decode cX4_aroundFirstBit 67 = .ok (.ifCond .eq 7, 3) := by decide +kernel
theorem dX4_aroundFirstBit_70 : decode cX4_aroundFirstBit 70 = .ok (.lconst 1, 1) := by decide +kernel
theorem dX4_aroundFirstBit_71 : decode cX4_aroundFirstBit 71 = .ok (.goto 4, 3) := by decide +kernel
theorem dX4_aroundFirstBit_74 : decode cX4_aroundFirstBit 74 = .ok (.lconst 0, 1) := by decide +kernel
theorem dX4_aroundFirstBit_75 : decode cX4_aroundFirstBit 75 = .ok (.lreturn, 1) := by decide +kernel
theorem dX4_aroundFirstBit_76 : decode cX4_aroundFirstBit 76 = .ok (.iload_n 2, 1) := by decide +kernel
theorem dX4_aroundFirstBit_77 : decode cX4_aroundFirstBit 77 = .ok (.ifCond .eq 7, 3) := by decide +kernel
theorem dX4_aroundFirstBit_80 : decode cX4_aroundFirstBit 80 = .ok (.lconst 1, 1) := by decide +kernel
theorem dX4_aroundFirstBit_81 : decode cX4_aroundFirstBit 81 = .ok (.goto 4, 3) := by decide +kernel
theorem dX4_aroundFirstBit_84 : decode cX4_aroundFirstBit 84 = .ok (.lconst 0, 1) := by decide +kernel
theorem dX4_aroundFirstBit_85 : decode cX4_aroundFirstBit 85 = .ok (.lreturn, 1) := by decide +kernel
theorem dX4_compressed_0 : decode cX4_compressed 0 = .ok (.iconst 0, 1) := by decide +kernel
theorem dX4_compressed_1 : decode cX4_compressed 1 = .ok (.istore_n 1, 1) := by decide +kernel
theorem dX4_compressed_2 : decode cX4_compressed 2 = .ok (.iconst 0, 1) := by decide +kernel
theorem dX4_compressed_3 : decode cX4_compressed 3 = .ok (.istore_n 2, 1) := by decide +kernel
theorem dX4_compressed_4 : decode cX4_compressed 4 = .ok (.iload_n 2, 1) := by decide +kernel
theorem dX4_compressed_5 : decode cX4_compressed 5 = .ok (.aload_n 0, 1) := by decide +kernel
theorem dX4_compressed_6 : decode cX4_compressed 6 = .ok (.getfield 115, 3) := by decide +kernel
theorem dX4_compressed_9 : decode cX4_compressed 9 = .ok (.if_icmp .ge 41, 3) := by decide +kernel
theorem dX4_compressed_12 : decode cX4_compressed 12 = .ok (.aload_n 0, 1) := by decide +kernel
theorem dX4_compressed_13 : decode cX4_compressed 13 = .ok (.getfield 34, 3) := by decide +kernel
theorem dX4_compressed_16 : decode cX4_compressed 16 = .ok (.iload_n 2, 1) := by decide +kernel
theorem dX4_compressed_17 : decode cX4_compressed 17 = .ok (.invokevirtual 236, 3) := by decide +kernel
theorem dX4_compressed_20 : decode cX4_compressed 20 = .ok (.lconst 1, 1) := by decide +kernel
theorem dX4_compressed_21 : decode cX4_compressed 21 = .ok (.lcmp, 1) := by decide +kernel
theorem dX4_compressed_22 : decode cX4_compressed 22 = .ok (.ifCond .ne 22, 3) := by decide +kernel
theorem dX4_compressed_25 : decode cX4_compressed 25 = .ok (.aload_n 0, 1) := by decide +kernel
theorem dX4_compressed_26 : decode cX4_compressed 26 = .ok (.getfield 27, 3) := by decide +kernel
theorem dX4_compressed_29 : decode cX4_compressed 29 = .ok (.iload_n 1, 1) := by decide +kernel
theorem dX4_compressed_30 : decode cX4_compressed 30 = .ok (.aload_n 0, 1) := by decide +kernel
theorem dX4_compressed_31 : decode cX4_compressed 31 = .ok (.getfield 31, 3) := by decide +kernel
theorem dX4_compressed_34 : decode cX4_compressed 34 = .ok (.iload_n 2, 1) := by decide +kernel
theorem dX4_compressed_35 : decode cX4_compressed 35 = .ok (.invokevirtual 236, 3) := by decide +kernel
theorem dX4_compressed_38 : decode cX4_compressed 38 = .ok (.invokevirtual 217, 3) := by decide +kernel
theorem dX4_compressed_41 : decode cX4_compressed 41 = .ok (.iinc 1 1, 3) := by decide +kernel
theorem dX4_compressed_44 : decode cX4_compressed 44 = .ok (.iinc 2 1, 3) := by decide +kernel
theorem dX4_compressed_47 : decode cX4_compressed 47 = .ok (.goto (-43), 3) := by decide +kernel
theorem dX4_compressed_50 : decode cX4_compressed 50 = .ok (.iload_n 1, 1) := by decide +kernel
theorem dX4_compressed_51 : decode cX4_compressed 51 = .ok (.ireturn, 1) := by decide +kernel
theorem dX4_reduce_0 : decode cX4_reduce 0 = .ok (.aload_n 0, 1) := by decide +kernel
theorem dX4_reduce_1 : decode cX4_reduce 1 = .ok (.getfield 31, 3) := by decide +kernel
theorem dX4_reduce_4 : decode cX4_reduce 4 = .ok (.aload_n 1, 1) := by decide +kernel
theorem dX4_reduce_5 : decode cX4_reduce 5 = .ok (.getfield 177, 3) := by decide +kernel
theorem dX4_reduce_8 : decode cX4_reduce 8 = .ok (.aload_n 0, 1) := by decide +kernel
theorem dX4_reduce_9 : decode cX4_reduce 9 = .ok (.getfield 9, 3) := by decide +kernel
theorem dX4_reduce_12 : decode cX4_reduce 12 = .ok (.getfield 50, 3) := by decide +kernel
theorem dX4_reduce_15 : decode cX4_reduce 15 = .ok (.getfield 72, 3) := by decide +kernel
theorem dX4_reduce_18 : decode cX4_reduce 18 = .ok (.aload_n 0, 1) := by decide +kernel
theorem dX4_reduce_19 : decode cX4_reduce 19 = .ok (.getfield 9, 3) := by decide +kernel
theorem dX4_reduce_22 : decode cX4_reduce 22 = .ok (.getfield 50, 3) := by decide +kernel
theorem dX4_reduce_25 : decode cX4_reduce 25 = .ok (.getfield 276, 3) := by decide +kernel
theorem dX4_reduce_28 : decode cX4_reduce 28 = .ok (.invokevirtual 174, 3) := by decide +kernel
theorem dX4_reduce_31 : decode cX4_reduce 31 = .ok (.aload_n 0, 1) := by decide +kernel
theorem dX4_reduce_32 : decode cX4_reduce 32 = .ok (.getfield 34, 3) := by decide +kernel
theorem dX4_reduce_35 : decode cX4_reduce 35 = .ok (.aload_n 1, 1) := by decide +kernel
theorem dX4_reduce_36 : decode cX4_reduce 36 = .ok (.getfield 106, 3) := by decide +kernel
theorem dX4_reduce_39 : decode cX4_reduce 39 = .ok (.iload_n 2, 1) := by decide +kernel
theorem dX4_reduce_40 : decode cX4_reduce 40 = .ok (.bipush 8, 2) := by decide +kernel
theorem dX4_reduce_42 : decode cX4_reduce 42 = .ok (.invokevirtual 174, 3) := by decide +kernel
theorem dX4_reduce_45 : decode cX4_reduce 45 = .ok (.aload_n 0, 1) := by decide +kernel
theorem dX4_reduce_46 : decode cX4_reduce 46 = .ok (.getfield 27, 3) := by decide +kernel
theorem dX4_reduce_49 : decode cX4_reduce 49 = .ok (.aload_n 1, 1) := by decide +kernel
theorem dX4_reduce_50 : decode cX4_reduce 50 = .ok (.getfield 168, 3) := by decide +kernel
theorem dX4_reduce_53 : decode cX4_reduce 53 = .ok (.iload_n 2, 1) := by decide +kernel
theorem dX4_reduce_54 : decode cX4_reduce 54 = .ok (.bipush 8, 2) := by decide +kernel
theorem dX4_reduce_56 : decode cX4_reduce 56 = .ok (.invokevirtual 174, 3) := by decide +kernel
theorem dX4_reduce_59 : decode cX4_reduce 59 = .ok (.iload_n 2, 1) := by decide +kernel
theorem dX4_reduce_60 : decode cX4_reduce 60 = .ok (.bipush 32, 2) := by decide +kernel
theorem dX4_reduce_62 : decode cX4_reduce 62 = .ok (.if_icmp .gt 13, 3) := by decide +kernel
theorem dX4_reduce_65 : decode cX4_reduce 65 = .ok (.aload_n 0, 1) := by decide +kernel
theorem dX4_reduce_66 : decode cX4_reduce 66 = .ok (.getfield 31, 3) := by decide +kernel
theorem dX4_reduce_69 : decode cX4_reduce 69 = .ok (.invokevirtual 180, 3) := by decide +kernel
theorem dX4_reduce_72 : decode cX4_reduce 72 = .ok (.ifCond .ne 5, 3) := by decide +kernel
theorem dX4_reduce_75 : decode cX4_reduce 75 = .ok (.iconst 1, 1) := by decide +kernel
theorem dX4_reduce_76 : decode cX4_reduce 76 = .ok (.ireturn, 1) := by decide +kernel
theorem dX4_reduce_77 : decode cX4_reduce 77 = .ok (.aload_n 0, 1) := by decide +kernel
theorem dX4_reduce_78 : decode cX4_reduce 78 = .ok (.getfield 115, 3) := by decide +kernel
theorem dX4_reduce_81 : decode cX4_reduce 81 = .ok (.ifCond .ne 5, 3) := by decide +kernel
theorem dX4_reduce_84 : decode cX4_reduce 84 = .ok (.iconst 0, 1) := by decide +kernel
theorem dX4_reduce_85 : decode cX4_reduce 85 = .ok (.ireturn, 1) := by decide +kernel
theorem dX4_reduce_86 : decode cX4_reduce 86 = .ok (.aload_n 0, 1) := by decide +kernel
theorem dX4_reduce_87 : decode cX4_reduce 87 = .ok (.getfield 34, 3) := by decide +kernel
theorem dX4_reduce_90 : decode cX4_reduce 90 = .ok (.iconst 0, 1) := by decide +kernel
theorem dX4_reduce_91 : decode cX4_reduce 91 = .ok (.invokevirtual 236, 3) := by decide +kernel
theorem dX4_reduce_94 : decode cX4_reduce 94 = .ok (.lstore_n 3, 1) := by decide +kernel
theorem dX4_reduce_95 : decode cX4_reduce 95 = .ok (.iconst 0, 1) := by decide +kernel
theorem dX4_reduce_96 : decode cX4_reduce 96 = .ok (.istore 5, 2) := by decide +kernel
theorem dX4_reduce_98 : decode cX4_reduce 98 = .ok (.iload 5, 2) := by decide +kernel
theorem dX4_reduce_100 : decode cX4_reduce 100 = .ok (.aload_n 0, 1) := by decide +kernel
theorem dX4_reduce_101 : decode cX4_reduce 101 = .ok (.getfield 115, 3) := by decide +kernel
theorem dX4_reduce_104 : decode cX4_reduce 104 = .ok (.if_icmp .ge 40, 3) := by decide +kernel
theorem dX4_reduce_107 : decode cX4_reduce 107 = .ok (.aload_n 0, 1) := by decide +kernel
theorem dX4_reduce_108 : decode cX4_reduce 108 = .ok (.iload 5, 2) := by decide +kernel
theorem dX4_reduce_110 : decode cX4_reduce 110 = .ok (.invokevirtual 210, 3) := by decide +kernel
theorem dX4_reduce_113 : decode cX4_reduce 113 = .ok (.ifCond .eq 25, 3) := by decide +kernel
theorem dX4_reduce_116 : decode cX4_reduce 116 = .ok (.aload_n 0, 1) := by decide +kernel
theorem dX4_reduce_117 : decode cX4_reduce 117 = .ok (.getfield 20, 3) := by decide +kernel
theorem dX4_reduce_120 : decode cX4_reduce 120 = .ok (.aload_n 0, 1) := by decide +kernel
theorem dX4_reduce_121 : decode cX4_reduce 121 = .ok (.getfield 104, 3) := by decide +kernel
