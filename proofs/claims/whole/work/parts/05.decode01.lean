theorem dX4_reduce_124 : decode cX4_reduce 124 = .ok (.lload_n 3, 1) := by decide +kernel
theorem dX4_reduce_125 : decode cX4_reduce 125 = .ok (.aload_n 0, 1) := by decide +kernel
theorem dX4_reduce_126 : decode cX4_reduce 126 = .ok (.getfield 31, 3) := by decide +kernel
theorem dX4_reduce_129 : decode cX4_reduce 129 = .ok (.iload 5, 2) := by decide +kernel
theorem dX4_reduce_131 : decode cX4_reduce 131 = .ok (.invokevirtual 236, 3) := by decide +kernel
theorem dX4_reduce_134 : decode cX4_reduce 134 = .ok (.invokevirtual 279, 3) := by decide +kernel
theorem dX4_reduce_137 : decode cX4_reduce 137 = .ok (.lstore_n 3, 1) := by decide +kernel
theorem dX4_reduce_138 : decode cX4_reduce 138 = .ok (.iinc 5 1, 3) := by decide +kernel
theorem dX4_reduce_141 : decode cX4_reduce 141 = .ok (.goto (-43), 3) := by decide +kernel
theorem dX4_reduce_144 : decode cX4_reduce 144 = .ok (.aload_n 0, 1) := by decide +kernel
theorem dX4_reduce_145 : decode cX4_reduce 145 = .ok (.getfield 27, 3) := by decide +kernel
theorem dX4_reduce_148 : decode cX4_reduce 148 = .ok (.iconst 0, 1) := by decide +kernel
theorem dX4_reduce_149 : decode cX4_reduce 149 = .ok (.lload_n 3, 1) := by decide +kernel
theorem dX4_reduce_150 : decode cX4_reduce 150 = .ok (.invokevirtual 217, 3) := by decide +kernel
theorem dX4_reduce_153 : decode cX4_reduce 153 = .ok (.aload_n 0, 1) := by decide +kernel
theorem dX4_reduce_154 : decode cX4_reduce 154 = .ok (.getfield 27, 3) := by decide +kernel
theorem dX4_reduce_157 : decode cX4_reduce 157 = .ok (.iconst 1, 1) := by decide +kernel
theorem dX4_reduce_158 : decode cX4_reduce 158 = .ok (.iconst 0, 1) := by decide +kernel
theorem dX4_reduce_159 : decode cX4_reduce 159 = .ok (.invokevirtual 203, 3) := by decide +kernel
theorem dX4_reduce_162 : decode cX4_reduce 162 = .ok (.iconst 0, 1) := by decide +kernel
theorem dX4_reduce_163 : decode cX4_reduce 163 = .ok (.ireturn, 1) := by decide +kernel
theorem dX4_count_0 : decode cX4_count 0 = .ok (.aload_n 0, 1) := by decide +kernel
theorem dX4_count_1 : decode cX4_count 1 = .ok (.getfield 31, 3) := by decide +kernel
theorem dX4_count_4 : decode cX4_count 4 = .ok (.aload_n 1, 1) := by decide +kernel
theorem dX4_count_5 : decode cX4_count 5 = .ok (.getfield 177, 3) := by decide +kernel
theorem dX4_count_8 : decode cX4_count 8 = .ok (.iconst 1, 1) := by decide +kernel
theorem dX4_count_9 : decode cX4_count 9 = .ok (.bipush 8, 2) := by decide +kernel
theorem dX4_count_11 : decode cX4_count 11 = .ok (.invokevirtual 174, 3) := by decide +kernel
theorem dX4_count_14 : decode cX4_count 14 = .ok (.iconst (-1), 1) := by decide +kernel
theorem dX4_count_15 : decode cX4_count 15 = .ok (.istore_n 2, 1) := by decide +kernel
theorem dX4_count_16 : decode cX4_count 16 = .ok (.iconst 0, 1) := by decide +kernel
theorem dX4_count_17 : decode cX4_count 17 = .ok (.istore_n 3, 1) := by decide +kernel
theorem dX4_count_18 : decode cX4_count 18 = .ok (.iconst 0, 1) := by decide +kernel
theorem dX4_count_19 : decode cX4_count 19 = .ok (.istore 4, 2) := by decide +kernel
theorem dX4_count_21 : decode cX4_count 21 = .ok (.iload 4, 2) := by decide +kernel
theorem dX4_count_23 : decode cX4_count 23 = .ok (.aload_n 0, 1) := by decide +kernel
theorem dX4_count_24 : decode cX4_count 24 = .ok (.getfield 115, 3) := by decide +kernel
theorem dX4_count_27 : decode cX4_count 27 = .ok (.if_icmp .ge 46, 3) := by decide +kernel
theorem dX4_count_30 : decode cX4_count 30 = .ok (.aload_n 0, 1) := by decide +kernel
theorem dX4_count_31 : decode cX4_count 31 = .ok (.iload 4, 2) := by decide +kernel
theorem dX4_count_33 : decode cX4_count 33 = .ok (.invokevirtual 210, 3) := by decide +kernel
theorem dX4_count_36 : decode cX4_count 36 = .ok (.ifCond .eq 31, 3) := by decide +kernel
theorem dX4_count_39 : decode cX4_count 39 = .ok (.aload_n 0, 1) := by decide +kernel
theorem dX4_count_40 : decode cX4_count 40 = .ok (.getfield 31, 3) := by decide +kernel
theorem dX4_count_43 : decode cX4_count 43 = .ok (.iload 4, 2) := by decide +kernel
theorem dX4_count_45 : decode cX4_count 45 = .ok (.invokevirtual 236, 3) := by decide +kernel
theorem dX4_count_48 : decode cX4_count 48 = .ok (.lconst 1, 1) := by decide +kernel
theorem dX4_count_49 : decode cX4_count 49 = .ok (.lcmp, 1) := by decide +kernel
theorem dX4_count_50 : decode cX4_count 50 = .ok (.ifCond .ne 17, 3) := by decide +kernel
theorem dX4_count_53 : decode cX4_count 53 = .ok (.iload_n 3, 1) := by decide +kernel
theorem dX4_count_54 : decode cX4_count 54 = .ok (.ifCond .ne 8, 3) := by decide +kernel
theorem dX4_count_57 : decode cX4_count 57 = .ok (.iload 4, 2) := by decide +kernel
theorem dX4_count_59 : decode cX4_count 59 = .ok (.goto 4, 3) := by decide +kernel
theorem dX4_count_62 : decode cX4_count 62 = .ok (.iload_n 2, 1) := by decide +kernel
theorem dX4_count_63 : decode cX4_count 63 = .ok (.istore_n 2, 1) := by decide +kernel
theorem dX4_count_64 : decode cX4_count 64 = .ok (.iinc 3 1, 3) := by decide +kernel
theorem dX4_count_67 : decode cX4_count 67 = .ok (.iinc 4 1, 3) := by decide +kernel
theorem dX4_count_70 : decode cX4_count 70 = .ok (.goto (-49), 3) := by decide +kernel
theorem dX4_count_73 : decode cX4_count 73 = .ok (.aload_n 0, 1) := by decide +kernel
theorem dX4_count_74 : decode cX4_count 74 = .ok (.getfield 9, 3) := by decide +kernel
theorem dX4_count_77 : decode cX4_count 77 = .ok (.aload_n 1, 1) := by decide +kernel
theorem dX4_count_78 : decode cX4_count 78 = .ok (.getfield 168, 3) := by decide +kernel
theorem dX4_count_81 : decode cX4_count 81 = .ok (.aload_n 0, 1) := by decide +kernel
theorem dX4_count_82 : decode cX4_count 82 = .ok (.getfield 109, 3) := by decide +kernel
theorem dX4_count_85 : decode cX4_count 85 = .ok (.bipush 16, 2) := by decide +kernel
theorem dX4_count_87 : decode cX4_count 87 = .ok (.if_icmp .ne 7, 3) := by decide +kernel
theorem dX4_count_90 : decode cX4_count 90 = .ok (.iload_n 3, 1) := by decide +kernel
theorem dX4_count_91 : decode cX4_count 91 = .ok (.goto 4, 3) := by decide +kernel
theorem dX4_count_94 : decode cX4_count 94 = .ok (.iload_n 2, 1) := by decide +kernel
theorem dX4_count_95 : decode cX4_count 95 = .ok (.invokevirtual 282, 3) := by decide +kernel
theorem dX4_count_98 : decode cX4_count 98 = .ok (.iconst 0, 1) := by decide +kernel
theorem dX4_count_99 : decode cX4_count 99 = .ok (.ireturn, 1) := by decide +kernel
theorem dX4_readScalar_0 : decode cX4_readScalar 0 = .ok (.aload_n 0, 1) := by decide +kernel
theorem dX4_readScalar_1 : decode cX4_readScalar 1 = .ok (.getfield 31, 3) := by decide +kernel
theorem dX4_readScalar_4 : decode cX4_readScalar 4 = .ok (.aload_n 1, 1) := by decide +kernel
theorem dX4_readScalar_5 : decode cX4_readScalar 5 = .ok (.getfield 177, 3) := by decide +kernel
theorem dX4_readScalar_8 : decode cX4_readScalar 8 = .ok (.aload_n 0, 1) := by decide +kernel
theorem dX4_readScalar_9 : decode cX4_readScalar 9 = .ok (.getfield 9, 3) := by decide +kernel
theorem dX4_readScalar_12 : decode cX4_readScalar 12 = .ok (.getfield 50, 3) := by decide +kernel
theorem dX4_readScalar_15 : decode cX4_readScalar 15 = .ok (.getfield 72, 3) := by decide +kernel
theorem dX4_readScalar_18 : decode cX4_readScalar 18 = .ok (.bipush 8, 2) := by decide +kernel
theorem dX4_readScalar_20 : decode cX4_readScalar 20 = .ok (.invokevirtual 174, 3) := by decide +kernel
theorem dX4_readScalar_23 : decode cX4_readScalar 23 = .ok (.aload_n 0, 1) := by decide +kernel
theorem dX4_readScalar_24 : decode cX4_readScalar 24 = .ok (.getfield 9, 3) := by decide +kernel
theorem dX4_readScalar_27 : decode cX4_readScalar 27 = .ok (.aload_n 1, 1) := by decide +kernel
theorem dX4_readScalar_28 : decode cX4_readScalar 28 = .ok (.getfield 168, 3) := by decide +kernel
theorem dX4_readScalar_31 : decode cX4_readScalar 31 = .ok (.aload_n 0, 1) := by decide +kernel
theorem dX4_readScalar_32 : decode cX4_readScalar 32 = .ok (.getfield 31, 3) := by decide +kernel
theorem dX4_readScalar_35 : decode cX4_readScalar 35 = .ok (.iconst 0, 1) := by decide +kernel
theorem dX4_readScalar_36 : decode cX4_readScalar 36 = .ok (.invokevirtual 236, 3) := by decide +kernel
theorem dX4_readScalar_39 : decode cX4_readScalar 39 = .ok (.aload_n 0, 1) := by decide +kernel
theorem dX4_readScalar_40 : decode cX4_readScalar 40 = .ok (.getfield 9, 3) := by decide +kernel
theorem dX4_readScalar_43 : decode cX4_readScalar 43 = .ok (.getfield 50, 3) := by decide +kernel
theorem dX4_readScalar_46 : decode cX4_readScalar 46 = .ok (.getfield 72, 3) := by decide +kernel
theorem dX4_readScalar_49 : decode cX4_readScalar 49 = .ok (.invokestatic 133, 3) := by decide +kernel
theorem dX4_readScalar_52 : decode cX4_readScalar 52 = .ok (.l2i, 1) := by decide +kernel
theorem dX4_readScalar_53 : decode cX4_readScalar 53 = .ok (.invokevirtual 282, 3) := by decide +kernel
theorem dX4_readScalar_56 : decode cX4_readScalar 56 = .ok (.iconst 0, 1) := by decide +kernel
theorem dX4_readScalar_57 : decode cX4_readScalar 57 = .ok (.ireturn, 1) := by decide +kernel
theorem dX4_writeScalar_0 : decode cX4_writeScalar 0 = .ok (.aload_n 0, 1) := by decide +kernel
theorem dX4_writeScalar_1 : decode cX4_writeScalar 1 = .ok (.getfield 27, 3) := by decide +kernel
theorem dX4_writeScalar_4 : decode cX4_writeScalar 4 = .ok (.aload_n 1, 1) := by decide +kernel
theorem dX4_writeScalar_5 : decode cX4_writeScalar 5 = .ok (.getfield 168, 3) := by decide +kernel
theorem dX4_writeScalar_8 : decode cX4_writeScalar 8 = .ok (.aload_n 0, 1) := by decide +kernel
theorem dX4_writeScalar_9 : decode cX4_writeScalar 9 = .ok (.getfield 9, 3) := by decide +kernel
theorem dX4_writeScalar_12 : decode cX4_writeScalar 12 = .ok (.getfield 50, 3) := by decide +kernel
theorem dX4_writeScalar_15 : decode cX4_writeScalar 15 = .ok (.getfield 72, 3) := by decide +kernel
theorem dX4_writeScalar_18 : decode cX4_writeScalar 18 = .ok (.bipush 8, 2) := by decide +kernel
theorem dX4_writeScalar_20 : decode cX4_writeScalar 20 = .ok (.invokevirtual 174, 3) := by decide +kernel
theorem dX4_writeScalar_23 : decode cX4_writeScalar 23 = .ok (.aload_n 0, 1) := by decide +kernel
theorem dX4_writeScalar_24 : decode cX4_writeScalar 24 = .ok (.getfield 9, 3) := by decide +kernel
theorem dX4_writeScalar_27 : decode cX4_writeScalar 27 = .ok (.getfield 62, 3) := by decide +kernel
theorem dX4_writeScalar_30 : decode cX4_writeScalar 30 = .ok (.aload_n 0, 1) := by decide +kernel
theorem dX4_writeScalar_31 : decode cX4_writeScalar 31 = .ok (.getfield 115, 3) := by decide +kernel
theorem dX4_writeScalar_34 : decode cX4_writeScalar 34 = .ok (.if_icmp .ge 24, 3) := by decide +kernel
theorem dX4_writeScalar_37 : decode cX4_writeScalar 37 = .ok (.aload_n 0, 1) := by decide +kernel
theorem dX4_writeScalar_38 : decode cX4_writeScalar 38 = .ok (.getfield 27, 3) := by decide +kernel
theorem dX4_writeScalar_41 : decode cX4_writeScalar 41 = .ok (.iconst 0, 1) := by decide +kernel
theorem dX4_writeScalar_42 : decode cX4_writeScalar 42 = .ok (.aload_n 0, 1) := by decide +kernel
theorem dX4_writeScalar_43 : decode cX4_writeScalar 43 = .ok (.getfield 145, 3) := by decide +kernel
theorem dX4_writeScalar_46 : decode cX4_writeScalar 46 = .ok (.invokevirtual 217, 3) := by decide +kernel
theorem dX4_writeScalar_49 : decode cX4_writeScalar 49 = .ok (.aload_n 0, 1) := by decide +kernel
theorem dX4_writeScalar_50 : decode cX4_writeScalar 50 = .ok (.getfield 27, 3) := by decide +kernel
theorem dX4_writeScalar_53 : decode cX4_writeScalar 53 = .ok (.iconst 1, 1) := by decide +kernel
theorem dX4_writeScalar_54 : decode cX4_writeScalar 54 = .ok (.iconst 0, 1) := by decide +kernel
theorem dX4_writeScalar_55 : decode cX4_writeScalar 55 = .ok (.invokevirtual 203, 3) := by decide +kernel
theorem dX4_writeScalar_58 : decode cX4_writeScalar 58 = .ok (.iconst 0, 1) := by decide +kernel
theorem dX4_writeScalar_59 : decode cX4_writeScalar 59 = .ok (.ireturn, 1) := by decide +kernel
theorem dX5_init_0 : decode cX5_init 0 = .ok (.aload_n 0, 1) := by decide +kernel
theorem dX5_init_1 : decode cX5_init 1 = .ok (.invokespecial 3, 3) := by decide +kernel
theorem dX5_init_4 : decode cX5_init 4 = .ok (.aload_n 0, 1) := by decide +kernel
theorem dX5_init_5 : decode cX5_init 5 = .ok (.aload_n 1, 1) := by decide +kernel
theorem dX5_init_6 : decode cX5_init 6 = .ok (.putfield 9, 3) := by decide +kernel
theorem dX5_init_9 : decode cX5_init 9 = .ok (.return_, 1) := by decide +kernel
theorem dX5_execute_0 : decode cX5_execute 0 = .ok (.aload_n 1, 1) := by decide +kernel
theorem dX5_execute_1 : decode cX5_execute 1 = .ok (.getfield 15, 3) := by decide +kernel
theorem dX5_execute_4 : decode cX5_execute 4 = .ok (.ifCond .lt 29, 3) := by decide +kernel
theorem dX5_execute_7 : decode cX5_execute 7 = .ok (.aload_n 0, 1) := by decide +kernel
theorem dX5_execute_8 : decode cX5_execute 8 = .ok (.aload_n 1, 1) := by decide +kernel
theorem dX5_execute_9 : decode cX5_execute 9 = .ok (.getfield 21, 3) := by decide +kernel
theorem dX5_execute_12 : decode cX5_execute 12 = .ok (.aload_n 1, 1) := by decide +kernel
theorem dX5_execute_13 : decode cX5_execute 13 = .ok (.getfield 15, 3) := by decide +kernel
theorem dX5_execute_16 : decode cX5_execute 16 = .ok (.bipush 20, 2) := by decide +kernel
theorem dX5_execute_18 : decode cX5_execute 18 = .ok (.iushr, 1) := by decide +kernel
theorem dX5_execute_19 : decode cX5_execute 19 = .ok (.sipush 2047, 3) := by decide +kernel
theorem dX5_execute_22 : decode cX5_execute 22 = .ok (.iand, 1) := by decide +kernel
theorem dX5_execute_23 : decode cX5_execute 23 = .ok (.aload_n 0, 1) := by decide +kernel
theorem dX5_execute_24 : decode cX5_execute 24 = .ok (.aload_n 1, 1) := by decide +kernel
theorem dX5_execute_25 : decode cX5_execute 25 = .ok (.invokevirtual 24, 3) := by decide +kernel
theorem dX5_execute_28 : decode cX5_execute 28 = .ok (.invokevirtual 28, 3) := by decide +kernel
theorem dX5_execute_31 : decode cX5_execute 31 = .ok (.iconst 0, 1) := by decide +kernel
theorem dX5_execute_32 : decode cX5_execute 32 = .ok (.ireturn, 1) := by decide +kernel
theorem dX5_execute_33 : decode cX5_execute 33 = .ok (.aload_n 1, 1) := by decide +kernel
theorem dX5_execute_34 : decode cX5_execute 34 = .ok (.getfield 15, 3) := by decide +kernel
theorem dX5_execute_37 : decode cX5_execute 37 = .ok (.bipush 30, 2) := by decide +kernel
theorem dX5_execute_39 : decode cX5_execute 39 = .ok (.iushr, 1) := by decide +kernel
theorem dX5_execute_40 : decode cX5_execute 40 = .ok (.iconst 3, 1) := by decide +kernel
theorem dX5_execute_41 : decode cX5_execute 41 = .ok (.if_icmp .ne 29, 3) := by decide +kernel
theorem dX5_execute_44 : decode cX5_execute 44 = .ok (.aload_n 0, 1) := by decide +kernel
theorem dX5_execute_45 : decode cX5_execute 45 = .ok (.aload_n 1, 1) := by decide +kernel
theorem dX5_execute_46 : decode cX5_execute 46 = .ok (.getfield 21, 3) := by decide +kernel
theorem dX5_execute_49 : decode cX5_execute 49 = .ok (.aload_n 1, 1) := by decide +kernel
theorem dX5_execute_50 : decode cX5_execute 50 = .ok (.getfield 15, 3) := by decide +kernel
theorem dX5_execute_53 : decode cX5_execute 53 = .ok (.bipush 20, 2) := by decide +kernel
theorem dX5_execute_55 : decode cX5_execute 55 = .ok (.iushr, 1) := by decide +kernel
theorem dX5_execute_56 : decode cX5_execute 56 = .ok (.sipush 1023, 3) := by decide +kernel
theorem dX5_execute_59 : decode cX5_execute 59 = .ok (.iand, 1) := by decide +kernel
theorem dX5_execute_60 : decode cX5_execute 60 = .ok (.aload_n 1, 1) := by decide +kernel
theorem dX5_execute_61 : decode cX5_execute 61 = .ok (.getfield 32, 3) := by decide +kernel
theorem dX5_execute_64 : decode cX5_execute 64 = .ok (.i2l, 1) := by decide +kernel
theorem dX5_execute_65 : decode cX5_execute 65 = .ok (.invokevirtual 28, 3) := by decide +kernel
theorem dX5_execute_68 : decode cX5_execute 68 = .ok (.iconst 0, 1) := by decide +kernel
theorem dX5_execute_69 : decode cX5_execute 69 = .ok (.ireturn, 1) := by decide +kernel
theorem dX5_execute_70 : decode cX5_execute 70 = .ok (.aload_n 1, 1) := by decide +kernel
theorem dX5_execute_71 : decode cX5_execute 71 = .ok (.getfield 15, 3) := by decide +kernel
theorem dX5_execute_74 : decode cX5_execute 74 = .ok (.bipush 25, 2) := by decide +kernel
theorem dX5_execute_76 : decode cX5_execute 76 = .ok (.iushr, 1) := by decide +kernel
theorem dX5_execute_77 : decode cX5_execute 77 = .ok (.bipush 64, 2) := by decide +kernel
theorem dX5_execute_79 : decode cX5_execute 79 = .ok (.if_icmp .ne 29, 3) := by decide +kernel
theorem dX5_execute_82 : decode cX5_execute 82 = .ok (.aload_n 0, 1) := by decide +kernel
theorem dX5_execute_83 : decode cX5_execute 83 = .ok (.aload_n 1, 1) := by decide +kernel
theorem dX5_execute_84 : decode cX5_execute 84 = .ok (.getfield 21, 3) := by decide +kernel
theorem dX5_execute_87 : decode cX5_execute 87 = .ok (.aload_n 0, 1) := by decide +kernel
theorem dX5_execute_88 : decode cX5_execute 88 = .ok (.getfield 9, 3) := by decide +kernel
theorem dX5_execute_91 : decode cX5_execute 91 = .ok (.aload_n 1, 1) := by decide +kernel
theorem dX5_execute_92 : decode cX5_execute 92 = .ok (.getfield 35, 3) := by decide +kernel
theorem dX5_execute_95 : decode cX5_execute 95 = .ok (.invokevirtual 38, 3) := by decide +kernel
theorem dX5_execute_98 : decode cX5_execute 98 = .ok (.aload_n 0, 1) := by decide +kernel
theorem dX5_execute_99 : decode cX5_execute 99 = .ok (.aload_n 1, 1) := by decide +kernel
theorem dX5_execute_100 : decode cX5_execute 100 = .ok (.invokevirtual 24, 3) := by decide +kernel
theorem dX5_execute_103 : decode cX5_execute 103 = .ok (.invokevirtual 28, 3) := by decide +kernel
theorem dX5_execute_106 : decode cX5_execute 106 = .ok (.iconst 0, 1) := by decide +kernel
theorem dX5_execute_107 : decode cX5_execute 107 = .ok (.ireturn, 1) := by decide +kernel
theorem dX5_execute_108 : decode cX5_execute 108 = .ok (.iconst 1, 1) := by decide +kernel
theorem dX5_execute_109 : decode cX5_execute 109 = .ok (.ireturn, 1) := by decide +kernel
theorem dX5_lengthInRegister_0 : decode cX5_lengthInRegister 0 = .ok (.aload_n 1, 1) := by decide +kernel
theorem dX5_lengthInRegister_1 : decode cX5_lengthInRegister 1 = .ok (.getfield 32, 3) := by decide +kernel
theorem dX5_lengthInRegister_4 : decode cX5_lengthInRegister 4 = .ok (.ifCond .eq 22, 3) := by decide +kernel
theorem dX5_lengthInRegister_7 : decode cX5_lengthInRegister 7 = .ok (.aload_n 0, 1) := by decide +kernel
theorem dX5_lengthInRegister_8 : decode cX5_lengthInRegister 8 = .ok (.getfield 9, 3) := by decide +kernel
theorem dX5_lengthInRegister_11 : decode cX5_lengthInRegister 11 = .ok (.aload_n 1, 1) := by decide +kernel
theorem dX5_lengthInRegister_12 : decode cX5_lengthInRegister 12 = .ok (.getfield 32, 3) := by decide +kernel
theorem dX5_lengthInRegister_15 : decode cX5_lengthInRegister 15 = .ok (.invokevirtual 38, 3) := by decide +kernel
theorem dX5_lengthInRegister_18 : decode cX5_lengthInRegister 18 = .ok (.i2l, 1) := by decide +kernel
theorem dX5_lengthInRegister_19 : decode cX5_lengthInRegister 19 = .ok (.bipush 32, 2) := by decide +kernel
theorem dX5_lengthInRegister_21 : decode cX5_lengthInRegister 21 = .ok (.invokestatic 44, 3) := by decide +kernel
theorem dX5_lengthInRegister_24 : decode cX5_lengthInRegister 24 = .ok (.land, 1) := by decide +kernel
theorem dX5_lengthInRegister_25 : decode cX5_lengthInRegister 25 = .ok (.lreturn, 1) := by decide +kernel
theorem dX5_lengthInRegister_26 : decode cX5_lengthInRegister 26 = .ok (.aload_n 1, 1) := by decide +kernel
theorem dX5_lengthInRegister_27 : decode cX5_lengthInRegister 27 = .ok (.getfield 21, 3) := by decide +kernel
theorem dX5_lengthInRegister_30 : decode cX5_lengthInRegister 30 = .ok (.ifCond .eq 9, 3) := by decide +kernel
theorem dX5_lengthInRegister_33 : decode cX5_lengthInRegister 33 = .ok (.ldc2_w 48, 3) := by decide +kernel
theorem dX5_lengthInRegister_36 : decode cX5_lengthInRegister 36 = .ok (.goto 6, 3) := by decide +kernel
theorem dX5_lengthInRegister_39 : decode cX5_lengthInRegister 39 = .ok (.ldc2_w 50, 3) := by decide +kernel
theorem dX5_lengthInRegister_42 : decode cX5_lengthInRegister 42 = .ok (.lreturn, 1) := by decide +kernel
theorem dX5_grant_0 : decode cX5_grant 0 = .ok (.aload_n 0, 1) := by decide +kernel
theorem dX5_grant_1 : decode cX5_grant 1 = .ok (.getfield 9, 3) := by decide +kernel
theorem dX5_grant_4 : decode cX5_grant 4 = .ok (.getfield 52, 3) := by decide +kernel
theorem dX5_grant_7 : decode cX5_grant 7 = .ok (.getfield 56, 3) := by decide +kernel
theorem dX5_grant_10 : decode cX5_grant 10 = .ok (.istore 5, 2) := by decide +kernel
theorem dX5_grant_12 : decode cX5_grant 12 = .ok (.aload_n 0, 1) := by decide +kernel
theorem dX5_grant_13 : decode cX5_grant 13 = .ok (.getfield 9, 3) := by decide +kernel
theorem dX5_grant_16 : decode cX5_grant 16 = .ok (.getfield 52, 3) := by decide +kernel
theorem dX5_grant_19 : decode cX5_grant 19 = .ok (.iload_n 2, 1) := by decide +kernel
theorem dX5_grant_20 : decode cX5_grant 20 = .ok (.invokevirtual 61, 3) := by decide +kernel
theorem dX5_grant_23 : decode cX5_grant 23 = .ok (.lload_n 3, 1) := by decide +kernel
theorem dX5_grant_24 : decode cX5_grant 24 = .ok (.ldc2_w 50, 3) := by decide +kernel
theorem dX5_grant_27 : decode cX5_grant 27 = .ok (.lcmp, 1) := by decide +kernel
theorem dX5_grant_28 : decode cX5_grant 28 = .ok (.ifCond .ne 28, 3) := by decide +kernel
theorem dX5_grant_31 : decode cX5_grant 31 = .ok (.aload_n 0, 1) := by decide +kernel
theorem dX5_grant_32 : decode cX5_grant 32 = .ok (.getfield 9, 3) := by decide +kernel
theorem dX5_grant_35 : decode cX5_grant 35 = .ok (.getfield 52, 3) := by decide +kernel
theorem dX5_grant_38 : decode cX5_grant 38 = .ok (.getfield 56, 3) := by decide +kernel
theorem dX5_grant_41 : decode cX5_grant 41 = .ok (.iload 5, 2) := by decide +kernel
theorem dX5_grant_43 : decode cX5_grant 43 = .ok (.if_icmp .eq 13, 3) := by decide +kernel
theorem dX5_grant_46 : decode cX5_grant 46 = .ok (.aload_n 0, 1) := by decide +kernel
theorem dX5_grant_47 : decode cX5_grant 47 = .ok (.getfield 9, 3) := by decide +kernel
theorem dX5_grant_50 : decode cX5_grant 50 = .ok (.getfield 52, 3) := by decide +kernel
theorem dX5_grant_53 : decode cX5_grant 53 = .ok (.invokevirtual 65, 3) := by decide +kernel
theorem dX5_grant_56 : decode cX5_grant 56 = .ok (.aload_n 0, 1) := by decide +kernel
theorem dX5_grant_57 : decode cX5_grant 57 = .ok (.getfield 9, 3) := by decide +kernel
theorem dX5_grant_60 : decode cX5_grant 60 = .ok (.getfield 52, 3) := by decide +kernel
theorem dX5_grant_63 : decode cX5_grant 63 = .ok (.invokevirtual 68, 3) := by decide +kernel
theorem dX5_grant_66 : decode cX5_grant 66 = .ok (.ifCond .eq 14, 3) := by decide +kernel
theorem dX5_grant_69 : decode cX5_grant 69 = .ok (.aload_n 0, 1) := by decide +kernel
theorem dX5_grant_70 : decode cX5_grant 70 = .ok (.getfield 9, 3) := by decide +kernel
theorem dX5_grant_73 : decode cX5_grant 73 = .ok (.iconst 0, 1) := by decide +kernel
theorem dX5_grant_74 : decode cX5_grant 74 = .ok (.putfield 72, 3) := by decide +kernel
theorem dX5_grant_77 : decode cX5_grant 77 = .ok (.goto 33, 3) := by decide +kernel
theorem dX5_grant_80 : decode cX5_grant 80 = .ok (.lload_n 3, 1) := by decide +kernel
theorem dX5_grant_81 : decode cX5_grant 81 = .ok (.ldc2_w 50, 3) := by decide +kernel
theorem dX5_grant_84 : decode cX5_grant 84 = .ok (.lcmp, 1) := by decide +kernel
theorem dX5_grant_85 : decode cX5_grant 85 = .ok (.ifCond .eq 25, 3) := by decide +kernel
theorem dX5_grant_88 : decode cX5_grant 88 = .ok (.aload_n 0, 1) := by decide +kernel
theorem dX5_grant_89 : decode cX5_grant 89 = .ok (.getfield 9, 3) := by decide +kernel
theorem dX5_grant_92 : decode cX5_grant 92 = .ok (.aload_n 0, 1) := by decide +kernel
theorem dX5_grant_93 : decode cX5_grant 93 = .ok (.lload_n 3, 1) := by decide +kernel
theorem dX5_grant_94 : decode cX5_grant 94 = .ok (.aload_n 0, 1) := by decide +kernel
theorem dX5_grant_95 : decode cX5_grant 95 = .ok (.getfield 9, 3) := by decide +kernel
theorem dX5_grant_98 : decode cX5_grant 98 = .ok (.getfield 52, 3) := by decide +kernel
theorem dX5_grant_101 : decode cX5_grant 101 = .ok (.getfield 56, 3) := by decide +kernel
theorem dX5_grant_104 : decode cX5_grant 104 = .ok (.invokevirtual 75, 3) := by decide +kernel
theorem dX5_grant_107 : decode cX5_grant 107 = .ok (.putfield 72, 3) := by decide +kernel
theorem dX5_grant_110 : decode cX5_grant 110 = .ok (.aload_n 0, 1) := by decide +kernel
theorem dX5_grant_111 : decode cX5_grant 111 = .ok (.getfield 9, 3) := by decide +kernel
theorem dX5_grant_114 : decode cX5_grant 114 = .ok (.iload_n 1, 1) := by decide +kernel
theorem dX5_grant_115 : decode cX5_grant 115 = .ok (.aload_n 0, 1) := by decide +kernel
theorem dX5_grant_116 : decode cX5_grant 116 = .ok (.getfield 9, 3) := by decide +kernel
theorem dX5_grant_119 : decode cX5_grant 119 = .ok (.getfield 72, 3) := by decide +kernel
theorem dX5_grant_122 : decode cX5_grant 122 = .ok (.invokevirtual 79, 3) := by decide +kernel
theorem dX5_grant_125 : decode cX5_grant 125 = .ok (.return_, 1) := by decide +kernel
theorem dX5_granted_0 : decode cX5_granted 0 = .ok (.lload_n 1, 1) := by decide +kernel
theorem dX5_granted_1 : decode cX5_granted 1 = .ok (.iload_n 3, 1) := by decide +kernel
theorem dX5_granted_2 : decode cX5_granted 2 = .ok (.i2l, 1) := by decide +kernel
theorem dX5_granted_3 : decode cX5_granted 3 = .ok (.lcmp, 1) := by decide +kernel
theorem dX5_granted_4 : decode cX5_granted 4 = .ok (.ifCond .gt 6, 3) := by decide +kernel
theorem dX5_granted_7 : decode cX5_granted 7 = .ok (.lload_n 1, 1) := by decide +kernel
theorem dX5_granted_8 : decode cX5_granted 8 = .ok (.l2i, 1) := by decide +kernel
theorem dX5_granted_9 : decode cX5_granted 9 = .ok (.ireturn, 1) := by decide +kernel
theorem dX5_granted_10 : decode cX5_granted 10 = .ok (.lload_n 1, 1) := by decide +kernel
theorem dX5_granted_11 : decode cX5_granted 11 = .ok (.ldc2_w 83, 3) := by decide +kernel
theorem dX5_granted_14 : decode cX5_granted 14 = .ok (.iload_n 3, 1) := by decide +kernel
theorem dX5_granted_15 : decode cX5_granted 15 = .ok (.i2l, 1) := by decide +kernel
theorem dX5_granted_16 : decode cX5_granted 16 = .ok (.lmul, 1) := by decide +kernel
theorem dX5_granted_17 : decode cX5_granted 17 = .ok (.lcmp, 1) := by decide +kernel
theorem dX5_granted_18 : decode cX5_granted 18 = .ok (.ifCond .lt 5, 3) := by decide +kernel
theorem dX5_granted_21 : decode cX5_granted 21 = .ok (.iload_n 3, 1) := by decide +kernel
theorem dX5_granted_22 : decode cX5_granted 22 = .ok (.ireturn, 1) := by decide +kernel
theorem dX5_granted_23 : decode cX5_granted 23 = .ok (.lload_n 1, 1) := by decide +kernel
theorem dX5_granted_24 : decode cX5_granted 24 = .ok (.lconst 1, 1) := by decide +kernel
theorem dX5_granted_25 : decode cX5_granted 25 = .ok (.ladd, 1) := by decide +kernel
theorem dX5_granted_26 : decode cX5_granted 26 = .ok (.ldc2_w 83, 3) := by decide +kernel
theorem dX5_granted_29 : decode cX5_granted 29 = .ok (.ldiv, 1) := by decide +kernel
theorem dX5_granted_30 : decode cX5_granted 30 = .ok (.l2i, 1) := by decide +kernel
theorem dX5_granted_31 : decode cX5_granted 31 = .ok (.istore 4, 2) := by decide +kernel
theorem dX5_granted_33 : decode cX5_granted 33 = .ok (.iload 4, 2) := by decide +kernel
theorem dX5_granted_35 : decode cX5_granted 35 = .ok (.aload_n 0, 1) := by decide +kernel
theorem dX5_granted_36 : decode cX5_granted 36 = .ok (.iload_n 3, 1) := by decide +kernel
theorem dX5_granted_37 : decode cX5_granted 37 = .ok (.iload 4, 2) := by decide +kernel
theorem dX5_granted_39 : decode cX5_granted 39 = .ok (.isub, 1) := by decide +kernel
theorem dX5_granted_40 : decode cX5_granted 40 = .ok (.iconst 1, 1) := by decide +kernel
theorem dX5_granted_41 : decode cX5_granted 41 = .ok (.iadd, 1) := by decide +kernel
theorem dX5_granted_42 : decode cX5_granted 42 = .ok (.invokevirtual 85, 3) := by decide +kernel
theorem dX5_granted_45 : decode cX5_granted 45 = .ok (.iadd, 1) := by decide +kernel
theorem dX5_granted_46 : decode cX5_granted 46 = .ok (.ireturn, 1) := by decide +kernel
theorem dX5_choicesModulo_0 : decode cX5_choicesModulo 0 = .ok (.iload_n 1, 1) := by decide +kernel
theorem dX5_choicesModulo_1 : decode cX5_choicesModulo 1 = .ok (.iconst 1, 1) := by decide +kernel
theorem dX5_choicesModulo_2 : decode cX5_choicesModulo 2 = .ok (.if_icmp .ge 5, 3) := by decide +kernel
theorem dX5_choicesModulo_5 : decode cX5_choicesModulo 5 = .ok (.iconst 0, 1) := by decide +kernel
theorem dX5_choicesModulo_6 : decode cX5_choicesModulo 6 = .ok (.ireturn, 1) := by decide +kernel
theorem dX5_choicesModulo_7 : decode cX5_choicesModulo 7 = .ok (.aload_n 0, 1) := by decide +kernel
theorem dX5_choicesModulo_8 : decode cX5_choicesModulo 8 = .ok (.getfield 9, 3) := by decide +kernel
theorem dX5_choicesModulo_11 : decode cX5_choicesModulo 11 = .ok (.getfield 88, 3) := by decide +kernel
theorem dX5_choicesModulo_14 : decode cX5_choicesModulo 14 = .ok (.iconst 1, 1) := by decide +kernel
theorem dX5_choicesModulo_15 : decode cX5_choicesModulo 15 = .ok (.lushr, 1) := by decide +kernel
theorem dX5_choicesModulo_16 : decode cX5_choicesModulo 16 = .ok (.iload_n 1, 1) := by decide +kernel
theorem dX5_choicesModulo_17 : decode cX5_choicesModulo 17 = .ok (.i2l, 1) := by decide +kernel
theorem dX5_choicesModulo_18 : decode cX5_choicesModulo 18 = .ok (.lrem, 1) := by decide +kernel
theorem dX5_choicesModulo_19 : decode cX5_choicesModulo 19 = .ok (.lstore_n 2, 1) := by decide +kernel
theorem dX5_choicesModulo_20 : decode cX5_choicesModulo 20 = .ok (.ldc2_w 83, 3) := by decide +kernel
theorem dX5_choicesModulo_23 : decode cX5_choicesModulo 23 = .ok (.lload_n 2, 1) := by decide +kernel
theorem dX5_choicesModulo_24 : decode cX5_choicesModulo 24 = .ok (.lmul, 1) := by decide +kernel
theorem dX5_choicesModulo_25 : decode cX5_choicesModulo 25 = .ok (.aload_n 0, 1) := by decide +kernel
theorem dX5_choicesModulo_26 : decode cX5_choicesModulo 26 = .ok (.getfield 9, 3) := by decide +kernel
theorem dX5_choicesModulo_29 : decode cX5_choicesModulo 29 = .ok (.getfield 88, 3) := by decide +kernel
theorem dX5_choicesModulo_32 : decode cX5_choicesModulo 32 = .ok (.lconst 1, 1) := by decide +kernel
theorem dX5_choicesModulo_33 : decode cX5_choicesModulo 33 = .ok (.land, 1) := by decide +kernel
theorem dX5_choicesModulo_34 : decode cX5_choicesModulo 34 = .ok (.ladd, 1) := by decide +kernel
theorem dX5_choicesModulo_35 : decode cX5_choicesModulo 35 = .ok (.iload_n 1, 1) := by decide +kernel
theorem dX5_choicesModulo_36 : decode cX5_choicesModulo 36 = .ok (.i2l, 1) := by decide +kernel
theorem dX5_choicesModulo_37 : decode cX5_choicesModulo 37 = .ok (.lrem, 1) := by decide +kernel
theorem dX5_choicesModulo_38 : decode cX5_choicesModulo 38 = .ok (.l2i, 1) := by decide +kernel
theorem dX5_choicesModulo_39 : decode cX5_choicesModulo 39 = .ok (.ireturn, 1) := by decide +kernel
theorem dX6_init_0 : decode cX6_init 0 = .ok (.aload_n 0, 1) := by decide +kernel
theorem dX6_init_1 : decode cX6_init 1 = .ok (.invokespecial 3, 3) := by decide +kernel
theorem dX6_init_4 : decode cX6_init 4 = .ok (.aload_n 0, 1) := by decide +kernel
theorem dX6_init_5 : decode cX6_init 5 = .ok (.sipush 256, 3) := by decide +kernel
theorem dX6_init_8 : decode cX6_init 8 = .ok (.newarray .int, 2) := by decide +kernel
theorem dX6_init_10 : decode cX6_init 10 = .ok (.putfield 9, 3) := by decide +kernel
theorem dX6_init_13 : decode cX6_init 13 = .ok (.return_, 1) := by decide +kernel
theorem dX6_close_0 : decode cX6_close 0 = .ok (.iconst 1, 1) := by decide +kernel
theorem dX6_close_1 : decode cX6_close 1 = .ok (.iload_n 1, 1) := by decide +kernel
theorem dX6_close_2 : decode cX6_close 2 = .ok (.ishl, 1) := by decide +kernel
theorem dX6_close_3 : decode cX6_close 3 = .ok (.istore_n 3, 1) := by decide +kernel
theorem dX6_close_4 : decode cX6_close 4 = .ok (.aload_n 0, 1) := by decide +kernel
theorem dX6_close_5 : decode cX6_close 5 = .ok (.iload_n 2, 1) := by decide +kernel
theorem dX6_close_6 : decode cX6_close 6 = .ok (.ifCond .eq 12, 3) := by decide +kernel
theorem dX6_close_9 : decode cX6_close 9 = .ok (.aload_n 0, 1) := by decide +kernel
theorem dX6_close_10 : decode cX6_close 10 = .ok (.getfield 15, 3) := by decide +kernel
theorem dX6_close_13 : decode cX6_close 13 = .ok (.iload_n 3, 1) := by decide +kernel
theorem dX6_close_14 : decode cX6_close 14 = .ok (.ior, 1) := by decide +kernel
theorem dX6_close_15 : decode cX6_close 15 = .ok (.goto 11, 3) := by decide +kernel
theorem dX6_close_18 : decode cX6_close 18 = .ok (.aload_n 0, 1) := by decide +kernel
theorem dX6_close_19 : decode cX6_close 19 = .ok (.getfield 15, 3) := by decide +kernel
theorem dX6_close_22 : decode cX6_close 22 = .ok (.iload_n 3, 1) := by decide +kernel
theorem dX6_close_23 : decode cX6_close 23 = .ok (.iconst (-1), 1) := by decide +kernel
theorem dX6_close_24 : decode cX6_close 24 = .ok (.ixor, 1) := by decide +kernel
theorem dX6_close_25 : decode cX6_close 25 = .ok (.iand, 1) := by decide +kernel
theorem dX6_close_26 : decode cX6_close 26 = .ok (.putfield 15, 3) := by decide +kernel
theorem dX6_close_29 : decode cX6_close 29 = .ok (.return_, 1) := by decide +kernel
theorem dX6_admits_0 : decode cX6_admits 0 = .ok (.iload_n 1, 1) := by decide +kernel
theorem dX6_admits_1 : decode cX6_admits 1 = .ok (.ifCond .lt 12, 3) := by decide +kernel
theorem dX6_admits_4 : decode cX6_admits 4 = .ok (.iload_n 1, 1) := by decide +kernel
theorem dX6_admits_5 : decode cX6_admits 5 = .ok (.sipush 1024, 3) := by decide +kernel
theorem dX6_admits_8 : decode cX6_admits 8 = .ok (.iload_n 2, 1) := by decide +kernel
theorem dX6_admits_9 : decode cX6_admits 9 = .ok (.isub, 1) := by decide +kernel
theorem dX6_admits_10 : decode cX6_admits 10 = .ok (.if_icmp .le 5, 3) := by decide +kernel
theorem dX6_admits_13 : decode cX6_admits 13 = .ok (.iconst 0, 1) := by decide +kernel
theorem dX6_admits_14 : decode cX6_admits 14 = .ok (.ireturn, 1) := by decide +kernel
theorem dX6_admits_15 : decode cX6_admits 15 = .ok (.aload_n 0, 1) := by decide +kernel
theorem dX6_admits_16 : decode cX6_admits 16 = .ok (.iload_n 1, 1) := by decide +kernel
theorem dX6_admits_17 : decode cX6_admits 17 = .ok (.invokevirtual 19, 3) := by decide +kernel
theorem dX6_admits_20 : decode cX6_admits 20 = .ok (.ifCond .eq 19, 3) := by decide +kernel
theorem dX6_admits_23 : decode cX6_admits 23 = .ok (.aload_n 0, 1) := by decide +kernel
theorem dX6_admits_24 : decode cX6_admits 24 = .ok (.iload_n 1, 1) := by decide +kernel
theorem dX6_admits_25 : decode cX6_admits 25 = .ok (.iload_n 2, 1) := by decide +kernel
theorem dX6_admits_26 : decode cX6_admits 26 = .ok (.iadd, 1) := by decide +kernel
theorem dX6_admits_27 : decode cX6_admits 27 = .ok (.iconst 1, 1) := by decide +kernel
theorem dX6_admits_28 : decode cX6_admits 28 = .ok (.isub, 1) := by decide +kernel
theorem dX6_admits_29 : decode cX6_admits 29 = .ok (.invokevirtual 19, 3) := by decide +kernel
theorem dX6_admits_32 : decode cX6_admits 32 = .ok (.ifCond .eq 7, 3) := by decide +kernel
theorem dX6_admits_35 : decode cX6_admits 35 = .ok (.iconst 1, 1) := by decide +kernel
theorem dX6_admits_36 : decode cX6_admits 36 = .ok (.goto 4, 3) := by decide +kernel
theorem dX6_admits_39 : decode cX6_admits 39 = .ok (.iconst 0, 1) := by decide +kernel
theorem dX6_admits_40 : decode cX6_admits 40 = .ok (.ireturn, 1) := by decide +kernel
theorem dX6_load_0 : decode cX6_load 0 = .ok (.lconst 0, 1) := by decide +kernel
theorem dX6_load_1 : decode cX6_load 1 = .ok (.lstore_n 3, 1) := by decide +kernel
theorem dX6_load_2 : decode cX6_load 2 = .ok (.iconst 0, 1) := by decide +kernel
theorem dX6_load_3 : decode cX6_load 3 = .ok (.istore 5, 2) := by decide +kernel
theorem dX6_load_5 : decode cX6_load 5 = .ok (.iload 5, 2) := by decide +kernel
theorem dX6_load_7 : decode cX6_load 7 = .ok (.iload_n 2, 1) := by decide +kernel
theorem dX6_load_8 : decode cX6_load 8 = .ok (.if_icmp .ge 27, 3) := by decide +kernel
theorem dX6_load_11 : decode cX6_load 11 = .ok (.lload_n 3, 1) := by decide +kernel
theorem dX6_load_12 : decode cX6_load 12 = .ok (.aload_n 0, 1) := by decide +kernel
theorem dX6_load_13 : decode cX6_load 13 = .ok (.iload_n 1, 1) := by decide +kernel
theorem dX6_load_14 : decode cX6_load 14 = .ok (.iload 5, 2) := by decide +kernel
theorem dX6_load_16 : decode cX6_load 16 = .ok (.iadd, 1) := by decide +kernel
theorem dX6_load_17 : decode cX6_load 17 = .ok (.invokevirtual 23, 3) := by decide +kernel
theorem dX6_load_20 : decode cX6_load 20 = .ok (.i2l, 1) := by decide +kernel
theorem dX6_load_21 : decode cX6_load 21 = .ok (.bipush 8, 2) := by decide +kernel
theorem dX6_load_23 : decode cX6_load 23 = .ok (.iload 5, 2) := by decide +kernel
theorem dX6_load_25 : decode cX6_load 25 = .ok (.imul, 1) := by decide +kernel
theorem dX6_load_26 : decode cX6_load 26 = .ok (.lshl, 1) := by decide +kernel
theorem dX6_load_27 : decode cX6_load 27 = .ok (.lor, 1) := by decide +kernel
theorem dX6_load_28 : decode cX6_load 28 = .ok (.lstore_n 3, 1) := by decide +kernel
theorem dX6_load_29 : decode cX6_load 29 = .ok (.iinc 5 1, 3) := by decide +kernel
theorem dX6_load_32 : decode cX6_load 32 = .ok (.goto (-27), 3) := by decide +kernel
theorem dX6_load_35 : decode cX6_load 35 = .ok (.lload_n 3, 1) := by decide +kernel
theorem dX6_load_36 : decode cX6_load 36 = .ok (.lreturn, 1) := by decide +kernel
theorem dX6_store_0 : decode cX6_store 0 = .ok (.iconst 0, 1) := by decide +kernel
theorem dX6_store_1 : decode cX6_store 1 = .ok (.istore 5, 2) := by decide +kernel
theorem dX6_store_3 : decode cX6_store 3 = .ok (.iload 5, 2) := by decide +kernel
theorem dX6_store_5 : decode cX6_store 5 = .ok (.iload_n 2, 1) := by decide +kernel
theorem dX6_store_6 : decode cX6_store 6 = .ok (.if_icmp .ge 29, 3) := by decide +kernel
theorem dX6_store_9 : decode cX6_store 9 = .ok (.aload_n 0, 1) := by decide +kernel
theorem dX6_store_10 : decode cX6_store 10 = .ok (.iload_n 1, 1) := by decide +kernel
theorem dX6_store_11 : decode cX6_store 11 = .ok (.iload 5, 2) := by decide +kernel
theorem dX6_store_13 : decode cX6_store 13 = .ok (.iadd, 1) := by decide +kernel
theorem dX6_store_14 : decode cX6_store 14 = .ok (.lload_n 3, 1) := by decide +kernel
theorem dX6_store_15 : decode cX6_store 15 = .ok (.bipush 8, 2) := by decide +kernel
theorem dX6_store_17 : decode cX6_store 17 = .ok (.iload 5, 2) := by decide +kernel
theorem dX6_store_19 : decode cX6_store 19 = .ok (.imul, 1) := by decide +kernel
theorem dX6_store_20 : decode cX6_store 20 = .ok (.lushr, 1) := by decide +kernel
theorem dX6_store_21 : decode cX6_store 21 = .ok (.l2i, 1) := by decide +kernel
theorem dX6_store_22 : decode cX6_store 22 = .ok (.sipush 255, 3) := by decide +kernel
theorem dX6_store_25 : decode cX6_store 25 = .ok (.iand, 1) := by decide +kernel
theorem dX6_store_26 : decode cX6_store 26 = .ok (.invokevirtual 27, 3) := by decide +kernel
theorem dX6_store_29 : decode cX6_store 29 = .ok (.iinc 5 1, 3) := by decide +kernel
theorem dX6_store_32 : decode cX6_store 32 = .ok (.goto (-29), 3) := by decide +kernel
theorem dX6_store_35 : decode cX6_store 35 = .ok (.return_, 1) := by decide +kernel
theorem dX6_isOpenAt_0 : decode cX6_isOpenAt 0 = .ok (.aload_n 0, 1) := by decide +kernel
theorem dX6_isOpenAt_1 : decode cX6_isOpenAt 1 = .ok (.getfield 15, 3) := by decide +kernel
theorem dX6_isOpenAt_4 : decode cX6_isOpenAt 4 = .ok (.iload_n 1, 1) := by decide +kernel
theorem dX6_isOpenAt_5 : decode cX6_isOpenAt 5 = .ok (.bipush 6, 2) := by decide +kernel
theorem dX6_isOpenAt_7 : decode cX6_isOpenAt 7 = .ok (.ishr, 1) := by decide +kernel
theorem dX6_isOpenAt_8 : decode cX6_isOpenAt 8 = .ok (.iushr, 1) := by decide +kernel
theorem dX6_isOpenAt_9 : decode cX6_isOpenAt 9 = .ok (.iconst 1, 1) := by decide +kernel
theorem dX6_isOpenAt_10 : decode cX6_isOpenAt 10 = .ok (.iand, 1) := by decide +kernel
theorem dX6_isOpenAt_11 : decode cX6_isOpenAt 11 = .ok (.ifCond .ne 7, 3) := by decide +kernel
theorem dX6_isOpenAt_14 : decode cX6_isOpenAt 14 = .ok (.iconst 1, 1) := by decide +kernel
theorem dX6_isOpenAt_15 : decode cX6_isOpenAt 15 = .ok (.goto 4, 3) := by decide +kernel
theorem dX6_isOpenAt_18 : decode cX6_isOpenAt 18 = .ok (.iconst 0, 1) := by decide +kernel
theorem dX6_isOpenAt_19 : decode cX6_isOpenAt 19 = .ok (.ireturn, 1) := by decide +kernel
theorem dX6_byteAt_0 : decode cX6_byteAt 0 = .ok (.iload_n 1, 1) := by decide +kernel
theorem dX6_byteAt_1 : decode cX6_byteAt 1 = .ok (.iconst 2, 1) := by decide +kernel
theorem dX6_byteAt_2 : decode cX6_byteAt 2 = .ok (.ishr, 1) := by decide +kernel
theorem dX6_byteAt_3 : decode cX6_byteAt 3 = .ok (.istore_n 2, 1) := by decide +kernel
theorem dX6_byteAt_4 : decode cX6_byteAt 4 = .ok (.iload_n 2, 1) := by decide +kernel
theorem dX6_byteAt_5 : decode cX6_byteAt 5 = .ok (.ifCond .lt 10, 3) := by decide +kernel
theorem dX6_byteAt_8 : decode cX6_byteAt 8 = .ok (.iload_n 2, 1) := by decide +kernel
theorem dX6_byteAt_9 : decode cX6_byteAt 9 = .ok (.sipush 256, 3) := by decide +kernel
theorem dX6_byteAt_12 : decode cX6_byteAt 12 = .ok (.if_icmp .lt 5, 3) := by decide +kernel
theorem dX6_byteAt_15 : decode cX6_byteAt 15 = .ok (.iconst 0, 1) := by decide +kernel
theorem dX6_byteAt_16 : decode cX6_byteAt 16 = .ok (.ireturn, 1) := by decide +kernel
theorem dX6_byteAt_17 : decode cX6_byteAt 17 = .ok (.aload_n 0, 1) := by decide +kernel
theorem dX6_byteAt_18 : decode cX6_byteAt 18 = .ok (.getfield 9, 3) := by decide +kernel
theorem dX6_byteAt_21 : decode cX6_byteAt 21 = .ok (.iload_n 2, 1) := by decide +kernel
theorem dX6_byteAt_22 : decode cX6_byteAt 22 = .ok (.iaload, 1) := by decide +kernel
theorem dX6_byteAt_23 : decode cX6_byteAt 23 = .ok (.bipush 8, 2) := by decide +kernel
theorem dX6_byteAt_25 : decode cX6_byteAt 25 = .ok (.iload_n 1, 1) := by decide +kernel
theorem dX6_byteAt_26 : decode cX6_byteAt 26 = .ok (.iconst 3, 1) := by decide +kernel
theorem dX6_byteAt_27 : decode cX6_byteAt 27 = .ok (.iand, 1) := by decide +kernel
theorem dX6_byteAt_28 : decode cX6_byteAt 28 = .ok (.imul, 1) := by decide +kernel
theorem dX6_byteAt_29 : decode cX6_byteAt 29 = .ok (.iushr, 1) := by decide +kernel
theorem dX6_byteAt_30 : decode cX6_byteAt 30 = .ok (.sipush 255, 3) := by decide +kernel
theorem dX6_byteAt_33 : decode cX6_byteAt 33 = .ok (.iand, 1) := by decide +kernel
theorem dX6_byteAt_34 : decode cX6_byteAt 34 = .ok (.ireturn, 1) := by decide +kernel
theorem dX6_putByte_0 : decode cX6_putByte 0 = .ok (.iload_n 1, 1) := by decide +kernel
theorem dX6_putByte_1 : decode cX6_putByte 1 = .ok (.iconst 2, 1) := by decide +kernel
theorem dX6_putByte_2 : decode cX6_putByte 2 = .ok (.ishr, 1) := by decide +kernel
theorem dX6_putByte_3 : decode cX6_putByte 3 = .ok (.istore_n 3, 1) := by decide +kernel
theorem dX6_putByte_4 : decode cX6_putByte 4 = .ok (.iload_n 3, 1) := by decide +kernel
theorem dX6_putByte_5 : decode cX6_putByte 5 = .ok (.ifCond .lt 10, 3) := by decide +kernel
theorem dX6_putByte_8 : decode cX6_putByte 8 = .ok (.iload_n 3, 1) := by decide +kernel
theorem dX6_putByte_9 : decode cX6_putByte 9 = .ok (.sipush 256, 3) := by decide +kernel
theorem dX6_putByte_12 : decode cX6_putByte 12 = .ok (.if_icmp .lt 4, 3) := by decide +kernel
theorem dX6_putByte_15 : decode cX6_putByte 15 = .ok (.return_, 1) := by decide +kernel
theorem dX6_putByte_16 : decode cX6_putByte 16 = .ok (.bipush 8, 2) := by decide +kernel
theorem dX6_putByte_18 : decode cX6_putByte 18 = .ok (.iload_n 1, 1) := by decide +kernel
theorem dX6_putByte_19 : decode cX6_putByte 19 = .ok (.iconst 3, 1) := by decide +kernel
theorem dX6_putByte_20 : decode cX6_putByte 20 = .ok (.iand, 1) := by decide +kernel
theorem dX6_putByte_21 : decode cX6_putByte 21 = .ok (.imul, 1) := by decide +kernel
theorem dX6_putByte_22 : decode cX6_putByte 22 = .ok (.istore 4, 2) := by decide +kernel
theorem dX6_putByte_24 : decode cX6_putByte 24 = .ok (.aload_n 0, 1) := by decide +kernel
theorem dX6_putByte_25 : decode cX6_putByte 25 = .ok (.getfield 9, 3) := by decide +kernel
theorem dX6_putByte_28 : decode cX6_putByte 28 = .ok (.iload_n 3, 1) := by decide +kernel
theorem dX6_putByte_29 : decode cX6_putByte 29 = .ok (.aload_n 0, 1) := by decide +kernel
theorem dX6_putByte_30 : decode cX6_putByte 30 = .ok (.getfield 9, 3) := by decide +kernel
theorem dX6_putByte_33 : decode cX6_putByte 33 = .ok (.iload_n 3, 1) := by decide +kernel
theorem dX6_putByte_34 : decode cX6_putByte 34 = .ok (.iaload, 1) := by decide +kernel
theorem dX6_putByte_35 : decode cX6_putByte 35 = .ok (.sipush 255, 3) := by decide +kernel
theorem dX6_putByte_38 : decode cX6_putByte 38 = .ok (.iload 4, 2) := by decide +kernel
theorem dX6_putByte_40 : decode cX6_putByte 40 = .ok (.ishl, 1) := by decide +kernel
theorem dX6_putByte_41 : decode cX6_putByte 41 = .ok (.iconst (-1), 1) := by decide +kernel
theorem dX6_putByte_42 : decode cX6_putByte 42 = .ok (.ixor, 1) := by decide +kernel
theorem dX6_putByte_43 : decode cX6_putByte 43 = .ok (.iand, 1) := by decide +kernel
theorem dX6_putByte_44 : decode cX6_putByte 44 = .ok (.iload_n 2, 1) := by decide +kernel
theorem dX6_putByte_45 : decode cX6_putByte 45 = .ok (.iload 4, 2) := by decide +kernel
theorem dX6_putByte_47 : decode cX6_putByte 47 = .ok (.ishl, 1) := by decide +kernel
theorem dX6_putByte_48 : decode cX6_putByte 48 = .ok (.ior, 1) := by decide +kernel
theorem dX6_putByte_49 : decode cX6_putByte 49 = .ok (.iastore, 1) := by decide +kernel
theorem dX6_putByte_50 : decode cX6_putByte 50 = .ok (.return_, 1) := by decide +kernel
theorem dX7_init_0 : decode cX7_init 0 = .ok (.aload_n 0, 1) := by decide +kernel
theorem dX7_init_1 : decode cX7_init 1 = .ok (.invokespecial 3, 3) := by decide +kernel
theorem dX7_init_4 : decode cX7_init 4 = .ok (.aload_n 0, 1) := by decide +kernel
theorem dX7_init_5 : decode cX7_init 5 = .ok (.aload_n 1, 1) := by decide +kernel
theorem dX7_init_6 : decode cX7_init 6 = .ok (.putfield 9, 3) := by decide +kernel
theorem dX7_init_9 : decode cX7_init 9 = .ok (.aload_n 0, 1) := by decide +kernel
theorem dX7_init_10 : decode cX7_init 10 = .ok (.aload_n 2, 1) := by decide +kernel
theorem dX7_init_11 : decode cX7_init 11 = .ok (.putfield 15, 3) := by decide +kernel
theorem dX7_init_14 : decode cX7_init 14 = .ok (.aload_n 0, 1) := by decide +kernel
theorem dX7_init_15 : decode cX7_init 15 = .ok (.new 19, 3) := by decide +kernel
theorem dX7_init_18 : decode cX7_init 18 = .ok (.dup, 1) := by decide +kernel
theorem dX7_init_19 : decode cX7_init 19 = .ok (.aload_n 1, 1) := by decide +kernel
theorem dX7_init_20 : decode cX7_init 20 = .ok (.invokespecial 21, 3) := by decide +kernel
theorem dX7_init_23 : decode cX7_init 23 = .ok (.putfield 24, 3) := by decide +kernel
theorem dX7_init_26 : decode cX7_init 26 = .ok (.aload_n 0, 1) := by decide +kernel
theorem dX7_init_27 : decode cX7_init 27 = .ok (.new 19, 3) := by decide +kernel
theorem dX7_init_30 : decode cX7_init 30 = .ok (.dup, 1) := by decide +kernel
theorem dX7_init_31 : decode cX7_init 31 = .ok (.aload_n 1, 1) := by decide +kernel
theorem dX7_init_32 : decode cX7_init 32 = .ok (.invokespecial 21, 3) := by decide +kernel
theorem dX7_init_35 : decode cX7_init 35 = .ok (.putfield 28, 3) := by decide +kernel
theorem dX7_init_38 : decode cX7_init 38 = .ok (.aload_n 0, 1) := by decide +kernel
theorem dX7_init_39 : decode cX7_init 39 = .ok (.new 19, 3) := by decide +kernel
theorem dX7_init_42 : decode cX7_init 42 = .ok (.dup, 1) := by decide +kernel
theorem dX7_init_43 : decode cX7_init 43 = .ok (.aload_n 1, 1) := by decide +kernel
theorem dX7_init_44 : decode cX7_init 44 = .ok (.invokespecial 21, 3) := by decide +kernel
theorem dX7_init_47 : decode cX7_init 47 = .ok (.putfield 31, 3) := by decide +kernel
theorem dX7_init_50 : decode cX7_init 50 = .ok (.return_, 1) := by decide +kernel
theorem dX7_execute_0 : decode cX7_execute 0 = .ok (.aload_n 1, 1) := by decide +kernel
theorem dX7_execute_1 : decode cX7_execute 1 = .ok (.getfield 34, 3) := by decide +kernel
theorem dX7_execute_4 : decode cX7_execute 4 = .ok (.invokestatic 40, 3) := by decide +kernel
theorem dX7_execute_7 : decode cX7_execute 7 = .ok (.istore_n 2, 1) := by decide +kernel
theorem dX7_execute_8 : decode cX7_execute 8 = .ok (.aload_n 1, 1) := by decide +kernel
theorem dX7_execute_9 : decode cX7_execute 9 = .ok (.getfield 44, 3) := by decide +kernel
theorem dX7_execute_12 : decode cX7_execute 12 = .ok (.bipush 28, 2) := by decide +kernel
theorem dX7_execute_14 : decode cX7_execute 14 = .ok (.iushr, 1) := by decide +kernel
theorem dX7_execute_15 : decode cX7_execute 15 = .ok (.iconst 1, 1) := by decide +kernel
theorem dX7_execute_16 : decode cX7_execute 16 = .ok (.iand, 1) := by decide +kernel
theorem dX7_execute_17 : decode cX7_execute 17 = .ok (.iconst 1, 1) := by decide +kernel
theorem dX7_execute_18 : decode cX7_execute 18 = .ok (.if_icmp .ne 7, 3) := by decide +kernel
theorem dX7_execute_21 : decode cX7_execute 21 = .ok (.iconst 1, 1) := by decide +kernel
theorem dX7_execute_22 : decode cX7_execute 22 = .ok (.goto 4, 3) := by decide +kernel
theorem dX7_execute_25 : decode cX7_execute 25 = .ok (.iconst 0, 1) := by decide +kernel
theorem dX7_execute_26 : decode cX7_execute 26 = .ok (.istore_n 3, 1) := by decide +kernel
theorem dX7_execute_27 : decode cX7_execute 27 = .ok (.iload_n 2, 1) := by decide +kernel
theorem dX7_execute_28 : decode cX7_execute 28 = .ok (.ifCond .eq 7, 3) := by decide +kernel
theorem dX7_execute_31 : decode cX7_execute 31 = .ok (.iload_n 3, 1) := by decide +kernel
theorem dX7_execute_32 : decode cX7_execute 32 = .ok (.ifCond .eq 5, 3) := by decide +kernel
theorem dX7_execute_35 : decode cX7_execute 35 = .ok (.iconst 1, 1) := by decide +kernel
theorem dX7_execute_36 : decode cX7_execute 36 = .ok (.ireturn, 1) := by decide +kernel
theorem dX7_execute_37 : decode cX7_execute 37 = .ok (.aload_n 0, 1) := by decide +kernel
theorem dX7_execute_38 : decode cX7_execute 38 = .ok (.aload_n 1, 1) := by decide +kernel
theorem dX7_execute_39 : decode cX7_execute 39 = .ok (.iload_n 2, 1) := by decide +kernel
theorem dX7_execute_40 : decode cX7_execute 40 = .ok (.invokevirtual 47, 3) := by decide +kernel
theorem dX7_execute_43 : decode cX7_execute 43 = .ok (.aload_n 0, 1) := by decide +kernel
theorem dX7_execute_44 : decode cX7_execute 44 = .ok (.aload_n 1, 1) := by decide +kernel
theorem dX7_execute_45 : decode cX7_execute 45 = .ok (.iload_n 2, 1) := by decide +kernel
theorem dX7_execute_46 : decode cX7_execute 46 = .ok (.invokevirtual 51, 3) := by decide +kernel
theorem dX7_execute_49 : decode cX7_execute 49 = .ok (.ifCond .eq 10, 3) := by decide +kernel
theorem dX7_execute_52 : decode cX7_execute 52 = .ok (.aload_n 0, 1) := by decide +kernel
theorem dX7_execute_53 : decode cX7_execute 53 = .ok (.invokevirtual 55, 3) := by decide +kernel
theorem dX7_execute_56 : decode cX7_execute 56 = .ok (.goto 4, 3) := by decide +kernel
theorem dX7_execute_59 : decode cX7_execute 59 = .ok (.iconst 1, 1) := by decide +kernel
theorem dX7_execute_60 : decode cX7_execute 60 = .ok (.ireturn, 1) := by decide +kernel
theorem dX7_widthOf_0 : decode cX7_widthOf 0 = .ok (.iload_n 0, 1) := by decide +kernel
theorem dX7_widthOf_1 : decode cX7_widthOf 1 = .ok (.lookupswitch 44 #[(0, 35), (5, 38), (6, 41)], 35) := by decide +kernel
theorem dX7_widthOf_36 : decode cX7_widthOf 36 = .ok (.bipush 8, 2) := by decide +kernel
theorem dX7_widthOf_38 : decode cX7_widthOf 38 = .ok (.ireturn, 1) := by decide +kernel
theorem dX7_widthOf_39 : decode cX7_widthOf 39 = .ok (.bipush 16, 2) := by decide +kernel
theorem dX7_widthOf_41 : decode cX7_widthOf 41 = .ok (.ireturn, 1) := by decide +kernel
theorem dX7_widthOf_42 : decode cX7_widthOf 42 = .ok (.bipush 32, 2) := by decide +kernel
theorem dX7_widthOf_44 : decode cX7_widthOf 44 = .ok (.ireturn, 1) := by decide +kernel
theorem dX7_widthOf_45 : decode cX7_widthOf 45 = .ok (.iconst 0, 1) := by decide +kernel
theorem dX7_widthOf_46 : decode cX7_widthOf 46 = .ok (.ireturn, 1) := by decide +kernel
theorem dX7_prepare_0 : decode cX7_prepare 0 = .ok (.aload_n 0, 1) := by decide +kernel
theorem dX7_prepare_1 : decode cX7_prepare 1 = .ok (.aload_n 0, 1) := by decide +kernel
theorem dX7_prepare_2 : decode cX7_prepare 2 = .ok (.getfield 9, 3) := by decide +kernel
theorem dX7_prepare_5 : decode cX7_prepare 5 = .ok (.aload_n 1, 1) := by decide +kernel
theorem dX7_prepare_6 : decode cX7_prepare 6 = .ok (.getfield 59, 3) := by decide +kernel
theorem dX7_prepare_9 : decode cX7_prepare 9 = .ok (.invokevirtual 62, 3) := by decide +kernel
theorem dX7_prepare_12 : decode cX7_prepare 12 = .ok (.putfield 67, 3) := by decide +kernel
theorem dX7_prepare_15 : decode cX7_prepare 15 = .ok (.aload_n 0, 1) := by decide +kernel
theorem dX7_prepare_16 : decode cX7_prepare 16 = .ok (.iload_n 2, 1) := by decide +kernel
theorem dX7_prepare_17 : decode cX7_prepare 17 = .ok (.bipush 8, 2) := by decide +kernel
theorem dX7_prepare_19 : decode cX7_prepare 19 = .ok (.idiv, 1) := by decide +kernel
theorem dX7_prepare_20 : decode cX7_prepare 20 = .ok (.putfield 70, 3) := by decide +kernel
theorem dX7_prepare_23 : decode cX7_prepare 23 = .ok (.aload_n 0, 1) := by decide +kernel
theorem dX7_prepare_24 : decode cX7_prepare 24 = .ok (.aload_n 0, 1) := by decide +kernel
theorem dX7_prepare_25 : decode cX7_prepare 25 = .ok (.getfield 9, 3) := by decide +kernel
theorem dX7_prepare_28 : decode cX7_prepare 28 = .ok (.getfield 73, 3) := by decide +kernel
theorem dX7_prepare_31 : decode cX7_prepare 31 = .ok (.putfield 76, 3) := by decide +kernel
theorem dX7_prepare_34 : decode cX7_prepare 34 = .ok (.aload_n 0, 1) := by decide +kernel
theorem dX7_prepare_35 : decode cX7_prepare 35 = .ok (.aload_n 1, 1) := by decide +kernel
theorem dX7_prepare_36 : decode cX7_prepare 36 = .ok (.getfield 77, 3) := by decide +kernel
theorem dX7_prepare_39 : decode cX7_prepare 39 = .ok (.bipush 39, 2) := by decide +kernel
theorem dX7_prepare_41 : decode cX7_prepare 41 = .ok (.if_icmp .ne 7, 3) := by decide +kernel
theorem dX7_prepare_44 : decode cX7_prepare 44 = .ok (.iconst 1, 1) := by decide +kernel
theorem dX7_prepare_45 : decode cX7_prepare 45 = .ok (.goto 4, 3) := by decide +kernel
theorem dX7_prepare_48 : decode cX7_prepare 48 = .ok (.iconst 0, 1) := by decide +kernel
theorem dX7_prepare_49 : decode cX7_prepare 49 = .ok (.putfield 80, 3) := by decide +kernel
theorem dX7_prepare_52 : decode cX7_prepare 52 = .ok (.aload_n 0, 1) := by decide +kernel
theorem dX7_prepare_53 : decode cX7_prepare 53 = .ok (.aload_n 1, 1) := by decide +kernel
theorem dX7_prepare_54 : decode cX7_prepare 54 = .ok (.getfield 84, 3) := by decide +kernel
theorem dX7_prepare_57 : decode cX7_prepare 57 = .ok (.putfield 87, 3) := by decide +kernel
theorem dX7_prepare_60 : decode cX7_prepare 60 = .ok (.aload_n 0, 1) := by decide +kernel
theorem dX7_prepare_61 : decode cX7_prepare 61 = .ok (.iconst 0, 1) := by decide +kernel
theorem dX7_prepare_62 : decode cX7_prepare 62 = .ok (.putfield 90, 3) := by decide +kernel
theorem dX7_prepare_65 : decode cX7_prepare 65 = .ok (.aload_n 0, 1) := by decide +kernel
theorem dX7_prepare_66 : decode cX7_prepare 66 = .ok (.iconst 0, 1) := by decide +kernel
theorem dX7_prepare_67 : decode cX7_prepare 67 = .ok (.putfield 93, 3) := by decide +kernel
theorem dX7_prepare_70 : decode cX7_prepare 70 = .ok (.aload_n 0, 1) := by decide +kernel
theorem dX7_prepare_71 : decode cX7_prepare 71 = .ok (.iconst 0, 1) := by decide +kernel
theorem dX7_prepare_72 : decode cX7_prepare 72 = .ok (.putfield 96, 3) := by decide +kernel
theorem dX7_prepare_75 : decode cX7_prepare 75 = .ok (.return_, 1) := by decide +kernel
theorem dX7_cover_0 : decode cX7_cover 0 = .ok (.aload_n 1, 1) := by decide +kernel
theorem dX7_cover_1 : decode cX7_cover 1 = .ok (.getfield 44, 3) := by decide +kernel
theorem dX7_cover_4 : decode cX7_cover 4 = .ok (.bipush 29, 2) := by decide +kernel
theorem dX7_cover_6 : decode cX7_cover 6 = .ok (.iushr, 1) := by decide +kernel
theorem dX7_cover_7 : decode cX7_cover 7 = .ok (.istore_n 3, 1) := by decide +kernel
theorem dX7_cover_8 : decode cX7_cover 8 = .ok (.aload_n 1, 1) := by decide +kernel
theorem dX7_cover_9 : decode cX7_cover 9 = .ok (.getfield 44, 3) := by decide +kernel
theorem dX7_cover_12 : decode cX7_cover 12 = .ok (.bipush 26, 2) := by decide +kernel
theorem dX7_cover_14 : decode cX7_cover 14 = .ok (.iushr, 1) := by decide +kernel
theorem dX7_cover_15 : decode cX7_cover 15 = .ok (.iconst 3, 1) := by decide +kernel
theorem dX7_cover_16 : decode cX7_cover 16 = .ok (.iand, 1) := by decide +kernel
theorem dX7_cover_17 : decode cX7_cover 17 = .ok (.istore 4, 2) := by decide +kernel
theorem dX7_cover_19 : decode cX7_cover 19 = .ok (.iload 4, 2) := by decide +kernel
theorem dX7_cover_21 : decode cX7_cover 21 = .ok (.ifCond .ne 22, 3) := by decide +kernel
theorem dX7_cover_24 : decode cX7_cover 24 = .ok (.aload_n 1, 1) := by decide +kernel
theorem dX7_cover_25 : decode cX7_cover 25 = .ok (.getfield 99, 3) := by decide +kernel
theorem dX7_cover_28 : decode cX7_cover 28 = .ok (.bipush 8, 2) := by decide +kernel
theorem dX7_cover_30 : decode cX7_cover 30 = .ok (.if_icmp .ne 13, 3) := by decide +kernel
theorem dX7_cover_33 : decode cX7_cover 33 = .ok (.aload_n 0, 1) := by decide +kernel
theorem dX7_cover_34 : decode cX7_cover 34 = .ok (.aload_n 1, 1) := by decide +kernel
theorem dX7_cover_35 : decode cX7_cover 35 = .ok (.iload_n 2, 1) := by decide +kernel
theorem dX7_cover_36 : decode cX7_cover 36 = .ok (.iload_n 3, 1) := by decide +kernel
theorem dX7_cover_37 : decode cX7_cover 37 = .ok (.iconst 1, 1) := by decide +kernel
theorem dX7_cover_38 : decode cX7_cover 38 = .ok (.iadd, 1) := by decide +kernel
theorem dX7_cover_39 : decode cX7_cover 39 = .ok (.invokevirtual 102, 3) := by decide +kernel
theorem dX7_cover_42 : decode cX7_cover 42 = .ok (.ireturn, 1) := by decide +kernel
theorem dX7_cover_43 : decode cX7_cover 43 = .ok (.iload_n 3, 1) := by decide +kernel
theorem dX7_cover_44 : decode cX7_cover 44 = .ok (.ifCond .ne 16, 3) := by decide +kernel
theorem dX7_cover_47 : decode cX7_cover 47 = .ok (.aload_n 0, 1) := by decide +kernel
theorem dX7_cover_48 : decode cX7_cover 48 = .ok (.getfield 9, 3) := by decide +kernel
theorem dX7_cover_51 : decode cX7_cover 51 = .ok (.getfield 106, 3) := by decide +kernel
theorem dX7_cover_54 : decode cX7_cover 54 = .ok (.invokevirtual 110, 3) := by decide +kernel
theorem dX7_cover_57 : decode cX7_cover 57 = .ok (.ifCond .eq 5, 3) := by decide +kernel
theorem dX7_cover_60 : decode cX7_cover 60 = .ok (.iconst 0, 1) := by decide +kernel
theorem dX7_cover_61 : decode cX7_cover 61 = .ok (.ireturn, 1) := by decide +kernel
theorem dX7_cover_62 : decode cX7_cover 62 = .ok (.iload 4, 2) := by decide +kernel
theorem dX7_cover_64 : decode cX7_cover 64 = .ok (.lookupswitch 57 #[(0, 28), (2, 35)], 28) := by decide +kernel
theorem dX7_cover_92 : decode cX7_cover 92 = .ok (.aload_n 0, 1) := by decide +kernel
theorem dX7_cover_93 : decode cX7_cover 93 = .ok (.aload_n 1, 1) := by decide +kernel
theorem dX7_cover_94 : decode cX7_cover 94 = .ok (.iload_n 2, 1) := by decide +kernel
theorem dX7_cover_95 : decode cX7_cover 95 = .ok (.invokevirtual 116, 3) := by decide +kernel
theorem dX7_cover_98 : decode cX7_cover 98 = .ok (.ireturn, 1) := by decide +kernel
theorem dX7_cover_99 : decode cX7_cover 99 = .ok (.aload_n 0, 1) := by decide +kernel
theorem dX7_cover_100 : decode cX7_cover 100 = .ok (.aload_n 0, 1) := by decide +kernel
theorem dX7_cover_101 : decode cX7_cover 101 = .ok (.getfield 9, 3) := by decide +kernel
theorem dX7_cover_104 : decode cX7_cover 104 = .ok (.aload_n 1, 1) := by decide +kernel
theorem dX7_cover_105 : decode cX7_cover 105 = .ok (.getfield 99, 3) := by decide +kernel
theorem dX7_cover_108 : decode cX7_cover 108 = .ok (.invokevirtual 62, 3) := by decide +kernel
theorem dX7_cover_111 : decode cX7_cover 111 = .ok (.putfield 70, 3) := by decide +kernel
theorem dX7_cover_114 : decode cX7_cover 114 = .ok (.aload_n 0, 1) := by decide +kernel
theorem dX7_cover_115 : decode cX7_cover 115 = .ok (.aload_n 1, 1) := by decide +kernel
theorem dX7_cover_116 : decode cX7_cover 116 = .ok (.iload_n 2, 1) := by decide +kernel
theorem dX7_cover_117 : decode cX7_cover 117 = .ok (.invokevirtual 119, 3) := by decide +kernel
theorem dX7_cover_120 : decode cX7_cover 120 = .ok (.ireturn, 1) := by decide +kernel
theorem dX7_cover_121 : decode cX7_cover 121 = .ok (.aload_n 0, 1) := by decide +kernel
theorem dX7_cover_122 : decode cX7_cover 122 = .ok (.aload_n 1, 1) := by decide +kernel
theorem dX7_cover_123 : decode cX7_cover 123 = .ok (.iload_n 2, 1) := by decide +kernel
theorem dX7_cover_124 : decode cX7_cover 124 = .ok (.invokevirtual 122, 3) := by decide +kernel
theorem dX7_cover_127 : decode cX7_cover 127 = .ok (.ireturn, 1) := by decide +kernel
theorem dX7_coverWhole_0 : decode cX7_coverWhole 0 = .ok (.iload_n 3, 1) := by decide +kernel
theorem dX7_coverWhole_1 : decode cX7_coverWhole 1 = .ok (.iconst 1, 1) := by decide +kernel
theorem dX7_coverWhole_2 : decode cX7_coverWhole 2 = .ok (.if_icmp .eq 19, 3) := by decide +kernel
theorem dX7_coverWhole_5 : decode cX7_coverWhole 5 = .ok (.iload_n 3, 1) := by decide +kernel
theorem dX7_coverWhole_6 : decode cX7_coverWhole 6 = .ok (.iconst 2, 1) := by decide +kernel
theorem dX7_coverWhole_7 : decode cX7_coverWhole 7 = .ok (.if_icmp .eq 14, 3) := by decide +kernel
theorem dX7_coverWhole_10 : decode cX7_coverWhole 10 = .ok (.iload_n 3, 1) := by decide +kernel
theorem dX7_coverWhole_11 : decode cX7_coverWhole 11 = .ok (.iconst 4, 1) := by decide +kernel
theorem dX7_coverWhole_12 : decode cX7_coverWhole 12 = .ok (.if_icmp .eq 9, 3) := by decide +kernel
theorem dX7_coverWhole_15 : decode cX7_coverWhole 15 = .ok (.iload_n 3, 1) := by decide +kernel
theorem dX7_coverWhole_16 : decode cX7_coverWhole 16 = .ok (.bipush 8, 2) := by decide +kernel
theorem dX7_coverWhole_18 : decode cX7_coverWhole 18 = .ok (.if_icmp .ne 7, 3) := by decide +kernel
theorem dX7_coverWhole_21 : decode cX7_coverWhole 21 = .ok (.iconst 1, 1) := by decide +kernel
theorem dX7_coverWhole_22 : decode cX7_coverWhole 22 = .ok (.goto 4, 3) := by decide +kernel
theorem dX7_coverWhole_25 : decode cX7_coverWhole 25 = .ok (.iconst 0, 1) := by decide +kernel
theorem dX7_coverWhole_26 : decode cX7_coverWhole 26 = .ok (.istore 4, 2) := by decide +kernel
theorem dX7_coverWhole_28 : decode cX7_coverWhole 28 = .ok (.iload 4, 2) := by decide +kernel
theorem dX7_coverWhole_30 : decode cX7_coverWhole 30 = .ok (.ifCond .eq 23, 3) := by decide +kernel
theorem dX7_coverWhole_33 : decode cX7_coverWhole 33 = .ok (.aload_n 0, 1) := by decide +kernel
theorem dX7_coverWhole_34 : decode cX7_coverWhole 34 = .ok (.getfield 87, 3) := by decide +kernel
theorem dX7_coverWhole_37 : decode cX7_coverWhole 37 = .ok (.ifCond .ne 16, 3) := by decide +kernel
theorem dX7_coverWhole_40 : decode cX7_coverWhole 40 = .ok (.aload_n 0, 1) := by decide +kernel
theorem dX7_coverWhole_41 : decode cX7_coverWhole 41 = .ok (.getfield 80, 3) := by decide +kernel
theorem dX7_coverWhole_44 : decode cX7_coverWhole 44 = .ok (.ifCond .eq 11, 3) := by decide +kernel
theorem dX7_coverWhole_47 : decode cX7_coverWhole 47 = .ok (.iload_n 2, 1) := by decide +kernel
theorem dX7_coverWhole_48 : decode cX7_coverWhole 48 = .ok (.bipush 8, 2) := by decide +kernel
theorem dX7_coverWhole_50 : decode cX7_coverWhole 50 = .ok (.if_icmp .eq 5, 3) := by decide +kernel
theorem dX7_coverWhole_53 : decode cX7_coverWhole 53 = .ok (.iconst 0, 1) := by decide +kernel
theorem dX7_coverWhole_54 : decode cX7_coverWhole 54 = .ok (.ireturn, 1) := by decide +kernel
theorem dX7_coverWhole_55 : decode cX7_coverWhole 55 = .ok (.aload_n 0, 1) := by decide +kernel
theorem dX7_coverWhole_56 : decode cX7_coverWhole 56 = .ok (.getfield 24, 3) := by decide +kernel
theorem dX7_coverWhole_59 : decode cX7_coverWhole 59 = .ok (.aload_n 1, 1) := by decide +kernel
theorem dX7_coverWhole_60 : decode cX7_coverWhole 60 = .ok (.getfield 125, 3) := by decide +kernel
theorem dX7_coverWhole_63 : decode cX7_coverWhole 63 = .ok (.iload_n 2, 1) := by decide +kernel
theorem dX7_coverWhole_64 : decode cX7_coverWhole 64 = .ok (.bipush 8, 2) := by decide +kernel
theorem dX7_coverWhole_66 : decode cX7_coverWhole 66 = .ok (.iload_n 3, 1) := by decide +kernel
theorem dX7_coverWhole_67 : decode cX7_coverWhole 67 = .ok (.imul, 1) := by decide +kernel
theorem dX7_coverWhole_68 : decode cX7_coverWhole 68 = .ok (.invokevirtual 128, 3) := by decide +kernel
theorem dX7_coverWhole_71 : decode cX7_coverWhole 71 = .ok (.aload_n 0, 1) := by decide +kernel
theorem dX7_coverWhole_72 : decode cX7_coverWhole 72 = .ok (.aload_n 0, 1) := by decide +kernel
theorem dX7_coverWhole_73 : decode cX7_coverWhole 73 = .ok (.getfield 24, 3) := by decide +kernel
theorem dX7_coverWhole_76 : decode cX7_coverWhole 76 = .ok (.invokevirtual 131, 3) := by decide +kernel
theorem dX7_coverWhole_79 : decode cX7_coverWhole 79 = .ok (.putfield 76, 3) := by decide +kernel
theorem dX7_coverWhole_82 : decode cX7_coverWhole 82 = .ok (.aload_n 0, 1) := by decide +kernel
theorem dX7_coverWhole_83 : decode cX7_coverWhole 83 = .ok (.getfield 24, 3) := by decide +kernel
theorem dX7_coverWhole_86 : decode cX7_coverWhole 86 = .ok (.invokevirtual 134, 3) := by decide +kernel
theorem dX7_coverWhole_89 : decode cX7_coverWhole 89 = .ok (.ireturn, 1) := by decide +kernel
theorem dX7_coverUnit_0 : decode cX7_coverUnit 0 = .ok (.aload_n 1, 1) := by decide +kernel
theorem dX7_coverUnit_1 : decode cX7_coverUnit 1 = .ok (.getfield 99, 3) := by decide +kernel
theorem dX7_coverUnit_4 : decode cX7_coverUnit 4 = .ok (.lookupswitch 126 #[(0, 36), (11, 43), (16, 99)], 36) := by decide +kernel
theorem dX7_coverUnit_40 : decode cX7_coverUnit 40 = .ok (.aload_n 0, 1) := by decide +kernel
theorem dX7_coverUnit_41 : decode cX7_coverUnit 41 = .ok (.aload_n 1, 1) := by decide +kernel
theorem dX7_coverUnit_42 : decode cX7_coverUnit 42 = .ok (.iload_n 2, 1) := by decide +kernel
theorem dX7_coverUnit_43 : decode cX7_coverUnit 43 = .ok (.invokevirtual 119, 3) := by decide +kernel
theorem dX7_coverUnit_46 : decode cX7_coverUnit 46 = .ok (.ireturn, 1) := by decide +kernel
theorem dX7_coverUnit_47 : decode cX7_coverUnit 47 = .ok (.aload_n 0, 1) := by decide +kernel
theorem dX7_coverUnit_48 : decode cX7_coverUnit 48 = .ok (.getfield 24, 3) := by decide +kernel
theorem dX7_coverUnit_51 : decode cX7_coverUnit 51 = .ok (.aload_n 1, 1) := by decide +kernel
theorem dX7_coverUnit_52 : decode cX7_coverUnit 52 = .ok (.getfield 125, 3) := by decide +kernel
theorem dX7_coverUnit_55 : decode cX7_coverUnit 55 = .ok (.bipush 8, 2) := by decide +kernel
theorem dX7_coverUnit_57 : decode cX7_coverUnit 57 = .ok (.bipush 8, 2) := by decide +kernel
theorem dX7_coverUnit_59 : decode cX7_coverUnit 59 = .ok (.invokevirtual 128, 3) := by decide +kernel
theorem dX7_coverUnit_62 : decode cX7_coverUnit 62 = .ok (.aload_n 0, 1) := by decide +kernel
theorem dX7_coverUnit_63 : decode cX7_coverUnit 63 = .ok (.aload_n 0, 1) := by decide +kernel
theorem dX7_coverUnit_64 : decode cX7_coverUnit 64 = .ok (.getfield 9, 3) := by decide +kernel
theorem dX7_coverUnit_67 : decode cX7_coverUnit 67 = .ok (.getfield 73, 3) := by decide +kernel
theorem dX7_coverUnit_70 : decode cX7_coverUnit 70 = .ok (.bipush 7, 2) := by decide +kernel
theorem dX7_coverUnit_72 : decode cX7_coverUnit 72 = .ok (.iadd, 1) := by decide +kernel
theorem dX7_coverUnit_73 : decode cX7_coverUnit 73 = .ok (.bipush 8, 2) := by decide +kernel
theorem dX7_coverUnit_75 : decode cX7_coverUnit 75 = .ok (.idiv, 1) := by decide +kernel
theorem dX7_coverUnit_76 : decode cX7_coverUnit 76 = .ok (.putfield 76, 3) := by decide +kernel
theorem dX7_coverUnit_79 : decode cX7_coverUnit 79 = .ok (.aload_n 0, 1) := by decide +kernel
theorem dX7_coverUnit_80 : decode cX7_coverUnit 80 = .ok (.iconst 1, 1) := by decide +kernel
theorem dX7_coverUnit_81 : decode cX7_coverUnit 81 = .ok (.putfield 96, 3) := by decide +kernel
theorem dX7_coverUnit_84 : decode cX7_coverUnit 84 = .ok (.iload_n 2, 1) := by decide +kernel
theorem dX7_coverUnit_85 : decode cX7_coverUnit 85 = .ok (.bipush 8, 2) := by decide +kernel
theorem dX7_coverUnit_87 : decode cX7_coverUnit 87 = .ok (.if_icmp .ne 14, 3) := by decide +kernel
theorem dX7_coverUnit_90 : decode cX7_coverUnit 90 = .ok (.aload_n 0, 1) := by decide +kernel
theorem dX7_coverUnit_91 : decode cX7_coverUnit 91 = .ok (.getfield 87, 3) := by decide +kernel
theorem dX7_coverUnit_94 : decode cX7_coverUnit 94 = .ok (.ifCond .ne 7, 3) := by decide +kernel
theorem dX7_coverUnit_97 : decode cX7_coverUnit 97 = .ok (.iconst 1, 1) := by decide +kernel
theorem dX7_coverUnit_98 : decode cX7_coverUnit 98 = .ok (.goto 4, 3) := by decide +kernel
theorem dX7_coverUnit_101 : decode cX7_coverUnit 101 = .ok (.iconst 0, 1) := by decide +kernel
theorem dX7_coverUnit_102 : decode cX7_coverUnit 102 = .ok (.ireturn, 1) := by decide +kernel
theorem dX7_coverUnit_103 : decode cX7_coverUnit 103 = .ok (.aload_n 0, 1) := by decide +kernel
theorem dX7_coverUnit_104 : decode cX7_coverUnit 104 = .ok (.iconst 1, 1) := by decide +kernel
theorem dX7_coverUnit_105 : decode cX7_coverUnit 105 = .ok (.putfield 93, 3) := by decide +kernel
theorem dX7_coverUnit_108 : decode cX7_coverUnit 108 = .ok (.aload_n 0, 1) := by decide +kernel
theorem dX7_coverUnit_109 : decode cX7_coverUnit 109 = .ok (.getfield 80, 3) := by decide +kernel
theorem dX7_coverUnit_112 : decode cX7_coverUnit 112 = .ok (.ifCond .ne 16, 3) := by decide +kernel
theorem dX7_coverUnit_115 : decode cX7_coverUnit 115 = .ok (.aload_n 0, 1) := by decide +kernel
theorem dX7_coverUnit_116 : decode cX7_coverUnit 116 = .ok (.aload_n 1, 1) := by decide +kernel
theorem dX7_coverUnit_117 : decode cX7_coverUnit 117 = .ok (.iload_n 2, 1) := by decide +kernel
theorem dX7_coverUnit_118 : decode cX7_coverUnit 118 = .ok (.invokevirtual 119, 3) := by decide +kernel
theorem dX7_coverUnit_121 : decode cX7_coverUnit 121 = .ok (.ifCond .eq 7, 3) := by decide +kernel
theorem dX7_coverUnit_124 : decode cX7_coverUnit 124 = .ok (.iconst 1, 1) := by decide +kernel
theorem dX7_coverUnit_125 : decode cX7_coverUnit 125 = .ok (.goto 4, 3) := by decide +kernel
theorem dX7_coverUnit_128 : decode cX7_coverUnit 128 = .ok (.iconst 0, 1) := by decide +kernel
theorem dX7_coverUnit_129 : decode cX7_coverUnit 129 = .ok (.ireturn, 1) := by decide +kernel
theorem dX7_coverUnit_130 : decode cX7_coverUnit 130 = .ok (.iconst 0, 1) := by decide +kernel
theorem dX7_coverUnit_131 : decode cX7_coverUnit 131 = .ok (.ireturn, 1) := by decide +kernel
theorem dX7_coverPlain_0 : decode cX7_coverPlain 0 = .ok (.aload_n 0, 1) := by decide +kernel
theorem dX7_coverPlain_1 : decode cX7_coverPlain 1 = .ok (.getfield 24, 3) := by decide +kernel
theorem dX7_coverPlain_4 : decode cX7_coverPlain 4 = .ok (.aload_n 1, 1) := by decide +kernel
theorem dX7_coverPlain_5 : decode cX7_coverPlain 5 = .ok (.getfield 125, 3) := by decide +kernel
theorem dX7_coverPlain_8 : decode cX7_coverPlain 8 = .ok (.iload_n 2, 1) := by decide +kernel
theorem dX7_coverPlain_9 : decode cX7_coverPlain 9 = .ok (.aload_n 0, 1) := by decide +kernel
theorem dX7_coverPlain_10 : decode cX7_coverPlain 10 = .ok (.getfield 9, 3) := by decide +kernel
theorem dX7_coverPlain_13 : decode cX7_coverPlain 13 = .ok (.getfield 106, 3) := by decide +kernel
theorem dX7_coverPlain_16 : decode cX7_coverPlain 16 = .ok (.iload_n 2, 1) := by decide +kernel
theorem dX7_coverPlain_17 : decode cX7_coverPlain 17 = .ok (.invokevirtual 137, 3) := by decide +kernel
theorem dX7_coverPlain_20 : decode cX7_coverPlain 20 = .ok (.invokevirtual 128, 3) := by decide +kernel
theorem dX7_coverPlain_23 : decode cX7_coverPlain 23 = .ok (.aload_n 0, 1) := by decide +kernel
theorem dX7_coverPlain_24 : decode cX7_coverPlain 24 = .ok (.getfield 24, 3) := by decide +kernel
theorem dX7_coverPlain_27 : decode cX7_coverPlain 27 = .ok (.invokevirtual 134, 3) := by decide +kernel
theorem dX7_coverPlain_30 : decode cX7_coverPlain 30 = .ok (.ifCond .eq 14, 3) := by decide +kernel
theorem dX7_coverPlain_33 : decode cX7_coverPlain 33 = .ok (.aload_n 0, 1) := by decide +kernel
theorem dX7_coverPlain_34 : decode cX7_coverPlain 34 = .ok (.invokevirtual 140, 3) := by decide +kernel
theorem dX7_coverPlain_37 : decode cX7_coverPlain 37 = .ok (.ifCond .eq 7, 3) := by decide +kernel
theorem dX7_coverPlain_40 : decode cX7_coverPlain 40 = .ok (.iconst 1, 1) := by decide +kernel
theorem dX7_coverPlain_41 : decode cX7_coverPlain 41 = .ok (.goto 4, 3) := by decide +kernel
theorem dX7_coverPlain_44 : decode cX7_coverPlain 44 = .ok (.iconst 0, 1) := by decide +kernel
theorem dX7_coverPlain_45 : decode cX7_coverPlain 45 = .ok (.ireturn, 1) := by decide +kernel
theorem dX7_coverIndexed_0 : decode cX7_coverIndexed 0 = .ok (.aload_n 0, 1) := by decide +kernel
theorem dX7_coverIndexed_1 : decode cX7_coverIndexed 1 = .ok (.iconst 1, 1) := by decide +kernel
theorem dX7_coverIndexed_2 : decode cX7_coverIndexed 2 = .ok (.putfield 90, 3) := by decide +kernel
theorem dX7_coverIndexed_5 : decode cX7_coverIndexed 5 = .ok (.aload_n 0, 1) := by decide +kernel
theorem dX7_coverIndexed_6 : decode cX7_coverIndexed 6 = .ok (.getfield 28, 3) := by decide +kernel
theorem dX7_coverIndexed_9 : decode cX7_coverIndexed 9 = .ok (.aload_n 1, 1) := by decide +kernel
theorem dX7_coverIndexed_10 : decode cX7_coverIndexed 10 = .ok (.getfield 99, 3) := by decide +kernel
theorem dX7_coverIndexed_13 : decode cX7_coverIndexed 13 = .ok (.iload_n 2, 1) := by decide +kernel
theorem dX7_coverIndexed_14 : decode cX7_coverIndexed 14 = .ok (.aload_n 0, 1) := by decide +kernel
theorem dX7_coverIndexed_15 : decode cX7_coverIndexed 15 = .ok (.getfield 9, 3) := by decide +kernel
theorem dX7_coverIndexed_18 : decode cX7_coverIndexed 18 = .ok (.getfield 106, 3) := by decide +kernel
theorem dX7_coverIndexed_21 : decode cX7_coverIndexed 21 = .ok (.iload_n 2, 1) := by decide +kernel
theorem dX7_coverIndexed_22 : decode cX7_coverIndexed 22 = .ok (.invokevirtual 137, 3) := by decide +kernel
theorem dX7_coverIndexed_25 : decode cX7_coverIndexed 25 = .ok (.invokevirtual 128, 3) := by decide +kernel
theorem dX7_coverIndexed_28 : decode cX7_coverIndexed 28 = .ok (.aload_n 0, 1) := by decide +kernel
theorem dX7_coverIndexed_29 : decode cX7_coverIndexed 29 = .ok (.aload_n 1, 1) := by decide +kernel
theorem dX7_coverIndexed_30 : decode cX7_coverIndexed 30 = .ok (.aload_n 0, 1) := by decide +kernel
theorem dX7_coverIndexed_31 : decode cX7_coverIndexed 31 = .ok (.getfield 9, 3) := by decide +kernel
theorem dX7_coverIndexed_34 : decode cX7_coverIndexed 34 = .ok (.getfield 106, 3) := by decide +kernel
theorem dX7_coverIndexed_37 : decode cX7_coverIndexed 37 = .ok (.getfield 143, 3) := by decide +kernel
theorem dX7_coverIndexed_40 : decode cX7_coverIndexed 40 = .ok (.invokevirtual 119, 3) := by decide +kernel
theorem dX7_coverIndexed_43 : decode cX7_coverIndexed 43 = .ok (.istore_n 3, 1) := by decide +kernel
theorem dX7_coverIndexed_44 : decode cX7_coverIndexed 44 = .ok (.iload_n 3, 1) := by decide +kernel
theorem dX7_coverIndexed_45 : decode cX7_coverIndexed 45 = .ok (.ifCond .eq 38, 3) := by decide +kernel
theorem dX7_coverIndexed_48 : decode cX7_coverIndexed 48 = .ok (.aload_n 0, 1) := by decide +kernel
theorem dX7_coverIndexed_49 : decode cX7_coverIndexed 49 = .ok (.getfield 28, 3) := by decide +kernel
theorem dX7_coverIndexed_52 : decode cX7_coverIndexed 52 = .ok (.invokevirtual 134, 3) := by decide +kernel
theorem dX7_coverIndexed_55 : decode cX7_coverIndexed 55 = .ok (.ifCond .eq 28, 3) := by decide +kernel
theorem dX7_coverIndexed_58 : decode cX7_coverIndexed 58 = .ok (.aload_n 0, 1) := by decide +kernel
theorem dX7_coverIndexed_59 : decode cX7_coverIndexed 59 = .ok (.getfield 80, 3) := by decide +kernel
theorem dX7_coverIndexed_62 : decode cX7_coverIndexed 62 = .ok (.ifCond .ne 17, 3) := by decide +kernel
theorem dX7_coverIndexed_65 : decode cX7_coverIndexed 65 = .ok (.aload_n 0, 1) := by decide +kernel
theorem dX7_coverIndexed_66 : decode cX7_coverIndexed 66 = .ok (.getfield 24, 3) := by decide +kernel
theorem dX7_coverIndexed_69 : decode cX7_coverIndexed 69 = .ok (.aload_n 0, 1) := by decide +kernel
theorem dX7_coverIndexed_70 : decode cX7_coverIndexed 70 = .ok (.getfield 28, 3) := by decide +kernel
theorem dX7_coverIndexed_73 : decode cX7_coverIndexed 73 = .ok (.invokevirtual 146, 3) := by decide +kernel
theorem dX7_coverIndexed_76 : decode cX7_coverIndexed 76 = .ok (.ifCond .eq 7, 3) := by decide +kernel
theorem dX7_coverIndexed_79 : decode cX7_coverIndexed 79 = .ok (.iconst 1, 1) := by decide +kernel
theorem dX7_coverIndexed_80 : decode cX7_coverIndexed 80 = .ok (.goto 4, 3) := by decide +kernel
theorem dX7_coverIndexed_83 : decode cX7_coverIndexed 83 = .ok (.iconst 0, 1) := by decide +kernel
theorem dX7_coverIndexed_84 : decode cX7_coverIndexed 84 = .ok (.ireturn, 1) := by decide +kernel
theorem dX7_mayBeTarget_0 : decode cX7_mayBeTarget 0 = .ok (.aload_n 0, 1) := by decide +kernel
theorem dX7_mayBeTarget_1 : decode cX7_mayBeTarget 1 = .ok (.getfield 80, 3) := by decide +kernel
theorem dX7_mayBeTarget_4 : decode cX7_mayBeTarget 4 = .ok (.ifCond .ne 24, 3) := by decide +kernel
theorem dX7_mayBeTarget_7 : decode cX7_mayBeTarget 7 = .ok (.aload_n 0, 1) := by decide +kernel
theorem dX7_mayBeTarget_8 : decode cX7_mayBeTarget 8 = .ok (.getfield 87, 3) := by decide +kernel
theorem dX7_mayBeTarget_11 : decode cX7_mayBeTarget 11 = .ok (.ifCond .eq 17, 3) := by decide +kernel
theorem dX7_mayBeTarget_14 : decode cX7_mayBeTarget 14 = .ok (.aload_n 0, 1) := by decide +kernel
theorem dX7_mayBeTarget_15 : decode cX7_mayBeTarget 15 = .ok (.getfield 24, 3) := by decide +kernel
theorem dX7_mayBeTarget_18 : decode cX7_mayBeTarget 18 = .ok (.aload_n 0, 1) := by decide +kernel
theorem dX7_mayBeTarget_19 : decode cX7_mayBeTarget 19 = .ok (.getfield 31, 3) := by decide +kernel
theorem dX7_mayBeTarget_22 : decode cX7_mayBeTarget 22 = .ok (.invokevirtual 150, 3) := by decide +kernel
theorem dX7_mayBeTarget_25 : decode cX7_mayBeTarget 25 = .ok (.ifCond .ne 7, 3) := by decide +kernel
theorem dX7_mayBeTarget_28 : decode cX7_mayBeTarget 28 = .ok (.iconst 1, 1) := by decide +kernel
theorem dX7_mayBeTarget_29 : decode cX7_mayBeTarget 29 = .ok (.goto 4, 3) := by decide +kernel
theorem dX7_mayBeTarget_32 : decode cX7_mayBeTarget 32 = .ok (.iconst 0, 1) := by decide +kernel
theorem dX7_mayBeTarget_33 : decode cX7_mayBeTarget 33 = .ok (.ireturn, 1) := by decide +kernel
theorem dX7_transfer_0 : decode cX7_transfer 0 = .ok (.aload_n 0, 1) := by decide +kernel
theorem dX7_transfer_1 : decode cX7_transfer 1 = .ok (.getfield 9, 3) := by decide +kernel
theorem dX7_transfer_4 : decode cX7_transfer 4 = .ok (.getfield 153, 3) := by decide +kernel
theorem dX7_transfer_7 : decode cX7_transfer 7 = .ok (.aload_n 0, 1) := by decide +kernel
theorem dX7_transfer_8 : decode cX7_transfer 8 = .ok (.getfield 76, 3) := by decide +kernel
theorem dX7_transfer_11 : decode cX7_transfer 11 = .ok (.if_icmp .lt 5, 3) := by decide +kernel
theorem dX7_transfer_14 : decode cX7_transfer 14 = .ok (.iconst 0, 1) := by decide +kernel
theorem dX7_transfer_15 : decode cX7_transfer 15 = .ok (.ireturn, 1) := by decide +kernel
theorem dX7_transfer_16 : decode cX7_transfer 16 = .ok (.aload_n 0, 1) := by decide +kernel
theorem dX7_transfer_17 : decode cX7_transfer 17 = .ok (.getfield 9, 3) := by decide +kernel
theorem dX7_transfer_20 : decode cX7_transfer 20 = .ok (.getfield 153, 3) := by decide +kernel
theorem dX7_transfer_23 : decode cX7_transfer 23 = .ok (.istore_n 1, 1) := by decide +kernel
theorem dX7_transfer_24 : decode cX7_transfer 24 = .ok (.iload_n 1, 1) := by decide +kernel
theorem dX7_transfer_25 : decode cX7_transfer 25 = .ok (.aload_n 0, 1) := by decide +kernel
theorem dX7_transfer_26 : decode cX7_transfer 26 = .ok (.getfield 76, 3) := by decide +kernel
theorem dX7_transfer_29 : decode cX7_transfer 29 = .ok (.if_icmp .ge 121, 3) := by decide +kernel
theorem dX7_transfer_32 : decode cX7_transfer 32 = .ok (.aload_n 0, 1) := by decide +kernel
theorem dX7_transfer_33 : decode cX7_transfer 33 = .ok (.getfield 87, 3) := by decide +kernel
theorem dX7_transfer_36 : decode cX7_transfer 36 = .ok (.ifCond .eq 24, 3) := by decide +kernel
theorem dX7_transfer_39 : decode cX7_transfer 39 = .ok (.aload_n 0, 1) := by decide +kernel
theorem dX7_transfer_40 : decode cX7_transfer 40 = .ok (.getfield 31, 3) := by decide +kernel
theorem dX7_transfer_43 : decode cX7_transfer 43 = .ok (.iload_n 1, 1) := by decide +kernel
theorem dX7_transfer_44 : decode cX7_transfer 44 = .ok (.invokevirtual 156, 3) := by decide +kernel
theorem dX7_transfer_47 : decode cX7_transfer 47 = .ok (.lconst 0, 1) := by decide +kernel
theorem dX7_transfer_48 : decode cX7_transfer 48 = .ok (.lcmp, 1) := by decide +kernel
theorem dX7_transfer_49 : decode cX7_transfer 49 = .ok (.ifCond .ne 11, 3) := by decide +kernel
theorem dX7_transfer_52 : decode cX7_transfer 52 = .ok (.aload_n 0, 1) := by decide +kernel
theorem dX7_transfer_53 : decode cX7_transfer 53 = .ok (.iload_n 1, 1) := by decide +kernel
theorem dX7_transfer_54 : decode cX7_transfer 54 = .ok (.invokevirtual 160, 3) := by decide +kernel
theorem dX7_transfer_57 : decode cX7_transfer 57 = .ok (.goto 87, 3) := by decide +kernel
theorem dX7_transfer_60 : decode cX7_transfer 60 = .ok (.aload_n 0, 1) := by decide +kernel
theorem dX7_transfer_61 : decode cX7_transfer 61 = .ok (.getfield 15, 3) := by decide +kernel
theorem dX7_transfer_64 : decode cX7_transfer 64 = .ok (.aload_n 0, 1) := by decide +kernel
theorem dX7_transfer_65 : decode cX7_transfer 65 = .ok (.iload_n 1, 1) := by decide +kernel
theorem dX7_transfer_66 : decode cX7_transfer 66 = .ok (.invokevirtual 164, 3) := by decide +kernel
theorem dX7_transfer_69 : decode cX7_transfer 69 = .ok (.aload_n 0, 1) := by decide +kernel
theorem dX7_transfer_70 : decode cX7_transfer 70 = .ok (.getfield 24, 3) := by decide +kernel
theorem dX7_transfer_73 : decode cX7_transfer 73 = .ok (.getfield 167, 3) := by decide +kernel
theorem dX7_transfer_76 : decode cX7_transfer 76 = .ok (.bipush 8, 2) := by decide +kernel
theorem dX7_transfer_78 : decode cX7_transfer 78 = .ok (.idiv, 1) := by decide +kernel
theorem dX7_transfer_79 : decode cX7_transfer 79 = .ok (.invokevirtual 170, 3) := by decide +kernel
theorem dX7_transfer_82 : decode cX7_transfer 82 = .ok (.ifCond .eq 16, 3) := by decide +kernel
theorem dX7_transfer_85 : decode cX7_transfer 85 = .ok (.aload_n 0, 1) := by decide +kernel
theorem dX7_transfer_86 : decode cX7_transfer 86 = .ok (.iload_n 1, 1) := by decide +kernel
theorem dX7_transfer_87 : decode cX7_transfer 87 = .ok (.aload_n 0, 1) := by decide +kernel
theorem dX7_transfer_88 : decode cX7_transfer 88 = .ok (.iload_n 1, 1) := by decide +kernel
theorem dX7_transfer_89 : decode cX7_transfer 89 = .ok (.invokevirtual 164, 3) := by decide +kernel
theorem dX7_transfer_92 : decode cX7_transfer 92 = .ok (.invokevirtual 176, 3) := by decide +kernel
theorem dX7_transfer_95 : decode cX7_transfer 95 = .ok (.goto 49, 3) := by decide +kernel
theorem dX7_transfer_98 : decode cX7_transfer 98 = .ok (.aload_n 0, 1) := by decide +kernel
theorem dX7_transfer_99 : decode cX7_transfer 99 = .ok (.getfield 93, 3) := by decide +kernel
theorem dX7_transfer_102 : decode cX7_transfer 102 = .ok (.ifCond .eq 23, 3) := by decide +kernel
theorem dX7_transfer_105 : decode cX7_transfer 105 = .ok (.iload_n 1, 1) := by decide +kernel
theorem dX7_transfer_106 : decode cX7_transfer 106 = .ok (.ifCond .le 19, 3) := by decide +kernel
theorem dX7_transfer_109 : decode cX7_transfer 109 = .ok (.aload_n 0, 1) := by decide +kernel
theorem dX7_transfer_110 : decode cX7_transfer 110 = .ok (.getfield 9, 3) := by decide +kernel
theorem dX7_transfer_113 : decode cX7_transfer 113 = .ok (.iload_n 1, 1) := by decide +kernel
theorem dX7_transfer_114 : decode cX7_transfer 114 = .ok (.putfield 73, 3) := by decide +kernel
theorem dX7_transfer_117 : decode cX7_transfer 117 = .ok (.aload_n 0, 1) := by decide +kernel
theorem dX7_transfer_118 : decode cX7_transfer 118 = .ok (.iload_n 1, 1) := by decide +kernel
theorem dX7_transfer_119 : decode cX7_transfer 119 = .ok (.putfield 76, 3) := by decide +kernel
theorem dX7_transfer_122 : decode cX7_transfer 122 = .ok (.goto 28, 3) := by decide +kernel
theorem dX7_transfer_125 : decode cX7_transfer 125 = .ok (.aload_n 0, 1) := by decide +kernel
theorem dX7_transfer_126 : decode cX7_transfer 126 = .ok (.getfield 9, 3) := by decide +kernel
theorem dX7_transfer_129 : decode cX7_transfer 129 = .ok (.iload_n 1, 1) := by decide +kernel
theorem dX7_transfer_130 : decode cX7_transfer 130 = .ok (.putfield 153, 3) := by decide +kernel
theorem dX7_transfer_133 : decode cX7_transfer 133 = .ok (.aload_n 0, 1) := by decide +kernel
theorem dX7_transfer_134 : decode cX7_transfer 134 = .ok (.aload_n 0, 1) := by decide +kernel
theorem dX7_transfer_135 : decode cX7_transfer 135 = .ok (.iload_n 1, 1) := by decide +kernel
theorem dX7_transfer_136 : decode cX7_transfer 136 = .ok (.invokevirtual 164, 3) := by decide +kernel
theorem dX7_transfer_139 : decode cX7_transfer 139 = .ok (.putfield 180, 3) := by decide +kernel
theorem dX7_transfer_142 : decode cX7_transfer 142 = .ok (.iconst 2, 1) := by decide +kernel
theorem dX7_transfer_143 : decode cX7_transfer 143 = .ok (.ireturn, 1) := by decide +kernel
theorem dX7_transfer_144 : decode cX7_transfer 144 = .ok (.iinc 1 1, 3) := by decide +kernel
theorem dX7_transfer_147 : decode cX7_transfer 147 = .ok (.goto (-123), 3) := by decide +kernel
theorem dX7_transfer_150 : decode cX7_transfer 150 = .ok (.aload_n 0, 1) := by decide +kernel
theorem dX7_transfer_151 : decode cX7_transfer 151 = .ok (.getfield 80, 3) := by decide +kernel
theorem dX7_transfer_154 : decode cX7_transfer 154 = .ok (.ifCond .ne 18, 3) := by decide +kernel
theorem dX7_transfer_157 : decode cX7_transfer 157 = .ok (.aload_n 0, 1) := by decide +kernel
theorem dX7_transfer_158 : decode cX7_transfer 158 = .ok (.getfield 24, 3) := by decide +kernel
theorem dX7_transfer_161 : decode cX7_transfer 161 = .ok (.aload_n 0, 1) := by decide +kernel
theorem dX7_transfer_162 : decode cX7_transfer 162 = .ok (.getfield 76, 3) := by decide +kernel
theorem dX7_transfer_165 : decode cX7_transfer 165 = .ok (.aload_n 0, 1) := by decide +kernel
theorem dX7_transfer_166 : decode cX7_transfer 166 = .ok (.getfield 96, 3) := by decide +kernel
theorem dX7_transfer_169 : decode cX7_transfer 169 = .ok (.invokevirtual 183, 3) := by decide +kernel
theorem dX7_transfer_172 : decode cX7_transfer 172 = .ok (.iconst 0, 1) := by decide +kernel
theorem dX7_transfer_173 : decode cX7_transfer 173 = .ok (.ireturn, 1) := by decide +kernel
theorem dX7_passOver_0 : decode cX7_passOver 0 = .ok (.aload_n 0, 1) := by decide +kernel
theorem dX7_passOver_1 : decode cX7_passOver 1 = .ok (.getfield 80, 3) := by decide +kernel
theorem dX7_passOver_4 : decode cX7_passOver 4 = .ok (.ifCond .ne 24, 3) := by decide +kernel
theorem dX7_passOver_7 : decode cX7_passOver 7 = .ok (.aload_n 0, 1) := by decide +kernel
theorem dX7_passOver_8 : decode cX7_passOver 8 = .ok (.getfield 9, 3) := by decide +kernel
theorem dX7_passOver_11 : decode cX7_passOver 11 = .ok (.getfield 106, 3) := by decide +kernel
theorem dX7_passOver_14 : decode cX7_passOver 14 = .ok (.getfield 187, 3) := by decide +kernel
theorem dX7_passOver_17 : decode cX7_passOver 17 = .ok (.ifCond .eq 11, 3) := by decide +kernel
theorem dX7_passOver_20 : decode cX7_passOver 20 = .ok (.aload_n 0, 1) := by decide +kernel
theorem dX7_passOver_21 : decode cX7_passOver 21 = .ok (.getfield 24, 3) := by decide +kernel
theorem dX7_passOver_24 : decode cX7_passOver 24 = .ok (.iload_n 1, 1) := by decide +kernel
theorem dX7_passOver_25 : decode cX7_passOver 25 = .ok (.invokevirtual 190, 3) := by decide +kernel
theorem dX7_passOver_28 : decode cX7_passOver 28 = .ok (.return_, 1) := by decide +kernel
theorem dX7_addressOf_0 : decode cX7_addressOf 0 = .ok (.aload_n 0, 1) := by decide +kernel
theorem dX7_addressOf_1 : decode cX7_addressOf 1 = .ok (.getfield 67, 3) := by decide +kernel
theorem dX7_addressOf_4 : decode cX7_addressOf 4 = .ok (.aload_n 0, 1) := by decide +kernel
theorem dX7_addressOf_5 : decode cX7_addressOf 5 = .ok (.getfield 90, 3) := by decide +kernel
theorem dX7_addressOf_8 : decode cX7_addressOf 8 = .ok (.ifCond .eq 15, 3) := by decide +kernel
theorem dX7_addressOf_11 : decode cX7_addressOf 11 = .ok (.aload_n 0, 1) := by decide +kernel
theorem dX7_addressOf_12 : decode cX7_addressOf 12 = .ok (.getfield 28, 3) := by decide +kernel
theorem dX7_addressOf_15 : decode cX7_addressOf 15 = .ok (.iload_n 1, 1) := by decide +kernel
theorem dX7_addressOf_16 : decode cX7_addressOf 16 = .ok (.invokevirtual 156, 3) := by decide +kernel
theorem dX7_addressOf_19 : decode cX7_addressOf 19 = .ok (.l2i, 1) := by decide +kernel
theorem dX7_addressOf_20 : decode cX7_addressOf 20 = .ok (.goto 9, 3) := by decide +kernel
theorem dX7_addressOf_23 : decode cX7_addressOf 23 = .ok (.iload_n 1, 1) := by decide +kernel
theorem dX7_addressOf_24 : decode cX7_addressOf 24 = .ok (.aload_n 0, 1) := by decide +kernel
theorem dX7_addressOf_25 : decode cX7_addressOf 25 = .ok (.getfield 70, 3) := by decide +kernel
theorem dX7_addressOf_28 : decode cX7_addressOf 28 = .ok (.imul, 1) := by decide +kernel
theorem dX7_addressOf_29 : decode cX7_addressOf 29 = .ok (.iadd, 1) := by decide +kernel
theorem dX7_addressOf_30 : decode cX7_addressOf 30 = .ok (.ireturn, 1) := by decide +kernel
theorem dX7_move_0 : decode cX7_move 0 = .ok (.aload_n 0, 1) := by decide +kernel
theorem dX7_move_1 : decode cX7_move 1 = .ok (.getfield 24, 3) := by decide +kernel
theorem dX7_move_4 : decode cX7_move 4 = .ok (.getfield 167, 3) := by decide +kernel
theorem dX7_move_7 : decode cX7_move 7 = .ok (.bipush 8, 2) := by decide +kernel
theorem dX7_move_9 : decode cX7_move 9 = .ok (.idiv, 1) := by decide +kernel
theorem dX7_move_10 : decode cX7_move 10 = .ok (.istore_n 3, 1) := by decide +kernel
theorem dX7_move_11 : decode cX7_move 11 = .ok (.aload_n 0, 1) := by decide +kernel
theorem dX7_move_12 : decode cX7_move 12 = .ok (.getfield 80, 3) := by decide +kernel
theorem dX7_move_15 : decode cX7_move 15 = .ok (.ifCond .eq 23, 3) := by decide +kernel
theorem dX7_move_18 : decode cX7_move 18 = .ok (.aload_n 0, 1) := by decide +kernel
theorem dX7_move_19 : decode cX7_move 19 = .ok (.getfield 15, 3) := by decide +kernel
theorem dX7_move_22 : decode cX7_move 22 = .ok (.iload_n 2, 1) := by decide +kernel
theorem dX7_move_23 : decode cX7_move 23 = .ok (.iload_n 3, 1) := by decide +kernel
theorem dX7_move_24 : decode cX7_move 24 = .ok (.aload_n 0, 1) := by decide +kernel
theorem dX7_move_25 : decode cX7_move 25 = .ok (.getfield 24, 3) := by decide +kernel
theorem dX7_move_28 : decode cX7_move 28 = .ok (.iload_n 1, 1) := by decide +kernel
theorem dX7_move_29 : decode cX7_move 29 = .ok (.invokevirtual 156, 3) := by decide +kernel
theorem dX7_move_32 : decode cX7_move 32 = .ok (.invokevirtual 193, 3) := by decide +kernel
theorem dX7_move_35 : decode cX7_move 35 = .ok (.goto 20, 3) := by decide +kernel
theorem dX7_move_38 : decode cX7_move 38 = .ok (.aload_n 0, 1) := by decide +kernel
theorem dX7_move_39 : decode cX7_move 39 = .ok (.getfield 24, 3) := by decide +kernel
theorem dX7_move_42 : decode cX7_move 42 = .ok (.iload_n 1, 1) := by decide +kernel
theorem dX7_move_43 : decode cX7_move 43 = .ok (.aload_n 0, 1) := by decide +kernel
theorem dX7_move_44 : decode cX7_move 44 = .ok (.getfield 15, 3) := by decide +kernel
theorem dX7_move_47 : decode cX7_move 47 = .ok (.iload_n 2, 1) := by decide +kernel
theorem dX7_move_48 : decode cX7_move 48 = .ok (.iload_n 3, 1) := by decide +kernel
theorem dX7_move_49 : decode cX7_move 49 = .ok (.invokevirtual 197, 3) := by decide +kernel
theorem dX7_move_52 : decode cX7_move 52 = .ok (.invokevirtual 201, 3) := by decide +kernel
theorem dX7_move_55 : decode cX7_move 55 = .ok (.return_, 1) := by decide +kernel
theorem dX8_init_0 : decode cX8_init 0 = .ok (.aload_n 0, 1) := by decide +kernel
theorem dX8_init_1 : decode cX8_init 1 = .ok (.invokespecial 3, 3) := by decide +kernel
theorem dX8_init_4 : decode cX8_init 4 = .ok (.aload_n 0, 1) := by decide +kernel
theorem dX8_init_5 : decode cX8_init 5 = .ok (.bipush 32, 2) := by decide +kernel
theorem dX8_init_7 : decode cX8_init 7 = .ok (.newarray .int, 2) := by decide +kernel
theorem dX8_init_9 : decode cX8_init 9 = .ok (.putfield 9, 3) := by decide +kernel
theorem dX8_init_12 : decode cX8_init 12 = .ok (.aload_n 0, 1) := by decide +kernel
theorem dX8_init_13 : decode cX8_init 13 = .ok (.sipush 128, 3) := by decide +kernel
theorem dX8_init_16 : decode cX8_init 16 = .ok (.newarray .int, 2) := by decide +kernel
theorem dX8_init_18 : decode cX8_init 18 = .ok (.putfield 15, 3) := by decide +kernel
theorem dX8_init_21 : decode cX8_init 21 = .ok (.aload_n 0, 1) := by decide +kernel
theorem dX8_init_22 : decode cX8_init 22 = .ok (.new 18, 3) := by decide +kernel
theorem dX8_init_25 : decode cX8_init 25 = .ok (.dup, 1) := by decide +kernel
theorem dX8_init_26 : decode cX8_init 26 = .ok (.invokespecial 20, 3) := by decide +kernel
theorem dX8_init_29 : decode cX8_init 29 = .ok (.putfield 21, 3) := by decide +kernel
theorem dX8_init_32 : decode cX8_init 32 = .ok (.return_, 1) := by decide +kernel
theorem dX8_scalar_0 : decode cX8_scalar 0 = .ok (.iload_n 1, 1) := by decide +kernel
theorem dX8_scalar_1 : decode cX8_scalar 1 = .ok (.ifCond .le 18, 3) := by decide +kernel
theorem dX8_scalar_4 : decode cX8_scalar 4 = .ok (.iload_n 1, 1) := by decide +kernel
theorem dX8_scalar_5 : decode cX8_scalar 5 = .ok (.bipush 32, 2) := by decide +kernel
theorem dX8_scalar_7 : decode cX8_scalar 7 = .ok (.if_icmp .ge 12, 3) := by decide +kernel
theorem dX8_scalar_10 : decode cX8_scalar 10 = .ok (.aload_n 0, 1) := by decide +kernel
theorem dX8_scalar_11 : decode cX8_scalar 11 = .ok (.getfield 9, 3) := by decide +kernel
theorem dX8_scalar_14 : decode cX8_scalar 14 = .ok (.iload_n 1, 1) := by decide +kernel
theorem dX8_scalar_15 : decode cX8_scalar 15 = .ok (.iaload, 1) := by decide +kernel
theorem dX8_scalar_16 : decode cX8_scalar 16 = .ok (.goto 4, 3) := by decide +kernel
theorem dX8_scalar_19 : decode cX8_scalar 19 = .ok (.iconst 0, 1) := by decide +kernel
theorem dX8_scalar_20 : decode cX8_scalar 20 = .ok (.ireturn, 1) := by decide +kernel
theorem dX8_putScalar_0 : decode cX8_putScalar 0 = .ok (.iload_n 1, 1) := by decide +kernel
theorem dX8_putScalar_1 : decode cX8_putScalar 1 = .ok (.ifCond .le 16, 3) := by decide +kernel
theorem dX8_putScalar_4 : decode cX8_putScalar 4 = .ok (.iload_n 1, 1) := by decide +kernel
theorem dX8_putScalar_5 : decode cX8_putScalar 5 = .ok (.bipush 32, 2) := by decide +kernel
theorem dX8_putScalar_7 : decode cX8_putScalar 7 = .ok (.if_icmp .ge 10, 3) := by decide +kernel
theorem dX8_putScalar_10 : decode cX8_putScalar 10 = .ok (.aload_n 0, 1) := by decide +kernel
theorem dX8_putScalar_11 : decode cX8_putScalar 11 = .ok (.getfield 9, 3) := by decide +kernel
theorem dX8_putScalar_14 : decode cX8_putScalar 14 = .ok (.iload_n 1, 1) := by decide +kernel
theorem dX8_putScalar_15 : decode cX8_putScalar 15 = .ok (.iload_n 2, 1) := by decide +kernel
theorem dX8_putScalar_16 : decode cX8_putScalar 16 = .ok (.iastore, 1) := by decide +kernel
theorem dX8_putScalar_17 : decode cX8_putScalar 17 = .ok (.return_, 1) := by decide +kernel
theorem dX8_isChosen_0 : decode cX8_isChosen 0 = .ok (.aload_n 0, 1) := by decide +kernel
theorem dX8_isChosen_1 : decode cX8_isChosen 1 = .ok (.getfield 25, 3) := by decide +kernel
theorem dX8_isChosen_4 : decode cX8_isChosen 4 = .ok (.iload_n 1, 1) := by decide +kernel
theorem dX8_isChosen_5 : decode cX8_isChosen 5 = .ok (.bipush 63, 2) := by decide +kernel
theorem dX8_isChosen_7 : decode cX8_isChosen 7 = .ok (.iand, 1) := by decide +kernel
theorem dX8_isChosen_8 : decode cX8_isChosen 8 = .ok (.lushr, 1) := by decide +kernel
theorem dX8_isChosen_9 : decode cX8_isChosen 9 = .ok (.lconst 1, 1) := by decide +kernel
theorem dX8_isChosen_10 : decode cX8_isChosen 10 = .ok (.land, 1) := by decide +kernel
theorem dX8_isChosen_11 : decode cX8_isChosen 11 = .ok (.lconst 1, 1) := by decide +kernel
theorem dX8_isChosen_12 : decode cX8_isChosen 12 = .ok (.lcmp, 1) := by decide +kernel
theorem dX8_isChosen_13 : decode cX8_isChosen 13 = .ok (.ifCond .ne 7, 3) := by decide +kernel
theorem dX8_isChosen_16 : decode cX8_isChosen 16 = .ok (.iconst 1, 1) := by decide +kernel
theorem dX8_isChosen_17 : decode cX8_isChosen 17 = .ok (.goto 4, 3) := by decide +kernel
theorem dX8_isChosen_20 : decode cX8_isChosen 20 = .ok (.iconst 0, 1) := by decide +kernel
theorem dX8_isChosen_21 : decode cX8_isChosen 21 = .ok (.ireturn, 1) := by decide +kernel
theorem dX9_init_0 : decode cX9_init 0 = .ok (.aload_n 0, 1) := by decide +kernel
theorem dX9_init_1 : decode cX9_init 1 = .ok (.invokespecial 3, 3) := by decide +kernel
theorem dX9_init_4 : decode cX9_init 4 = .ok (.aload_n 0, 1) := by decide +kernel
theorem dX9_init_5 : decode cX9_init 5 = .ok (.ldc 9, 2) := by decide +kernel
theorem dX9_init_7 : decode cX9_init 7 = .ok (.putfield 10, 3) := by decide +kernel
theorem dX9_init_10 : decode cX9_init 10 = .ok (.return_, 1) := by decide +kernel
theorem dX9_become_0 : decode cX9_become 0 = .ok (.bipush 8, 2) := by decide +kernel
theorem dX9_become_2 : decode cX9_become 2 = .ok (.iload_n 1, 1) := by decide +kernel
theorem dX9_become_3 : decode cX9_become 3 = .ok (.iconst 3, 1) := by decide +kernel
theorem dX9_become_4 : decode cX9_become 4 = .ok (.iushr, 1) := by decide +kernel
theorem dX9_become_5 : decode cX9_become 5 = .ok (.bipush 7, 2) := by decide +kernel
theorem dX9_become_7 : decode cX9_become 7 = .ok (.iand, 1) := by decide +kernel
theorem dX9_become_8 : decode cX9_become 8 = .ok (.ishl, 1) := by decide +kernel
theorem dX9_become_9 : decode cX9_become 9 = .ok (.istore_n 2, 1) := by decide +kernel
theorem dX9_become_10 : decode cX9_become 10 = .ok (.iload_n 1, 1) := by decide +kernel
theorem dX9_become_11 : decode cX9_become 11 = .ok (.bipush 7, 2) := by decide +kernel
theorem dX9_become_13 : decode cX9_become 13 = .ok (.iand, 1) := by decide +kernel
theorem dX9_become_14 : decode cX9_become 14 = .ok (.invokestatic 16, 3) := by decide +kernel
theorem dX9_become_17 : decode cX9_become 17 = .ok (.istore_n 3, 1) := by decide +kernel
theorem dX9_become_18 : decode cX9_become 18 = .ok (.iload_n 1, 1) := by decide +kernel
theorem dX9_become_19 : decode cX9_become 19 = .ok (.bipush 8, 2) := by decide +kernel
theorem dX9_become_21 : decode cX9_become 21 = .ok (.iushr, 1) := by decide +kernel
theorem dX9_become_22 : decode cX9_become 22 = .ok (.ifCond .ne 20, 3) := by decide +kernel
theorem dX9_become_25 : decode cX9_become 25 = .ok (.iload_n 2, 1) := by decide +kernel
theorem dX9_become_26 : decode cX9_become 26 = .ok (.bipush 32, 2) := by decide +kernel
theorem dX9_become_28 : decode cX9_become 28 = .ok (.if_icmp .gt 14, 3) := by decide +kernel
theorem dX9_become_31 : decode cX9_become 31 = .ok (.iload_n 3, 1) := by decide +kernel
theorem dX9_become_32 : decode cX9_become 32 = .ok (.ifCond .eq 10, 3) := by decide +kernel
theorem dX9_become_35 : decode cX9_become 35 = .ok (.iload_n 2, 1) := by decide +kernel
theorem dX9_become_36 : decode cX9_become 36 = .ok (.iconst 4, 1) := by decide +kernel
theorem dX9_become_37 : decode cX9_become 37 = .ok (.iload_n 3, 1) := by decide +kernel
theorem dX9_become_38 : decode cX9_become 38 = .ok (.imul, 1) := by decide +kernel
theorem dX9_become_39 : decode cX9_become 39 = .ok (.if_icmp .le 8, 3) := by decide +kernel
theorem dX9_become_42 : decode cX9_become 42 = .ok (.aload_n 0, 1) := by decide +kernel
theorem dX9_become_43 : decode cX9_become 43 = .ok (.invokevirtual 20, 3) := by decide +kernel
theorem dX9_become_46 : decode cX9_become 46 = .ok (.return_, 1) := by decide +kernel
theorem dX9_become_47 : decode cX9_become 47 = .ok (.aload_n 0, 1) := by decide +kernel
theorem dX9_become_48 : decode cX9_become 48 = .ok (.iload_n 1, 1) := by decide +kernel
theorem dX9_become_49 : decode cX9_become 49 = .ok (.putfield 10, 3) := by decide +kernel
theorem dX9_become_52 : decode cX9_become 52 = .ok (.aload_n 0, 1) := by decide +kernel
theorem dX9_become_53 : decode cX9_become 53 = .ok (.iload_n 2, 1) := by decide +kernel
theorem dX9_become_54 : decode cX9_become 54 = .ok (.putfield 23, 3) := by decide +kernel
theorem dX9_become_57 : decode cX9_become 57 = .ok (.aload_n 0, 1) := by decide +kernel
theorem dX9_become_58 : decode cX9_become 58 = .ok (.iload_n 3, 1) := by decide +kernel
theorem dX9_become_59 : decode cX9_become 59 = .ok (.putfield 26, 3) := by decide +kernel
theorem dX9_become_62 : decode cX9_become 62 = .ok (.aload_n 0, 1) := by decide +kernel
theorem dX9_become_63 : decode cX9_become 63 = .ok (.iload_n 3, 1) := by decide +kernel
theorem dX9_become_64 : decode cX9_become 64 = .ok (.bipush 16, 2) := by decide +kernel
theorem dX9_become_66 : decode cX9_become 66 = .ok (.imul, 1) := by decide +kernel
theorem dX9_become_67 : decode cX9_become 67 = .ok (.iload_n 2, 1) := by decide +kernel
theorem dX9_become_68 : decode cX9_become 68 = .ok (.idiv, 1) := by decide +kernel
theorem dX9_become_69 : decode cX9_become 69 = .ok (.putfield 29, 3) := by decide +kernel
theorem dX9_become_72 : decode cX9_become 72 = .ok (.aload_n 0, 1) := by decide +kernel
theorem dX9_become_73 : decode cX9_become 73 = .ok (.iload_n 1, 1) := by decide +kernel
theorem dX9_become_74 : decode cX9_become 74 = .ok (.bipush 64, 2) := by decide +kernel
theorem dX9_become_76 : decode cX9_become 76 = .ok (.iand, 1) := by decide +kernel
theorem dX9_become_77 : decode cX9_become 77 = .ok (.ifCond .eq 7, 3) := by decide +kernel
theorem dX9_become_80 : decode cX9_become 80 = .ok (.iconst 1, 1) := by decide +kernel
theorem dX9_become_81 : decode cX9_become 81 = .ok (.goto 4, 3) := by decide +kernel
theorem dX9_become_84 : decode cX9_become 84 = .ok (.iconst 0, 1) := by decide +kernel
theorem dX9_become_85 : decode cX9_become 85 = .ok (.putfield 32, 3) := by decide +kernel
theorem dX9_become_88 : decode cX9_become 88 = .ok (.aload_n 0, 1) := by decide +kernel
theorem dX9_become_89 : decode cX9_become 89 = .ok (.iload_n 1, 1) := by decide +kernel
theorem dX9_become_90 : decode cX9_become 90 = .ok (.sipush 128, 3) := by decide +kernel
theorem dX9_become_93 : decode cX9_become 93 = .ok (.iand, 1) := by decide +kernel
theorem dX9_become_94 : decode cX9_become 94 = .ok (.ifCond .eq 7, 3) := by decide +kernel
theorem dX9_become_97 : decode cX9_become 97 = .ok (.iconst 1, 1) := by decide +kernel
theorem dX9_become_98 : decode cX9_become 98 = .ok (.goto 4, 3) := by decide +kernel
theorem dX9_become_101 : decode cX9_become 101 = .ok (.iconst 0, 1) := by decide +kernel
theorem dX9_become_102 : decode cX9_become 102 = .ok (.putfield 36, 3) := by decide +kernel
theorem dX9_become_105 : decode cX9_become 105 = .ok (.return_, 1) := by decide +kernel
theorem dX9_becomeIll_0 : decode cX9_becomeIll 0 = .ok (.aload_n 0, 1) := by decide +kernel
theorem dX9_becomeIll_1 : decode cX9_becomeIll 1 = .ok (.ldc 9, 2) := by decide +kernel
theorem dX9_becomeIll_3 : decode cX9_becomeIll 3 = .ok (.putfield 10, 3) := by decide +kernel
theorem dX9_becomeIll_6 : decode cX9_becomeIll 6 = .ok (.aload_n 0, 1) := by decide +kernel
theorem dX9_becomeIll_7 : decode cX9_becomeIll 7 = .ok (.iconst 0, 1) := by decide +kernel
theorem dX9_becomeIll_8 : decode cX9_becomeIll 8 = .ok (.putfield 23, 3) := by decide +kernel
theorem dX9_becomeIll_11 : decode cX9_becomeIll 11 = .ok (.aload_n 0, 1) := by decide +kernel
theorem dX9_becomeIll_12 : decode cX9_becomeIll 12 = .ok (.iconst 0, 1) := by decide +kernel
theorem dX9_becomeIll_13 : decode cX9_becomeIll 13 = .ok (.putfield 26, 3) := by decide +kernel
theorem dX9_becomeIll_16 : decode cX9_becomeIll 16 = .ok (.aload_n 0, 1) := by decide +kernel
theorem dX9_becomeIll_17 : decode cX9_becomeIll 17 = .ok (.iconst 0, 1) := by decide +kernel
theorem dX9_becomeIll_18 : decode cX9_becomeIll 18 = .ok (.putfield 29, 3) := by decide +kernel
theorem dX9_becomeIll_21 : decode cX9_becomeIll 21 = .ok (.aload_n 0, 1) := by decide +kernel
theorem dX9_becomeIll_22 : decode cX9_becomeIll 22 = .ok (.iconst 0, 1) := by decide +kernel
theorem dX9_becomeIll_23 : decode cX9_becomeIll 23 = .ok (.putfield 32, 3) := by decide +kernel
theorem dX9_becomeIll_26 : decode cX9_becomeIll 26 = .ok (.aload_n 0, 1) := by decide +kernel
theorem dX9_becomeIll_27 : decode cX9_becomeIll 27 = .ok (.iconst 0, 1) := by decide +kernel
theorem dX9_becomeIll_28 : decode cX9_becomeIll 28 = .ok (.putfield 36, 3) := by decide +kernel
theorem dX9_becomeIll_31 : decode cX9_becomeIll 31 = .ok (.return_, 1) := by decide +kernel
theorem dX9_isIll_0 : decode cX9_isIll 0 = .ok (.aload_n 0, 1) := by decide +kernel
theorem dX9_isIll_1 : decode cX9_isIll 1 = .ok (.getfield 10, 3) := by decide +kernel
theorem dX9_isIll_4 : decode cX9_isIll 4 = .ok (.ldc 9, 2) := by decide +kernel
theorem dX9_isIll_6 : decode cX9_isIll 6 = .ok (.if_icmp .ne 7, 3) := by decide +kernel
theorem dX9_isIll_9 : decode cX9_isIll 9 = .ok (.iconst 1, 1) := by decide +kernel
theorem dX9_isIll_10 : decode cX9_isIll 10 = .ok (.goto 4, 3) := by decide +kernel
theorem dX9_isIll_13 : decode cX9_isIll 13 = .ok (.iconst 0, 1) := by decide +kernel
theorem dX9_isIll_14 : decode cX9_isIll 14 = .ok (.ireturn, 1) := by decide +kernel
theorem dX9_eighthsFor_0 : decode cX9_eighthsFor 0 = .ok (.iload_n 1, 1) := by decide +kernel
theorem dX9_eighthsFor_1 : decode cX9_eighthsFor 1 = .ok (.iconst 1, 1) := by decide +kernel
theorem dX9_eighthsFor_2 : decode cX9_eighthsFor 2 = .ok (.if_icmp .ne 6, 3) := by decide +kernel
theorem dX9_eighthsFor_5 : decode cX9_eighthsFor 5 = .ok (.bipush 8, 2) := by decide +kernel
theorem dX9_eighthsFor_7 : decode cX9_eighthsFor 7 = .ok (.ireturn, 1) := by decide +kernel
theorem dX9_eighthsFor_8 : decode cX9_eighthsFor 8 = .ok (.aload_n 0, 1) := by decide +kernel
theorem dX9_eighthsFor_9 : decode cX9_eighthsFor 9 = .ok (.getfield 23, 3) := by decide +kernel
theorem dX9_eighthsFor_12 : decode cX9_eighthsFor 12 = .ok (.ifCond .ne 7, 3) := by decide +kernel
theorem dX9_eighthsFor_15 : decode cX9_eighthsFor 15 = .ok (.iconst 0, 1) := by decide +kernel
theorem dX9_eighthsFor_16 : decode cX9_eighthsFor 16 = .ok (.goto 14, 3) := by decide +kernel
theorem dX9_eighthsFor_19 : decode cX9_eighthsFor 19 = .ok (.aload_n 0, 1) := by decide +kernel
theorem dX9_eighthsFor_20 : decode cX9_eighthsFor 20 = .ok (.getfield 26, 3) := by decide +kernel
theorem dX9_eighthsFor_23 : decode cX9_eighthsFor 23 = .ok (.iload_n 1, 1) := by decide +kernel
theorem dX9_eighthsFor_24 : decode cX9_eighthsFor 24 = .ok (.imul, 1) := by decide +kernel
theorem dX9_eighthsFor_25 : decode cX9_eighthsFor 25 = .ok (.aload_n 0, 1) := by decide +kernel
theorem dX9_eighthsFor_26 : decode cX9_eighthsFor 26 = .ok (.getfield 23, 3) := by decide +kernel
theorem dX9_eighthsFor_29 : decode cX9_eighthsFor 29 = .ok (.idiv, 1) := by decide +kernel
theorem dX9_eighthsFor_30 : decode cX9_eighthsFor 30 = .ok (.ireturn, 1) := by decide +kernel
theorem dX9_eighthsOfCode_0 : decode cX9_eighthsOfCode 0 = .ok (.iload_n 0, 1) := by decide +kernel
theorem dX9_eighthsOfCode_1 : decode cX9_eighthsOfCode 1 = .ok (.iconst 4, 1) := by decide +kernel
theorem dX9_eighthsOfCode_2 : decode cX9_eighthsOfCode 2 = .ok (.if_icmp .ge 8, 3) := by decide +kernel
theorem dX9_eighthsOfCode_5 : decode cX9_eighthsOfCode 5 = .ok (.bipush 8, 2) := by decide +kernel
theorem dX9_eighthsOfCode_7 : decode cX9_eighthsOfCode 7 = .ok (.iload_n 0, 1) := by decide +kernel
theorem dX9_eighthsOfCode_8 : decode cX9_eighthsOfCode 8 = .ok (.ishl, 1) := by decide +kernel
theorem dX9_eighthsOfCode_9 : decode cX9_eighthsOfCode 9 = .ok (.ireturn, 1) := by decide +kernel
theorem dX9_eighthsOfCode_10 : decode cX9_eighthsOfCode 10 = .ok (.iload_n 0, 1) := by decide +kernel
theorem dX9_eighthsOfCode_11 : decode cX9_eighthsOfCode 11 = .ok (.bipush 7, 2) := by decide +kernel
theorem dX9_eighthsOfCode_13 : decode cX9_eighthsOfCode 13 = .ok (.if_icmp .ne 7, 3) := by decide +kernel
theorem dX9_eighthsOfCode_16 : decode cX9_eighthsOfCode 16 = .ok (.iconst 4, 1) := by decide +kernel
theorem dX9_eighthsOfCode_17 : decode cX9_eighthsOfCode 17 = .ok (.goto 14, 3) := by decide +kernel
theorem dX9_eighthsOfCode_20 : decode cX9_eighthsOfCode 20 = .ok (.iload_n 0, 1) := by decide +kernel
theorem dX9_eighthsOfCode_21 : decode cX9_eighthsOfCode 21 = .ok (.bipush 6, 2) := by decide +kernel
theorem dX9_eighthsOfCode_23 : decode cX9_eighthsOfCode 23 = .ok (.if_icmp .ne 7, 3) := by decide +kernel
theorem dX9_eighthsOfCode_26 : decode cX9_eighthsOfCode 26 = .ok (.iconst 2, 1) := by decide +kernel
theorem dX9_eighthsOfCode_27 : decode cX9_eighthsOfCode 27 = .ok (.goto 4, 3) := by decide +kernel
theorem dX9_eighthsOfCode_30 : decode cX9_eighthsOfCode 30 = .ok (.iconst 0, 1) := by decide +kernel
theorem dX9_eighthsOfCode_31 : decode cX9_eighthsOfCode 31 = .ok (.ireturn, 1) := by decide +kernel
theorem dX10_init_0 : decode cX10_init 0 = .ok (.aload_n 0, 1) := by decide +kernel
theorem dX10_init_1 : decode cX10_init 1 = .ok (.invokespecial 3, 3) := by decide +kernel
theorem dX10_init_4 : decode cX10_init 4 = .ok (.aload_n 0, 1) := by decide +kernel
theorem dX10_init_5 : decode cX10_init 5 = .ok (.new 9, 3) := by decide +kernel
theorem dX10_init_8 : decode cX10_init 8 = .ok (.dup, 1) := by decide +kernel
theorem dX10_init_9 : decode cX10_init 9 = .ok (.invokespecial 11, 3) := by decide +kernel
theorem dX10_init_12 : decode cX10_init 12 = .ok (.putfield 12, 3) := by decide +kernel
theorem dX10_init_15 : decode cX10_init 15 = .ok (.aload_n 0, 1) := by decide +kernel
theorem dX10_init_16 : decode cX10_init 16 = .ok (.new 16, 3) := by decide +kernel
theorem dX10_init_19 : decode cX10_init 19 = .ok (.dup, 1) := by decide +kernel
theorem dX10_init_20 : decode cX10_init 20 = .ok (.invokespecial 18, 3) := by decide +kernel
theorem dX10_init_23 : decode cX10_init 23 = .ok (.putfield 19, 3) := by decide +kernel
theorem dX10_init_26 : decode cX10_init 26 = .ok (.aload_n 0, 1) := by decide +kernel
theorem dX10_init_27 : decode cX10_init 27 = .ok (.new 23, 3) := by decide +kernel
theorem dX10_init_30 : decode cX10_init 30 = .ok (.dup, 1) := by decide +kernel
theorem dX10_init_31 : decode cX10_init 31 = .ok (.invokespecial 25, 3) := by decide +kernel
theorem dX10_init_34 : decode cX10_init 34 = .ok (.putfield 26, 3) := by decide +kernel
theorem dX10_init_37 : decode cX10_init 37 = .ok (.aload_n 0, 1) := by decide +kernel
theorem dX10_init_38 : decode cX10_init 38 = .ok (.new 30, 3) := by decide +kernel
theorem dX10_init_41 : decode cX10_init 41 = .ok (.dup, 1) := by decide +kernel
theorem dX10_init_42 : decode cX10_init 42 = .ok (.aload_n 0, 1) := by decide +kernel
theorem dX10_init_43 : decode cX10_init 43 = .ok (.getfield 12, 3) := by decide +kernel
theorem dX10_init_46 : decode cX10_init 46 = .ok (.invokespecial 32, 3) := by decide +kernel
theorem dX10_init_49 : decode cX10_init 49 = .ok (.putfield 35, 3) := by decide +kernel
theorem dX10_init_52 : decode cX10_init 52 = .ok (.aload_n 0, 1) := by decide +kernel
theorem dX10_init_53 : decode cX10_init 53 = .ok (.new 39, 3) := by decide +kernel
theorem dX10_init_56 : decode cX10_init 56 = .ok (.dup, 1) := by decide +kernel
theorem dX10_init_57 : decode cX10_init 57 = .ok (.aload_n 0, 1) := by decide +kernel
theorem dX10_init_58 : decode cX10_init 58 = .ok (.getfield 12, 3) := by decide +kernel
theorem dX10_init_61 : decode cX10_init 61 = .ok (.invokespecial 41, 3) := by decide +kernel
theorem dX10_init_64 : decode cX10_init 64 = .ok (.putfield 42, 3) := by decide +kernel
theorem dX10_init_67 : decode cX10_init 67 = .ok (.aload_n 0, 1) := by decide +kernel
theorem dX10_init_68 : decode cX10_init 68 = .ok (.new 46, 3) := by decide +kernel
theorem dX10_init_71 : decode cX10_init 71 = .ok (.dup, 1) := by decide +kernel
theorem dX10_init_72 : decode cX10_init 72 = .ok (.aload_n 0, 1) := by decide +kernel
theorem dX10_init_73 : decode cX10_init 73 = .ok (.getfield 12, 3) := by decide +kernel
theorem dX10_init_76 : decode cX10_init 76 = .ok (.aload_n 0, 1) := by decide +kernel
theorem dX10_init_77 : decode cX10_init 77 = .ok (.getfield 19, 3) := by decide +kernel
theorem dX10_init_80 : decode cX10_init 80 = .ok (.invokespecial 48, 3) := by decide +kernel
theorem dX10_init_83 : decode cX10_init 83 = .ok (.putfield 51, 3) := by decide +kernel
theorem dX10_init_86 : decode cX10_init 86 = .ok (.return_, 1) := by decide +kernel
theorem dX10_step_0 : decode cX10_step 0 = .ok (.aload_n 0, 1) := by decide +kernel
theorem dX10_step_1 : decode cX10_step 1 = .ok (.getfield 26, 3) := by decide +kernel
theorem dX10_step_4 : decode cX10_step 4 = .ok (.iload_n 1, 1) := by decide +kernel
theorem dX10_step_5 : decode cX10_step 5 = .ok (.invokevirtual 55, 3) := by decide +kernel
theorem dX10_step_8 : decode cX10_step 8 = .ok (.iconst 1, 1) := by decide +kernel
theorem dX10_step_9 : decode cX10_step 9 = .ok (.istore_n 2, 1) := by decide +kernel
theorem dX10_step_10 : decode cX10_step 10 = .ok (.aload_n 0, 1) := by decide +kernel
theorem dX10_step_11 : decode cX10_step 11 = .ok (.getfield 26, 3) := by decide +kernel
theorem dX10_step_14 : decode cX10_step 14 = .ok (.getfield 59, 3) := by decide +kernel
theorem dX10_step_17 : decode cX10_step 17 = .ok (.bipush 7, 2) := by decide +kernel
theorem dX10_step_19 : decode cX10_step 19 = .ok (.if_icmp .eq 15, 3) := by decide +kernel
theorem dX10_step_22 : decode cX10_step 22 = .ok (.aload_n 0, 1) := by decide +kernel
theorem dX10_step_23 : decode cX10_step 23 = .ok (.getfield 26, 3) := by decide +kernel
theorem dX10_step_26 : decode cX10_step 26 = .ok (.getfield 59, 3) := by decide +kernel
theorem dX10_step_29 : decode cX10_step 29 = .ok (.bipush 39, 2) := by decide +kernel
theorem dX10_step_31 : decode cX10_step 31 = .ok (.if_icmp .ne 18, 3) := by decide +kernel
theorem dX10_step_34 : decode cX10_step 34 = .ok (.aload_n 0, 1) := by decide +kernel
theorem dX10_step_35 : decode cX10_step 35 = .ok (.getfield 51, 3) := by decide +kernel
theorem dX10_step_38 : decode cX10_step 38 = .ok (.aload_n 0, 1) := by decide +kernel
theorem dX10_step_39 : decode cX10_step 39 = .ok (.getfield 26, 3) := by decide +kernel
theorem dX10_step_42 : decode cX10_step 42 = .ok (.invokevirtual 63, 3) := by decide +kernel
theorem dX10_step_45 : decode cX10_step 45 = .ok (.istore_n 2, 1) := by decide +kernel
theorem dX10_step_46 : decode cX10_step 46 = .ok (.goto 53, 3) := by decide +kernel
theorem dX10_step_49 : decode cX10_step 49 = .ok (.aload_n 0, 1) := by decide +kernel
theorem dX10_step_50 : decode cX10_step 50 = .ok (.getfield 26, 3) := by decide +kernel
theorem dX10_step_53 : decode cX10_step 53 = .ok (.getfield 59, 3) := by decide +kernel
theorem dX10_step_56 : decode cX10_step 56 = .ok (.bipush 87, 2) := by decide +kernel
theorem dX10_step_58 : decode cX10_step 58 = .ok (.if_icmp .ne 41, 3) := by decide +kernel
theorem dX10_step_61 : decode cX10_step 61 = .ok (.aload_n 0, 1) := by decide +kernel
theorem dX10_step_62 : decode cX10_step 62 = .ok (.getfield 26, 3) := by decide +kernel
theorem dX10_step_65 : decode cX10_step 65 = .ok (.getfield 67, 3) := by decide +kernel
theorem dX10_step_68 : decode cX10_step 68 = .ok (.bipush 7, 2) := by decide +kernel
theorem dX10_step_70 : decode cX10_step 70 = .ok (.if_icmp .ne 17, 3) := by decide +kernel
theorem dX10_step_73 : decode cX10_step 73 = .ok (.aload_n 0, 1) := by decide +kernel
theorem dX10_step_74 : decode cX10_step 74 = .ok (.getfield 35, 3) := by decide +kernel
theorem dX10_step_77 : decode cX10_step 77 = .ok (.aload_n 0, 1) := by decide +kernel
theorem dX10_step_78 : decode cX10_step 78 = .ok (.getfield 26, 3) := by decide +kernel
theorem dX10_step_81 : decode cX10_step 81 = .ok (.invokevirtual 70, 3) := by decide +kernel
theorem dX10_step_84 : decode cX10_step 84 = .ok (.goto 14, 3) := by decide +kernel
theorem dX10_step_87 : decode cX10_step 87 = .ok (.aload_n 0, 1) := by decide +kernel
theorem dX10_step_88 : decode cX10_step 88 = .ok (.getfield 42, 3) := by decide +kernel
theorem dX10_step_91 : decode cX10_step 91 = .ok (.aload_n 0, 1) := by decide +kernel
theorem dX10_step_92 : decode cX10_step 92 = .ok (.getfield 26, 3) := by decide +kernel
theorem dX10_step_95 : decode cX10_step 95 = .ok (.invokevirtual 71, 3) := by decide +kernel
theorem dX10_step_98 : decode cX10_step 98 = .ok (.istore_n 2, 1) := by decide +kernel
theorem dX10_step_99 : decode cX10_step 99 = .ok (.iload_n 2, 1) := by decide +kernel
theorem dX10_step_100 : decode cX10_step 100 = .ok (.ifCond .ne 24, 3) := by decide +kernel
theorem dX10_step_103 : decode cX10_step 103 = .ok (.aload_n 0, 1) := by decide +kernel
theorem dX10_step_104 : decode cX10_step 104 = .ok (.getfield 12, 3) := by decide +kernel
theorem dX10_step_107 : decode cX10_step 107 = .ok (.iconst 0, 1) := by decide +kernel
theorem dX10_step_108 : decode cX10_step 108 = .ok (.putfield 72, 3) := by decide +kernel
theorem dX10_step_111 : decode cX10_step 111 = .ok (.aload_n 0, 1) := by decide +kernel
theorem dX10_step_112 : decode cX10_step 112 = .ok (.dup, 1) := by decide +kernel
theorem dX10_step_113 : decode cX10_step 113 = .ok (.getfield 75, 3) := by decide +kernel
theorem dX10_step_116 : decode cX10_step 116 = .ok (.iconst 1, 1) := by decide +kernel
theorem dX10_step_117 : decode cX10_step 117 = .ok (.iadd, 1) := by decide +kernel
theorem dX10_step_118 : decode cX10_step 118 = .ok (.putfield 75, 3) := by decide +kernel
theorem dX10_step_121 : decode cX10_step 121 = .ok (.goto 31, 3) := by decide +kernel
theorem dX10_step_124 : decode cX10_step 124 = .ok (.iload_n 2, 1) := by decide +kernel
theorem dX10_step_125 : decode cX10_step 125 = .ok (.iconst 1, 1) := by decide +kernel
theorem dX10_step_126 : decode cX10_step 126 = .ok (.if_icmp .ne 16, 3) := by decide +kernel
theorem dX10_step_129 : decode cX10_step 129 = .ok (.aload_n 0, 1) := by decide +kernel
theorem dX10_step_130 : decode cX10_step 130 = .ok (.dup, 1) := by decide +kernel
theorem dX10_step_131 : decode cX10_step 131 = .ok (.getfield 78, 3) := by decide +kernel
theorem dX10_step_134 : decode cX10_step 134 = .ok (.iconst 1, 1) := by decide +kernel
theorem dX10_step_135 : decode cX10_step 135 = .ok (.iadd, 1) := by decide +kernel
theorem dX10_step_136 : decode cX10_step 136 = .ok (.putfield 78, 3) := by decide +kernel
theorem dX10_step_139 : decode cX10_step 139 = .ok (.goto 13, 3) := by decide +kernel
theorem dX10_step_142 : decode cX10_step 142 = .ok (.aload_n 0, 1) := by decide +kernel
theorem dX10_step_143 : decode cX10_step 143 = .ok (.dup, 1) := by decide +kernel
theorem dX10_step_144 : decode cX10_step 144 = .ok (.getfield 81, 3) := by decide +kernel
theorem dX10_step_147 : decode cX10_step 147 = .ok (.iconst 1, 1) := by decide +kernel
theorem dX10_step_148 : decode cX10_step 148 = .ok (.iadd, 1) := by decide +kernel
theorem dX10_step_149 : decode cX10_step 149 = .ok (.putfield 81, 3) := by decide +kernel
theorem dX10_step_152 : decode cX10_step 152 = .ok (.iload_n 2, 1) := by decide +kernel
theorem dX10_step_153 : decode cX10_step 153 = .ok (.ireturn, 1) := by decide +kernel
theorem dX10_choose_0 : decode cX10_choose 0 = .ok (.aload_n 0, 1) := by decide +kernel
theorem dX10_choose_1 : decode cX10_choose 1 = .ok (.getfield 12, 3) := by decide +kernel
theorem dX10_choose_4 : decode cX10_choose 4 = .ok (.lload_n 1, 1) := by decide +kernel
theorem dX10_choose_5 : decode cX10_choose 5 = .ok (.putfield 84, 3) := by decide +kernel
theorem dX10_choose_8 : decode cX10_choose 8 = .ok (.return_, 1) := by decide +kernel
theorem dX10_x_0 : decode cX10_x 0 = .ok (.iload_n 1, 1) := by decide +kernel
theorem dX10_x_1 : decode cX10_x 1 = .ok (.ifCond .lt 9, 3) := by decide +kernel
theorem dX10_x_4 : decode cX10_x 4 = .ok (.iload_n 1, 1) := by decide +kernel
theorem dX10_x_5 : decode cX10_x 5 = .ok (.bipush 32, 2) := by decide +kernel
theorem dX10_x_7 : decode cX10_x 7 = .ok (.if_icmp .lt 13, 3) := by decide +kernel
theorem dX10_x_10 : decode cX10_x 10 = .ok (.new 88, 3) := by decide +kernel
theorem dX10_x_13 : decode cX10_x 13 = .ok (.dup, 1) := by decide +kernel
theorem dX10_x_14 : decode cX10_x 14 = .ok (.ldc 90, 2) := by decide +kernel
theorem dX10_x_16 : decode cX10_x 16 = .ok (.invokespecial 92, 3) := by decide +kernel
theorem dX10_x_19 : decode cX10_x 19 = .ok (.athrow, 1) := by decide +kernel
theorem dX10_x_20 : decode cX10_x 20 = .ok (.aload_n 0, 1) := by decide +kernel
theorem dX10_x_21 : decode cX10_x 21 = .ok (.getfield 12, 3) := by decide +kernel
theorem dX10_x_24 : decode cX10_x 24 = .ok (.iload_n 1, 1) := by decide +kernel
theorem dX10_x_25 : decode cX10_x 25 = .ok (.invokevirtual 95, 3) := by decide +kernel
theorem dX10_x_28 : decode cX10_x 28 = .ok (.ireturn, 1) := by decide +kernel
theorem dX10_setX_0 : decode cX10_setX 0 = .ok (.iload_n 1, 1) := by decide +kernel
theorem dX10_setX_1 : decode cX10_setX 1 = .ok (.ifCond .lt 9, 3) := by decide +kernel
theorem dX10_setX_4 : decode cX10_setX 4 = .ok (.iload_n 1, 1) := by decide +kernel
theorem dX10_setX_5 : decode cX10_setX 5 = .ok (.bipush 32, 2) := by decide +kernel
theorem dX10_setX_7 : decode cX10_setX 7 = .ok (.if_icmp .lt 13, 3) := by decide +kernel
theorem dX10_setX_10 : decode cX10_setX 10 = .ok (.new 88, 3) := by decide +kernel
theorem dX10_setX_13 : decode cX10_setX 13 = .ok (.dup, 1) := by decide +kernel
theorem dX10_setX_14 : decode cX10_setX 14 = .ok (.ldc 90, 2) := by decide +kernel
theorem dX10_setX_16 : decode cX10_setX 16 = .ok (.invokespecial 92, 3) := by decide +kernel
theorem dX10_setX_19 : decode cX10_setX 19 = .ok (.athrow, 1) := by decide +kernel
theorem dX10_setX_20 : decode cX10_setX 20 = .ok (.aload_n 0, 1) := by decide +kernel
theorem dX10_setX_21 : decode cX10_setX 21 = .ok (.getfield 12, 3) := by decide +kernel
theorem dX10_setX_24 : decode cX10_setX 24 = .ok (.iload_n 1, 1) := by decide +kernel
theorem dX10_setX_25 : decode cX10_setX 25 = .ok (.iload_n 2, 1) := by decide +kernel
theorem dX10_setX_26 : decode cX10_setX 26 = .ok (.invokevirtual 99, 3) := by decide +kernel
theorem dX10_setX_29 : decode cX10_setX 29 = .ok (.return_, 1) := by decide +kernel
theorem dX10_v_0 : decode cX10_v 0 = .ok (.iload_n 1, 1) := by decide +kernel
theorem dX10_v_1 : decode cX10_v 1 = .ok (.ifCond .lt 10, 3) := by decide +kernel
theorem dX10_v_4 : decode cX10_v 4 = .ok (.iload_n 1, 1) := by decide +kernel
theorem dX10_v_5 : decode cX10_v 5 = .ok (.sipush 128, 3) := by decide +kernel
theorem dX10_v_8 : decode cX10_v 8 = .ok (.if_icmp .lt 13, 3) := by decide +kernel
theorem dX10_v_11 : decode cX10_v 11 = .ok (.new 88, 3) := by decide +kernel
theorem dX10_v_14 : decode cX10_v 14 = .ok (.dup, 1) := by decide +kernel
theorem dX10_v_15 : decode cX10_v 15 = .ok (.ldc 103, 2) := by decide +kernel
theorem dX10_v_17 : decode cX10_v 17 = .ok (.invokespecial 92, 3) := by decide +kernel
theorem dX10_v_20 : decode cX10_v 20 = .ok (.athrow, 1) := by decide +kernel
theorem dX10_v_21 : decode cX10_v 21 = .ok (.aload_n 0, 1) := by decide +kernel
theorem dX10_v_22 : decode cX10_v 22 = .ok (.getfield 12, 3) := by decide +kernel
theorem dX10_v_25 : decode cX10_v 25 = .ok (.getfield 105, 3) := by decide +kernel
theorem dX10_v_28 : decode cX10_v 28 = .ok (.iload_n 1, 1) := by decide +kernel
theorem dX10_v_29 : decode cX10_v 29 = .ok (.iaload, 1) := by decide +kernel
theorem dX10_v_30 : decode cX10_v 30 = .ok (.ireturn, 1) := by decide +kernel
theorem dX10_setV_0 : decode cX10_setV 0 = .ok (.iload_n 1, 1) := by decide +kernel
theorem dX10_setV_1 : decode cX10_setV 1 = .ok (.ifCond .lt 10, 3) := by decide +kernel
theorem dX10_setV_4 : decode cX10_setV 4 = .ok (.iload_n 1, 1) := by decide +kernel
theorem dX10_setV_5 : decode cX10_setV 5 = .ok (.sipush 128, 3) := by decide +kernel
theorem dX10_setV_8 : decode cX10_setV 8 = .ok (.if_icmp .lt 13, 3) := by decide +kernel
theorem dX10_setV_11 : decode cX10_setV 11 = .ok (.new 88, 3) := by decide +kernel
theorem dX10_setV_14 : decode cX10_setV 14 = .ok (.dup, 1) := by decide +kernel
theorem dX10_setV_15 : decode cX10_setV 15 = .ok (.ldc 103, 2) := by decide +kernel
theorem dX10_setV_17 : decode cX10_setV 17 = .ok (.invokespecial 92, 3) := by decide +kernel
theorem dX10_setV_20 : decode cX10_setV 20 = .ok (.athrow, 1) := by decide +kernel
theorem dX10_setV_21 : decode cX10_setV 21 = .ok (.aload_n 0, 1) := by decide +kernel
theorem dX10_setV_22 : decode cX10_setV 22 = .ok (.getfield 12, 3) := by decide +kernel
theorem dX10_setV_25 : decode cX10_setV 25 = .ok (.getfield 105, 3) := by decide +kernel
theorem dX10_setV_28 : decode cX10_setV 28 = .ok (.iload_n 1, 1) := by decide +kernel
theorem dX10_setV_29 : decode cX10_setV 29 = .ok (.iload_n 2, 1) := by decide +kernel
theorem dX10_setV_30 : decode cX10_setV 30 = .ok (.iastore, 1) := by decide +kernel
theorem dX10_setV_31 : decode cX10_setV 31 = .ok (.return_, 1) := by decide +kernel
theorem dX10_word_0 : decode cX10_word 0 = .ok (.iload_n 1, 1) := by decide +kernel
theorem dX10_word_1 : decode cX10_word 1 = .ok (.ifCond .lt 10, 3) := by decide +kernel
theorem dX10_word_4 : decode cX10_word 4 = .ok (.iload_n 1, 1) := by decide +kernel
theorem dX10_word_5 : decode cX10_word 5 = .ok (.sipush 256, 3) := by decide +kernel
theorem dX10_word_8 : decode cX10_word 8 = .ok (.if_icmp .lt 13, 3) := by decide +kernel
theorem dX10_word_11 : decode cX10_word 11 = .ok (.new 88, 3) := by decide +kernel
theorem dX10_word_14 : decode cX10_word 14 = .ok (.dup, 1) := by decide +kernel
theorem dX10_word_15 : decode cX10_word 15 = .ok (.ldc 109, 2) := by decide +kernel
theorem dX10_word_17 : decode cX10_word 17 = .ok (.invokespecial 92, 3) := by decide +kernel
theorem dX10_word_20 : decode cX10_word 20 = .ok (.athrow, 1) := by decide +kernel
theorem dX10_word_21 : decode cX10_word 21 = .ok (.aload_n 0, 1) := by decide +kernel
theorem dX10_word_22 : decode cX10_word 22 = .ok (.getfield 19, 3) := by decide +kernel
theorem dX10_word_25 : decode cX10_word 25 = .ok (.getfield 111, 3) := by decide +kernel
theorem dX10_word_28 : decode cX10_word 28 = .ok (.iload_n 1, 1) := by decide +kernel
theorem dX10_word_29 : decode cX10_word 29 = .ok (.iaload, 1) := by decide +kernel
theorem dX10_word_30 : decode cX10_word 30 = .ok (.ireturn, 1) := by decide +kernel
theorem dX10_setWord_0 : decode cX10_setWord 0 = .ok (.iload_n 1, 1) := by decide +kernel
theorem dX10_setWord_1 : decode cX10_setWord 1 = .ok (.ifCond .lt 10, 3) := by decide +kernel
theorem dX10_setWord_4 : decode cX10_setWord 4 = .ok (.iload_n 1, 1) := by decide +kernel
theorem dX10_setWord_5 : decode cX10_setWord 5 = .ok (.sipush 256, 3) := by decide +kernel
theorem dX10_setWord_8 : decode cX10_setWord 8 = .ok (.if_icmp .lt 13, 3) := by decide +kernel
theorem dX10_setWord_11 : decode cX10_setWord 11 = .ok (.new 88, 3) := by decide +kernel
theorem dX10_setWord_14 : decode cX10_setWord 14 = .ok (.dup, 1) := by decide +kernel
theorem dX10_setWord_15 : decode cX10_setWord 15 = .ok (.ldc 109, 2) := by decide +kernel
theorem dX10_setWord_17 : decode cX10_setWord 17 = .ok (.invokespecial 92, 3) := by decide +kernel
theorem dX10_setWord_20 : decode cX10_setWord 20 = .ok (.athrow, 1) := by decide +kernel
theorem dX10_setWord_21 : decode cX10_setWord 21 = .ok (.aload_n 0, 1) := by decide +kernel
theorem dX10_setWord_22 : decode cX10_setWord 22 = .ok (.getfield 19, 3) := by decide +kernel
theorem dX10_setWord_25 : decode cX10_setWord 25 = .ok (.getfield 111, 3) := by decide +kernel
theorem dX10_setWord_28 : decode cX10_setWord 28 = .ok (.iload_n 1, 1) := by decide +kernel
theorem dX10_setWord_29 : decode cX10_setWord 29 = .ok (.iload_n 2, 1) := by decide +kernel
theorem dX10_setWord_30 : decode cX10_setWord 30 = .ok (.iastore, 1) := by decide +kernel
theorem dX10_setWord_31 : decode cX10_setWord 31 = .ok (.return_, 1) := by decide +kernel
theorem dX10_shut_0 : decode cX10_shut 0 = .ok (.iload_n 1, 1) := by decide +kernel
theorem dX10_shut_1 : decode cX10_shut 1 = .ok (.ifCond .lt 9, 3) := by decide +kernel
theorem dX10_shut_4 : decode cX10_shut 4 = .ok (.iload_n 1, 1) := by decide +kernel
theorem dX10_shut_5 : decode cX10_shut 5 = .ok (.bipush 16, 2) := by decide +kernel
theorem dX10_shut_7 : decode cX10_shut 7 = .ok (.if_icmp .lt 13, 3) := by decide +kernel
theorem dX10_shut_10 : decode cX10_shut 10 = .ok (.new 88, 3) := by decide +kernel
theorem dX10_shut_13 : decode cX10_shut 13 = .ok (.dup, 1) := by decide +kernel
theorem dX10_shut_14 : decode cX10_shut 14 = .ok (.ldc 114, 2) := by decide +kernel
theorem dX10_shut_16 : decode cX10_shut 16 = .ok (.invokespecial 92, 3) := by decide +kernel
theorem dX10_shut_19 : decode cX10_shut 19 = .ok (.athrow, 1) := by decide +kernel
theorem dX10_shut_20 : decode cX10_shut 20 = .ok (.aload_n 0, 1) := by decide +kernel
theorem dX10_shut_21 : decode cX10_shut 21 = .ok (.getfield 19, 3) := by decide +kernel
theorem dX10_shut_24 : decode cX10_shut 24 = .ok (.iload_n 1, 1) := by decide +kernel
theorem dX10_shut_25 : decode cX10_shut 25 = .ok (.iload_n 2, 1) := by decide +kernel
theorem dX10_shut_26 : decode cX10_shut 26 = .ok (.invokevirtual 116, 3) := by decide +kernel
theorem dX10_shut_29 : decode cX10_shut 29 = .ok (.return_, 1) := by decide +kernel
theorem dX10_state_0 : decode cX10_state 0 = .ok (.iload_n 1, 1) := by decide +kernel
theorem dX10_state_1 : decode cX10_state 1 = .ok (.tableswitch 132 0 9 #[55, 63, 74, 82, 90, 98, 109, 114, 119, 124], 55) := by decide +kernel
theorem dX10_state_56 : decode cX10_state 56 = .ok (.aload_n 0, 1) := by decide +kernel
theorem dX10_state_57 : decode cX10_state 57 = .ok (.getfield 12, 3) := by decide +kernel
theorem dX10_state_60 : decode cX10_state 60 = .ok (.getfield 120, 3) := by decide +kernel
theorem dX10_state_63 : decode cX10_state 63 = .ok (.ireturn, 1) := by decide +kernel
theorem dX10_state_64 : decode cX10_state 64 = .ok (.aload_n 0, 1) := by decide +kernel
theorem dX10_state_65 : decode cX10_state 65 = .ok (.getfield 12, 3) := by decide +kernel
theorem dX10_state_68 : decode cX10_state 68 = .ok (.getfield 123, 3) := by decide +kernel
theorem dX10_state_71 : decode cX10_state 71 = .ok (.getfield 127, 3) := by decide +kernel
theorem dX10_state_74 : decode cX10_state 74 = .ok (.ireturn, 1) := by decide +kernel
theorem dX10_state_75 : decode cX10_state 75 = .ok (.aload_n 0, 1) := by decide +kernel
theorem dX10_state_76 : decode cX10_state 76 = .ok (.getfield 12, 3) := by decide +kernel
theorem dX10_state_79 : decode cX10_state 79 = .ok (.getfield 72, 3) := by decide +kernel
theorem dX10_state_82 : decode cX10_state 82 = .ok (.ireturn, 1) := by decide +kernel
theorem dX10_state_83 : decode cX10_state 83 = .ok (.aload_n 0, 1) := by decide +kernel
theorem dX10_state_84 : decode cX10_state 84 = .ok (.getfield 12, 3) := by decide +kernel
theorem dX10_state_87 : decode cX10_state 87 = .ok (.getfield 132, 3) := by decide +kernel
theorem dX10_state_90 : decode cX10_state 90 = .ok (.ireturn, 1) := by decide +kernel
theorem dX10_state_91 : decode cX10_state 91 = .ok (.aload_n 0, 1) := by decide +kernel
theorem dX10_state_92 : decode cX10_state 92 = .ok (.getfield 12, 3) := by decide +kernel
theorem dX10_state_95 : decode cX10_state 95 = .ok (.getfield 135, 3) := by decide +kernel
theorem dX10_state_98 : decode cX10_state 98 = .ok (.ireturn, 1) := by decide +kernel
theorem dX10_state_99 : decode cX10_state 99 = .ok (.aload_n 0, 1) := by decide +kernel
theorem dX10_state_100 : decode cX10_state 100 = .ok (.getfield 12, 3) := by decide +kernel
theorem dX10_state_103 : decode cX10_state 103 = .ok (.getfield 123, 3) := by decide +kernel
theorem dX10_state_106 : decode cX10_state 106 = .ok (.getfield 138, 3) := by decide +kernel
theorem dX10_state_109 : decode cX10_state 109 = .ok (.ireturn, 1) := by decide +kernel
theorem dX10_state_110 : decode cX10_state 110 = .ok (.aload_n 0, 1) := by decide +kernel
theorem dX10_state_111 : decode cX10_state 111 = .ok (.getfield 75, 3) := by decide +kernel
theorem dX10_state_114 : decode cX10_state 114 = .ok (.ireturn, 1) := by decide +kernel
theorem dX10_state_115 : decode cX10_state 115 = .ok (.aload_n 0, 1) := by decide +kernel
theorem dX10_state_116 : decode cX10_state 116 = .ok (.getfield 78, 3) := by decide +kernel
theorem dX10_state_119 : decode cX10_state 119 = .ok (.ireturn, 1) := by decide +kernel
theorem dX10_state_120 : decode cX10_state 120 = .ok (.aload_n 0, 1) := by decide +kernel
theorem dX10_state_121 : decode cX10_state 121 = .ok (.getfield 81, 3) := by decide +kernel
theorem dX10_state_124 : decode cX10_state 124 = .ok (.ireturn, 1) := by decide +kernel
theorem dX10_state_125 : decode cX10_state 125 = .ok (.aload_n 0, 1) := by decide +kernel
theorem dX10_state_126 : decode cX10_state 126 = .ok (.getfield 51, 3) := by decide +kernel
theorem dX10_state_129 : decode cX10_state 129 = .ok (.getfield 141, 3) := by decide +kernel
theorem dX10_state_132 : decode cX10_state 132 = .ok (.ireturn, 1) := by decide +kernel
theorem dX10_state_133 : decode cX10_state 133 = .ok (.iconst (-1), 1) := by decide +kernel
theorem dX10_state_134 : decode cX10_state 134 = .ok (.ireturn, 1) := by decide +kernel
theorem dX10_setState_0 : decode cX10_setState 0 = .ok (.iload_n 1, 1) := by decide +kernel
theorem dX10_setState_1 : decode cX10_setState 1 = .ok (.tableswitch 64 2 4 #[27, 40, 52], 27) := by decide +kernel
theorem dX10_setState_28 : decode cX10_setState 28 = .ok (.aload_n 0, 1) := by decide +kernel
theorem dX10_setState_29 : decode cX10_setState 29 = .ok (.getfield 12, 3) := by decide +kernel
theorem dX10_setState_32 : decode cX10_setState 32 = .ok (.iload_n 2, 1) := by decide +kernel
theorem dX10_setState_33 : decode cX10_setState 33 = .ok (.bipush 127, 2) := by decide +kernel
theorem dX10_setState_35 : decode cX10_setState 35 = .ok (.iand, 1) := by decide +kernel
theorem dX10_setState_36 : decode cX10_setState 36 = .ok (.putfield 72, 3) := by decide +kernel
theorem dX10_setState_39 : decode cX10_setState 39 = .ok (.iconst 1, 1) := by decide +kernel
theorem dX10_setState_40 : decode cX10_setState 40 = .ok (.ireturn, 1) := by decide +kernel
theorem dX10_setState_41 : decode cX10_setState 41 = .ok (.aload_n 0, 1) := by decide +kernel
theorem dX10_setState_42 : decode cX10_setState 42 = .ok (.getfield 12, 3) := by decide +kernel
theorem dX10_setState_45 : decode cX10_setState 45 = .ok (.iload_n 2, 1) := by decide +kernel
theorem dX10_setState_46 : decode cX10_setState 46 = .ok (.iconst 3, 1) := by decide +kernel
theorem dX10_setState_47 : decode cX10_setState 47 = .ok (.iand, 1) := by decide +kernel
theorem dX10_setState_48 : decode cX10_setState 48 = .ok (.putfield 132, 3) := by decide +kernel
theorem dX10_setState_51 : decode cX10_setState 51 = .ok (.iconst 1, 1) := by decide +kernel
theorem dX10_setState_52 : decode cX10_setState 52 = .ok (.ireturn, 1) := by decide +kernel
theorem dX10_setState_53 : decode cX10_setState 53 = .ok (.aload_n 0, 1) := by decide +kernel
theorem dX10_setState_54 : decode cX10_setState 54 = .ok (.getfield 12, 3) := by decide +kernel
theorem dX10_setState_57 : decode cX10_setState 57 = .ok (.iload_n 2, 1) := by decide +kernel
theorem dX10_setState_58 : decode cX10_setState 58 = .ok (.iconst 1, 1) := by decide +kernel
theorem dX10_setState_59 : decode cX10_setState 59 = .ok (.iand, 1) := by decide +kernel
theorem dX10_setState_60 : decode cX10_setState 60 = .ok (.putfield 135, 3) := by decide +kernel
theorem dX10_setState_63 : decode cX10_setState 63 = .ok (.iconst 1, 1) := by decide +kernel
theorem dX10_setState_64 : decode cX10_setState 64 = .ok (.ireturn, 1) := by decide +kernel
theorem dX10_setState_65 : decode cX10_setState 65 = .ok (.iconst 0, 1) := by decide +kernel
theorem dX10_setState_66 : decode cX10_setState 66 = .ok (.ireturn, 1) := by decide +kernel
theorem dX10_sum_0 : decode cX10_sum 0 = .ok (.iconst 0, 1) := by decide +kernel
theorem dX10_sum_1 : decode cX10_sum 1 = .ok (.istore_n 1, 1) := by decide +kernel
theorem dX10_sum_2 : decode cX10_sum 2 = .ok (.iconst 0, 1) := by decide +kernel
theorem dX10_sum_3 : decode cX10_sum 3 = .ok (.istore_n 2, 1) := by decide +kernel
theorem dX10_sum_4 : decode cX10_sum 4 = .ok (.iload_n 2, 1) := by decide +kernel
theorem dX10_sum_5 : decode cX10_sum 5 = .ok (.sipush 128, 3) := by decide +kernel
theorem dX10_sum_8 : decode cX10_sum 8 = .ok (.if_icmp .ge 24, 3) := by decide +kernel
theorem dX10_sum_11 : decode cX10_sum 11 = .ok (.bipush 31, 2) := by decide +kernel
theorem dX10_sum_13 : decode cX10_sum 13 = .ok (.iload_n 1, 1) := by decide +kernel
theorem dX10_sum_14 : decode cX10_sum 14 = .ok (.imul, 1) := by decide +kernel
theorem dX10_sum_15 : decode cX10_sum 15 = .ok (.aload_n 0, 1) := by decide +kernel
theorem dX10_sum_16 : decode cX10_sum 16 = .ok (.getfield 12, 3) := by decide +kernel
theorem dX10_sum_19 : decode cX10_sum 19 = .ok (.getfield 105, 3) := by decide +kernel
theorem dX10_sum_22 : decode cX10_sum 22 = .ok (.iload_n 2, 1) := by decide +kernel
theorem dX10_sum_23 : decode cX10_sum 23 = .ok (.iaload, 1) := by decide +kernel
theorem dX10_sum_24 : decode cX10_sum 24 = .ok (.iadd, 1) := by decide +kernel
theorem dX10_sum_25 : decode cX10_sum 25 = .ok (.istore_n 1, 1) := by decide +kernel
theorem dX10_sum_26 : decode cX10_sum 26 = .ok (.iinc 2 1, 3) := by decide +kernel
theorem dX10_sum_29 : decode cX10_sum 29 = .ok (.goto (-25), 3) := by decide +kernel
theorem dX10_sum_32 : decode cX10_sum 32 = .ok (.iload_n 1, 1) := by decide +kernel
theorem dX10_sum_33 : decode cX10_sum 33 = .ok (.ireturn, 1) := by decide +kernel
theorem dX10_ones_0 : decode cX10_ones 0 = .ok (.lconst 1, 1) := by decide +kernel
theorem dX10_ones_1 : decode cX10_ones 1 = .ok (.iload_n 0, 1) := by decide +kernel
theorem dX10_ones_2 : decode cX10_ones 2 = .ok (.lshl, 1) := by decide +kernel
theorem dX10_ones_3 : decode cX10_ones 3 = .ok (.lconst 1, 1) := by decide +kernel
theorem dX10_ones_4 : decode cX10_ones 4 = .ok (.lsub, 1) := by decide +kernel
theorem dX10_ones_5 : decode cX10_ones 5 = .ok (.lreturn, 1) := by decide +kernel
theorem dX10_signed_0 : decode cX10_signed 0 = .ok (.lload_n 0, 1) := by decide +kernel
theorem dX10_signed_1 : decode cX10_signed 1 = .ok (.bipush 64, 2) := by decide +kernel
theorem dX10_signed_3 : decode cX10_signed 3 = .ok (.iload_n 2, 1) := by decide +kernel
theorem dX10_signed_4 : decode cX10_signed 4 = .ok (.isub, 1) := by decide +kernel
theorem dX10_signed_5 : decode cX10_signed 5 = .ok (.lshl, 1) := by decide +kernel
theorem dX10_signed_6 : decode cX10_signed 6 = .ok (.bipush 64, 2) := by decide +kernel
theorem dX10_signed_8 : decode cX10_signed 8 = .ok (.iload_n 2, 1) := by decide +kernel
theorem dX10_signed_9 : decode cX10_signed 9 = .ok (.isub, 1) := by decide +kernel
theorem dX10_signed_10 : decode cX10_signed 10 = .ok (.lshr, 1) := by decide +kernel
theorem dX10_signed_11 : decode cX10_signed 11 = .ok (.lreturn, 1) := by decide +kernel
theorem dX11_init_0 : decode cX11_init 0 = .ok (.aload_n 0, 1) := by decide +kernel
theorem dX11_init_1 : decode cX11_init 1 = .ok (.invokespecial 1, 3) := by decide +kernel
theorem dX11_init_4 : decode cX11_init 4 = .ok (.aload_n 0, 1) := by decide +kernel
theorem dX11_init_5 : decode cX11_init 5 = .ok (.bipush 32, 2) := by decide +kernel
theorem dX11_init_7 : decode cX11_init 7 = .ok (.newarray .int, 2) := by decide +kernel
theorem dX11_init_9 : decode cX11_init 9 = .ok (.putfield 7, 3) := by decide +kernel
theorem dX11_init_12 : decode cX11_init 12 = .ok (.aload_n 0, 1) := by decide +kernel
theorem dX11_init_13 : decode cX11_init 13 = .ok (.sipush 512, 3) := by decide +kernel
theorem dX11_init_16 : decode cX11_init 16 = .ok (.newarray .int, 2) := by decide +kernel
theorem dX11_init_18 : decode cX11_init 18 = .ok (.putfield 13, 3) := by decide +kernel
theorem dX11_init_21 : decode cX11_init 21 = .ok (.aload_n 0, 1) := by decide +kernel
theorem dX11_init_22 : decode cX11_init 22 = .ok (.sipush 512, 3) := by decide +kernel
theorem dX11_init_25 : decode cX11_init 25 = .ok (.newarray .int, 2) := by decide +kernel
theorem dX11_init_27 : decode cX11_init 27 = .ok (.putfield 16, 3) := by decide +kernel
theorem dX11_init_30 : decode cX11_init 30 = .ok (.aload_n 0, 1) := by decide +kernel
theorem dX11_init_31 : decode cX11_init 31 = .ok (.sipush 1024, 3) := by decide +kernel
theorem dX11_init_34 : decode cX11_init 34 = .ok (.newarray .int, 2) := by decide +kernel
theorem dX11_init_36 : decode cX11_init 36 = .ok (.putfield 19, 3) := by decide +kernel
theorem dX11_init_39 : decode cX11_init 39 = .ok (.aload_n 0, 1) := by decide +kernel
theorem dX11_init_40 : decode cX11_init 40 = .ok (.bipush 16, 2) := by decide +kernel
theorem dX11_init_42 : decode cX11_init 42 = .ok (.newarray .boolean, 2) := by decide +kernel
theorem dX11_init_44 : decode cX11_init 44 = .ok (.putfield 22, 3) := by decide +kernel
theorem dX11_init_47 : decode cX11_init 47 = .ok (.aload_n 0, 1) := by decide +kernel
theorem dX11_init_48 : decode cX11_init 48 = .ok (.ldc 28, 2) := by decide +kernel
theorem dX11_init_50 : decode cX11_init 50 = .ok (.putfield 29, 3) := by decide +kernel
theorem dX11_init_53 : decode cX11_init 53 = .ok (.return_, 1) := by decide +kernel
theorem dX11_thrown_0 : decode cX11_thrown 0 = .ok (.aload_n 0, 1) := by decide +kernel
theorem dX11_thrown_1 : decode cX11_thrown 1 = .ok (.getfield 33, 3) := by decide +kernel
theorem dX11_thrown_4 : decode cX11_thrown 4 = .ok (.ireturn, 1) := by decide +kernel
theorem dX11_isIll_0 : decode cX11_isIll 0 = .ok (.aload_n 0, 1) := by decide +kernel
theorem dX11_isIll_1 : decode cX11_isIll 1 = .ok (.getfield 29, 3) := by decide +kernel
theorem dX11_isIll_4 : decode cX11_isIll 4 = .ok (.ifCond .ge 7, 3) := by decide +kernel
theorem dX11_isIll_7 : decode cX11_isIll 7 = .ok (.iconst 1, 1) := by decide +kernel
theorem dX11_isIll_8 : decode cX11_isIll 8 = .ok (.goto 4, 3) := by decide +kernel
theorem dX11_isIll_11 : decode cX11_isIll 11 = .ok (.iconst 0, 1) := by decide +kernel
theorem dX11_isIll_12 : decode cX11_isIll 12 = .ok (.ireturn, 1) := by decide +kernel
theorem dX11_eighths_0 : decode cX11_eighths 0 = .ok (.iload_n 0, 1) := by decide +kernel
theorem dX11_eighths_1 : decode cX11_eighths 1 = .ok (.bipush 7, 2) := by decide +kernel
theorem dX11_eighths_3 : decode cX11_eighths 3 = .ok (.iand, 1) := by decide +kernel
theorem dX11_eighths_4 : decode cX11_eighths 4 = .ok (.istore_n 1, 1) := by decide +kernel
theorem dX11_eighths_5 : decode cX11_eighths 5 = .ok (.iload_n 1, 1) := by decide +kernel
theorem dX11_eighths_6 : decode cX11_eighths 6 = .ok (.iconst 4, 1) := by decide +kernel
theorem dX11_eighths_7 : decode cX11_eighths 7 = .ok (.if_icmp .ge 10, 3) := by decide +kernel
theorem dX11_eighths_10 : decode cX11_eighths 10 = .ok (.bipush 8, 2) := by decide +kernel
theorem dX11_eighths_12 : decode cX11_eighths 12 = .ok (.iload_n 1, 1) := by decide +kernel
theorem dX11_eighths_13 : decode cX11_eighths 13 = .ok (.ishl, 1) := by decide +kernel
theorem dX11_eighths_14 : decode cX11_eighths 14 = .ok (.goto 24, 3) := by decide +kernel
theorem dX11_eighths_17 : decode cX11_eighths 17 = .ok (.iload_n 1, 1) := by decide +kernel
theorem dX11_eighths_18 : decode cX11_eighths 18 = .ok (.bipush 7, 2) := by decide +kernel
theorem dX11_eighths_20 : decode cX11_eighths 20 = .ok (.if_icmp .ne 7, 3) := by decide +kernel
theorem dX11_eighths_23 : decode cX11_eighths 23 = .ok (.iconst 4, 1) := by decide +kernel
theorem dX11_eighths_24 : decode cX11_eighths 24 = .ok (.goto 14, 3) := by decide +kernel
theorem dX11_eighths_27 : decode cX11_eighths 27 = .ok (.iload_n 1, 1) := by decide +kernel
theorem dX11_eighths_28 : decode cX11_eighths 28 = .ok (.bipush 6, 2) := by decide +kernel
theorem dX11_eighths_30 : decode cX11_eighths 30 = .ok (.if_icmp .ne 7, 3) := by decide +kernel
theorem dX11_eighths_33 : decode cX11_eighths 33 = .ok (.iconst 2, 1) := by decide +kernel
theorem dX11_eighths_34 : decode cX11_eighths 34 = .ok (.goto 4, 3) := by decide +kernel
theorem dX11_eighths_37 : decode cX11_eighths 37 = .ok (.iconst 0, 1) := by decide +kernel
theorem dX11_eighths_38 : decode cX11_eighths 38 = .ok (.ireturn, 1) := by decide +kernel
theorem dX11_width_0 : decode cX11_width 0 = .ok (.iload_n 0, 1) := by decide +kernel
theorem dX11_width_1 : decode cX11_width 1 = .ok (.iconst 3, 1) := by decide +kernel
theorem dX11_width_2 : decode cX11_width 2 = .ok (.ishr, 1) := by decide +kernel
theorem dX11_width_3 : decode cX11_width 3 = .ok (.bipush 7, 2) := by decide +kernel
theorem dX11_width_5 : decode cX11_width 5 = .ok (.iand, 1) := by decide +kernel
theorem dX11_width_6 : decode cX11_width 6 = .ok (.istore_n 1, 1) := by decide +kernel
theorem dX11_width_7 : decode cX11_width 7 = .ok (.iload_n 1, 1) := by decide +kernel
theorem dX11_width_8 : decode cX11_width 8 = .ok (.iconst 3, 1) := by decide +kernel
theorem dX11_width_9 : decode cX11_width 9 = .ok (.if_icmp .ge 10, 3) := by decide +kernel
theorem dX11_width_12 : decode cX11_width 12 = .ok (.bipush 8, 2) := by decide +kernel
theorem dX11_width_14 : decode cX11_width 14 = .ok (.iload_n 1, 1) := by decide +kernel
theorem dX11_width_15 : decode cX11_width 15 = .ok (.ishl, 1) := by decide +kernel
theorem dX11_width_16 : decode cX11_width 16 = .ok (.goto 4, 3) := by decide +kernel
theorem dX11_width_19 : decode cX11_width 19 = .ok (.iconst 0, 1) := by decide +kernel
theorem dX11_width_20 : decode cX11_width 20 = .ok (.ireturn, 1) := by decide +kernel
theorem dX11_typed_0 : decode cX11_typed 0 = .ok (.iload_n 0, 1) := by decide +kernel
theorem dX11_typed_1 : decode cX11_typed 1 = .ok (.sipush (-256), 3) := by decide +kernel
theorem dX11_typed_4 : decode cX11_typed 4 = .ok (.iand, 1) := by decide +kernel
theorem dX11_typed_5 : decode cX11_typed 5 = .ok (.ifCond .ne 38, 3) := by decide +kernel
theorem dX11_typed_8 : decode cX11_typed 8 = .ok (.iload_n 0, 1) := by decide +kernel
theorem dX11_typed_9 : decode cX11_typed 9 = .ok (.invokestatic 36, 3) := by decide +kernel
theorem dX11_typed_12 : decode cX11_typed 12 = .ok (.ifCond .le 31, 3) := by decide +kernel
theorem dX11_typed_15 : decode cX11_typed 15 = .ok (.iload_n 0, 1) := by decide +kernel
theorem dX11_typed_16 : decode cX11_typed 16 = .ok (.invokestatic 40, 3) := by decide +kernel
theorem dX11_typed_19 : decode cX11_typed 19 = .ok (.ifCond .le 24, 3) := by decide +kernel
theorem dX11_typed_22 : decode cX11_typed 22 = .ok (.bipush 8, 2) := by decide +kernel
theorem dX11_typed_24 : decode cX11_typed 24 = .ok (.iload_n 0, 1) := by decide +kernel
theorem dX11_typed_25 : decode cX11_typed 25 = .ok (.invokestatic 36, 3) := by decide +kernel
theorem dX11_typed_28 : decode cX11_typed 28 = .ok (.imul, 1) := by decide +kernel
theorem dX11_typed_29 : decode cX11_typed 29 = .ok (.bipush 32, 2) := by decide +kernel
theorem dX11_typed_31 : decode cX11_typed 31 = .ok (.iload_n 0, 1) := by decide +kernel
theorem dX11_typed_32 : decode cX11_typed 32 = .ok (.invokestatic 40, 3) := by decide +kernel
theorem dX11_typed_35 : decode cX11_typed 35 = .ok (.imul, 1) := by decide +kernel
theorem dX11_typed_36 : decode cX11_typed 36 = .ok (.if_icmp .gt 7, 3) := by decide +kernel
theorem dX11_typed_39 : decode cX11_typed 39 = .ok (.iconst 1, 1) := by decide +kernel
theorem dX11_typed_40 : decode cX11_typed 40 = .ok (.goto 4, 3) := by decide +kernel
theorem dX11_typed_43 : decode cX11_typed 43 = .ok (.iconst 0, 1) := by decide +kernel
theorem dX11_typed_44 : decode cX11_typed 44 = .ok (.istore_n 1, 1) := by decide +kernel
theorem dX11_typed_45 : decode cX11_typed 45 = .ok (.iload_n 1, 1) := by decide +kernel
theorem dX11_typed_46 : decode cX11_typed 46 = .ok (.ifCond .eq 7, 3) := by decide +kernel
theorem dX11_typed_49 : decode cX11_typed 49 = .ok (.iload_n 0, 1) := by decide +kernel
theorem dX11_typed_50 : decode cX11_typed 50 = .ok (.goto 5, 3) := by decide +kernel
theorem dX11_typed_53 : decode cX11_typed 53 = .ok (.ldc 28, 2) := by decide +kernel
theorem dX11_typed_55 : decode cX11_typed 55 = .ok (.ireturn, 1) := by decide +kernel
theorem dX11_most_0 : decode cX11_most 0 = .ok (.iload_n 0, 1) := by decide +kernel
theorem dX11_most_1 : decode cX11_most 1 = .ok (.ifCond .ge 7, 3) := by decide +kernel
theorem dX11_most_4 : decode cX11_most 4 = .ok (.iconst 0, 1) := by decide +kernel
theorem dX11_most_5 : decode cX11_most 5 = .ok (.goto 15, 3) := by decide +kernel
theorem dX11_most_8 : decode cX11_most 8 = .ok (.bipush 16, 2) := by decide +kernel
theorem dX11_most_10 : decode cX11_most 10 = .ok (.iload_n 0, 1) := by decide +kernel
theorem dX11_most_11 : decode cX11_most 11 = .ok (.invokestatic 40, 3) := by decide +kernel
theorem dX11_most_14 : decode cX11_most 14 = .ok (.imul, 1) := by decide +kernel
theorem dX11_most_15 : decode cX11_most 15 = .ok (.iload_n 0, 1) := by decide +kernel
theorem dX11_most_16 : decode cX11_most 16 = .ok (.invokestatic 36, 3) := by decide +kernel
theorem dX11_most_19 : decode cX11_most 19 = .ok (.idiv, 1) := by decide +kernel
theorem dX11_most_20 : decode cX11_most 20 = .ok (.ireturn, 1) := by decide +kernel
theorem dX11_isTailOpen_0 : decode cX11_isTailOpen 0 = .ok (.aload_n 0, 1) := by decide +kernel
theorem dX11_isTailOpen_1 : decode cX11_isTailOpen 1 = .ok (.getfield 29, 3) := by decide +kernel
theorem dX11_isTailOpen_4 : decode cX11_isTailOpen 4 = .ok (.bipush 6, 2) := by decide +kernel
theorem dX11_isTailOpen_6 : decode cX11_isTailOpen 6 = .ok (.ishr, 1) := by decide +kernel
theorem dX11_isTailOpen_7 : decode cX11_isTailOpen 7 = .ok (.iconst 1, 1) := by decide +kernel
theorem dX11_isTailOpen_8 : decode cX11_isTailOpen 8 = .ok (.iand, 1) := by decide +kernel
theorem dX11_isTailOpen_9 : decode cX11_isTailOpen 9 = .ok (.iconst 1, 1) := by decide +kernel
theorem dX11_isTailOpen_10 : decode cX11_isTailOpen 10 = .ok (.if_icmp .ne 7, 3) := by decide +kernel
theorem dX11_isTailOpen_13 : decode cX11_isTailOpen 13 = .ok (.iconst 1, 1) := by decide +kernel
theorem dX11_isTailOpen_14 : decode cX11_isTailOpen 14 = .ok (.goto 4, 3) := by decide +kernel
theorem dX11_isTailOpen_17 : decode cX11_isTailOpen 17 = .ok (.iconst 0, 1) := by decide +kernel
theorem dX11_isTailOpen_18 : decode cX11_isTailOpen 18 = .ok (.ireturn, 1) := by decide +kernel
theorem dX11_isMaskOpen_0 : decode cX11_isMaskOpen 0 = .ok (.aload_n 0, 1) := by decide +kernel
theorem dX11_isMaskOpen_1 : decode cX11_isMaskOpen 1 = .ok (.getfield 29, 3) := by decide +kernel
theorem dX11_isMaskOpen_4 : decode cX11_isMaskOpen 4 = .ok (.bipush 7, 2) := by decide +kernel
theorem dX11_isMaskOpen_6 : decode cX11_isMaskOpen 6 = .ok (.ishr, 1) := by decide +kernel
theorem dX11_isMaskOpen_7 : decode cX11_isMaskOpen 7 = .ok (.iconst 1, 1) := by decide +kernel
theorem dX11_isMaskOpen_8 : decode cX11_isMaskOpen 8 = .ok (.iand, 1) := by decide +kernel
theorem dX11_isMaskOpen_9 : decode cX11_isMaskOpen 9 = .ok (.iconst 1, 1) := by decide +kernel
theorem dX11_isMaskOpen_10 : decode cX11_isMaskOpen 10 = .ok (.if_icmp .ne 7, 3) := by decide +kernel
theorem dX11_isMaskOpen_13 : decode cX11_isMaskOpen 13 = .ok (.iconst 1, 1) := by decide +kernel
theorem dX11_isMaskOpen_14 : decode cX11_isMaskOpen 14 = .ok (.goto 4, 3) := by decide +kernel
theorem dX11_isMaskOpen_17 : decode cX11_isMaskOpen 17 = .ok (.iconst 0, 1) := by decide +kernel
theorem dX11_isMaskOpen_18 : decode cX11_isMaskOpen 18 = .ok (.ireturn, 1) := by decide +kernel
theorem dX11_chosen_0 : decode cX11_chosen 0 = .ok (.aload_n 0, 1) := by decide +kernel
theorem dX11_chosen_1 : decode cX11_chosen 1 = .ok (.getfield 43, 3) := by decide +kernel
theorem dX11_chosen_4 : decode cX11_chosen 4 = .ok (.iload_n 1, 1) := by decide +kernel
theorem dX11_chosen_5 : decode cX11_chosen 5 = .ok (.bipush 63, 2) := by decide +kernel
theorem dX11_chosen_7 : decode cX11_chosen 7 = .ok (.iand, 1) := by decide +kernel
theorem dX11_chosen_8 : decode cX11_chosen 8 = .ok (.lshr, 1) := by decide +kernel
theorem dX11_chosen_9 : decode cX11_chosen 9 = .ok (.lconst 1, 1) := by decide +kernel
theorem dX11_chosen_10 : decode cX11_chosen 10 = .ok (.land, 1) := by decide +kernel
theorem dX11_chosen_11 : decode cX11_chosen 11 = .ok (.lconst 1, 1) := by decide +kernel
theorem dX11_chosen_12 : decode cX11_chosen 12 = .ok (.lcmp, 1) := by decide +kernel
theorem dX11_chosen_13 : decode cX11_chosen 13 = .ok (.ifCond .ne 7, 3) := by decide +kernel
theorem dX11_chosen_16 : decode cX11_chosen 16 = .ok (.iconst 1, 1) := by decide +kernel
theorem dX11_chosen_17 : decode cX11_chosen 17 = .ok (.goto 4, 3) := by decide +kernel
theorem dX11_chosen_20 : decode cX11_chosen 20 = .ok (.iconst 0, 1) := by decide +kernel
theorem dX11_chosen_21 : decode cX11_chosen 21 = .ok (.ireturn, 1) := by decide +kernel
theorem dX11_cut_0 : decode cX11_cut 0 = .ok (.iload_n 2, 1) := by decide +kernel
theorem dX11_cut_1 : decode cX11_cut 1 = .ok (.bipush 64, 2) := by decide +kernel
theorem dX11_cut_3 : decode cX11_cut 3 = .ok (.if_icmp .ne 7, 3) := by decide +kernel
theorem dX11_cut_6 : decode cX11_cut 6 = .ok (.lload_n 0, 1) := by decide +kernel
theorem dX11_cut_7 : decode cX11_cut 7 = .ok (.goto 10, 3) := by decide +kernel
theorem dX11_cut_10 : decode cX11_cut 10 = .ok (.lload_n 0, 1) := by decide +kernel
theorem dX11_cut_11 : decode cX11_cut 11 = .ok (.lconst 1, 1) := by decide +kernel
theorem dX11_cut_12 : decode cX11_cut 12 = .ok (.iload_n 2, 1) := by decide +kernel
theorem dX11_cut_13 : decode cX11_cut 13 = .ok (.lshl, 1) := by decide +kernel
theorem dX11_cut_14 : decode cX11_cut 14 = .ok (.lconst 1, 1) := by decide +kernel
theorem dX11_cut_15 : decode cX11_cut 15 = .ok (.lsub, 1) := by decide +kernel
theorem dX11_cut_16 : decode cX11_cut 16 = .ok (.land, 1) := by decide +kernel
theorem dX11_cut_17 : decode cX11_cut 17 = .ok (.lreturn, 1) := by decide +kernel
theorem dX11_signed_0 : decode cX11_signed 0 = .ok (.lload_n 0, 1) := by decide +kernel
theorem dX11_signed_1 : decode cX11_signed 1 = .ok (.bipush 64, 2) := by decide +kernel
theorem dX11_signed_3 : decode cX11_signed 3 = .ok (.iload_n 2, 1) := by decide +kernel
theorem dX11_signed_4 : decode cX11_signed 4 = .ok (.isub, 1) := by decide +kernel
theorem dX11_signed_5 : decode cX11_signed 5 = .ok (.lshl, 1) := by decide +kernel
theorem dX11_signed_6 : decode cX11_signed 6 = .ok (.bipush 64, 2) := by decide +kernel
theorem dX11_signed_8 : decode cX11_signed 8 = .ok (.iload_n 2, 1) := by decide +kernel
theorem dX11_signed_9 : decode cX11_signed 9 = .ok (.isub, 1) := by decide +kernel
theorem dX11_signed_10 : decode cX11_signed 10 = .ok (.lshr, 1) := by decide +kernel
theorem dX11_signed_11 : decode cX11_signed 11 = .ok (.lreturn, 1) := by decide +kernel
theorem dX11_get_0 : decode cX11_get 0 = .ok (.lconst 0, 1) := by decide +kernel
theorem dX11_get_1 : decode cX11_get 1 = .ok (.lstore 4, 2) := by decide +kernel
theorem dX11_get_3 : decode cX11_get 3 = .ok (.bipush 16, 2) := by decide +kernel
theorem dX11_get_5 : decode cX11_get 5 = .ok (.iload_n 1, 1) := by decide +kernel
theorem dX11_get_6 : decode cX11_get 6 = .ok (.imul, 1) := by decide +kernel
theorem dX11_get_7 : decode cX11_get 7 = .ok (.iload_n 3, 1) := by decide +kernel
theorem dX11_get_8 : decode cX11_get 8 = .ok (.iload_n 2, 1) := by decide +kernel
theorem dX11_get_9 : decode cX11_get 9 = .ok (.imul, 1) := by decide +kernel
theorem dX11_get_10 : decode cX11_get 10 = .ok (.bipush 8, 2) := by decide +kernel
theorem dX11_get_12 : decode cX11_get 12 = .ok (.idiv, 1) := by decide +kernel
theorem dX11_get_13 : decode cX11_get 13 = .ok (.iadd, 1) := by decide +kernel
theorem dX11_get_14 : decode cX11_get 14 = .ok (.istore 6, 2) := by decide +kernel
theorem dX11_get_16 : decode cX11_get 16 = .ok (.iload_n 2, 1) := by decide +kernel
theorem dX11_get_17 : decode cX11_get 17 = .ok (.bipush 8, 2) := by decide +kernel
theorem dX11_get_19 : decode cX11_get 19 = .ok (.idiv, 1) := by decide +kernel
theorem dX11_get_20 : decode cX11_get 20 = .ok (.iconst 1, 1) := by decide +kernel
theorem dX11_get_21 : decode cX11_get 21 = .ok (.isub, 1) := by decide +kernel
theorem dX11_get_22 : decode cX11_get 22 = .ok (.istore 7, 2) := by decide +kernel
theorem dX11_get_24 : decode cX11_get 24 = .ok (.iload 7, 2) := by decide +kernel
theorem dX11_get_26 : decode cX11_get 26 = .ok (.ifCond .lt 28, 3) := by decide +kernel
theorem dX11_get_29 : decode cX11_get 29 = .ok (.lload 4, 2) := by decide +kernel
theorem dX11_get_31 : decode cX11_get 31 = .ok (.bipush 8, 2) := by decide +kernel
theorem dX11_get_33 : decode cX11_get 33 = .ok (.lshl, 1) := by decide +kernel
theorem dX11_get_34 : decode cX11_get 34 = .ok (.aload_n 0, 1) := by decide +kernel
theorem dX11_get_35 : decode cX11_get 35 = .ok (.getfield 16, 3) := by decide +kernel
theorem dX11_get_38 : decode cX11_get 38 = .ok (.iload 6, 2) := by decide +kernel
theorem dX11_get_40 : decode cX11_get 40 = .ok (.iload 7, 2) := by decide +kernel
theorem dX11_get_42 : decode cX11_get 42 = .ok (.iadd, 1) := by decide +kernel
theorem dX11_get_43 : decode cX11_get 43 = .ok (.iaload, 1) := by decide +kernel
theorem dX11_get_44 : decode cX11_get 44 = .ok (.i2l, 1) := by decide +kernel
theorem dX11_get_45 : decode cX11_get 45 = .ok (.lor, 1) := by decide +kernel
theorem dX11_get_46 : decode cX11_get 46 = .ok (.lstore 4, 2) := by decide +kernel
theorem dX11_get_48 : decode cX11_get 48 = .ok (.iinc 7 (-1), 3) := by decide +kernel
theorem dX11_get_51 : decode cX11_get 51 = .ok (.goto (-27), 3) := by decide +kernel
theorem dX11_get_54 : decode cX11_get 54 = .ok (.lload 4, 2) := by decide +kernel
theorem dX11_get_56 : decode cX11_get 56 = .ok (.lreturn, 1) := by decide +kernel
theorem dX11_put_0 : decode cX11_put 0 = .ok (.bipush 16, 2) := by decide +kernel
theorem dX11_put_2 : decode cX11_put 2 = .ok (.iload_n 1, 1) := by decide +kernel
theorem dX11_put_3 : decode cX11_put 3 = .ok (.imul, 1) := by decide +kernel
theorem dX11_put_4 : decode cX11_put 4 = .ok (.iload_n 3, 1) := by decide +kernel
theorem dX11_put_5 : decode cX11_put 5 = .ok (.iload_n 2, 1) := by decide +kernel
theorem dX11_put_6 : decode cX11_put 6 = .ok (.imul, 1) := by decide +kernel
theorem dX11_put_7 : decode cX11_put 7 = .ok (.bipush 8, 2) := by decide +kernel
theorem dX11_put_9 : decode cX11_put 9 = .ok (.idiv, 1) := by decide +kernel
theorem dX11_put_10 : decode cX11_put 10 = .ok (.iadd, 1) := by decide +kernel
theorem dX11_put_11 : decode cX11_put 11 = .ok (.istore 6, 2) := by decide +kernel
theorem dX11_put_13 : decode cX11_put 13 = .ok (.iconst 0, 1) := by decide +kernel
theorem dX11_put_14 : decode cX11_put 14 = .ok (.istore 7, 2) := by decide +kernel
theorem dX11_put_16 : decode cX11_put 16 = .ok (.iload 7, 2) := by decide +kernel
theorem dX11_put_18 : decode cX11_put 18 = .ok (.iload_n 2, 1) := by decide +kernel
theorem dX11_put_19 : decode cX11_put 19 = .ok (.bipush 8, 2) := by decide +kernel
theorem dX11_put_21 : decode cX11_put 21 = .ok (.idiv, 1) := by decide +kernel
theorem dX11_put_22 : decode cX11_put 22 = .ok (.if_icmp .ge 32, 3) := by decide +kernel
theorem dX11_put_25 : decode cX11_put 25 = .ok (.aload_n 0, 1) := by decide +kernel
theorem dX11_put_26 : decode cX11_put 26 = .ok (.getfield 13, 3) := by decide +kernel
theorem dX11_put_29 : decode cX11_put 29 = .ok (.iload 6, 2) := by decide +kernel
theorem dX11_put_31 : decode cX11_put 31 = .ok (.iload 7, 2) := by decide +kernel
theorem dX11_put_33 : decode cX11_put 33 = .ok (.iadd, 1) := by decide +kernel
theorem dX11_put_34 : decode cX11_put 34 = .ok (.lload 4, 2) := by decide +kernel
theorem dX11_put_36 : decode cX11_put 36 = .ok (.bipush 8, 2) := by decide +kernel
theorem dX11_put_38 : decode cX11_put 38 = .ok (.iload 7, 2) := by decide +kernel
theorem dX11_put_40 : decode cX11_put 40 = .ok (.imul, 1) := by decide +kernel
theorem dX11_put_41 : decode cX11_put 41 = .ok (.lshr, 1) := by decide +kernel
theorem dX11_put_42 : decode cX11_put 42 = .ok (.l2i, 1) := by decide +kernel
theorem dX11_put_43 : decode cX11_put 43 = .ok (.sipush 255, 3) := by decide +kernel
theorem dX11_put_46 : decode cX11_put 46 = .ok (.iand, 1) := by decide +kernel
theorem dX11_put_47 : decode cX11_put 47 = .ok (.iastore, 1) := by decide +kernel
theorem dX11_put_48 : decode cX11_put 48 = .ok (.iinc 7 1, 3) := by decide +kernel
theorem dX11_put_51 : decode cX11_put 51 = .ok (.goto (-35), 3) := by decide +kernel
theorem dX11_put_54 : decode cX11_put 54 = .ok (.return_, 1) := by decide +kernel
theorem dX11_bit_0 : decode cX11_bit 0 = .ok (.aload_n 0, 1) := by decide +kernel
theorem dX11_bit_1 : decode cX11_bit 1 = .ok (.getfield 16, 3) := by decide +kernel
theorem dX11_bit_4 : decode cX11_bit 4 = .ok (.bipush 16, 2) := by decide +kernel
theorem dX11_bit_6 : decode cX11_bit 6 = .ok (.iload_n 1, 1) := by decide +kernel
theorem dX11_bit_7 : decode cX11_bit 7 = .ok (.imul, 1) := by decide +kernel
theorem dX11_bit_8 : decode cX11_bit 8 = .ok (.iload_n 2, 1) := by decide +kernel
theorem dX11_bit_9 : decode cX11_bit 9 = .ok (.bipush 8, 2) := by decide +kernel
theorem dX11_bit_11 : decode cX11_bit 11 = .ok (.idiv, 1) := by decide +kernel
theorem dX11_bit_12 : decode cX11_bit 12 = .ok (.iadd, 1) := by decide +kernel
theorem dX11_bit_13 : decode cX11_bit 13 = .ok (.iaload, 1) := by decide +kernel
theorem dX11_bit_14 : decode cX11_bit 14 = .ok (.iload_n 2, 1) := by decide +kernel
theorem dX11_bit_15 : decode cX11_bit 15 = .ok (.bipush 8, 2) := by decide +kernel
theorem dX11_bit_17 : decode cX11_bit 17 = .ok (.irem, 1) := by decide +kernel
theorem dX11_bit_18 : decode cX11_bit 18 = .ok (.ishr, 1) := by decide +kernel
theorem dX11_bit_19 : decode cX11_bit 19 = .ok (.iconst 1, 1) := by decide +kernel
theorem dX11_bit_20 : decode cX11_bit 20 = .ok (.iand, 1) := by decide +kernel
theorem dX11_bit_21 : decode cX11_bit 21 = .ok (.iconst 1, 1) := by decide +kernel
theorem dX11_bit_22 : decode cX11_bit 22 = .ok (.if_icmp .ne 7, 3) := by decide +kernel
theorem dX11_bit_25 : decode cX11_bit 25 = .ok (.iconst 1, 1) := by decide +kernel
theorem dX11_bit_26 : decode cX11_bit 26 = .ok (.goto 4, 3) := by decide +kernel
theorem dX11_bit_29 : decode cX11_bit 29 = .ok (.iconst 0, 1) := by decide +kernel
theorem dX11_bit_30 : decode cX11_bit 30 = .ok (.ireturn, 1) := by decide +kernel
theorem dX11_putBit_0 : decode cX11_putBit 0 = .ok (.bipush 16, 2) := by decide +kernel
theorem dX11_putBit_2 : decode cX11_putBit 2 = .ok (.iload_n 1, 1) := by decide +kernel
theorem dX11_putBit_3 : decode cX11_putBit 3 = .ok (.imul, 1) := by decide +kernel
theorem dX11_putBit_4 : decode cX11_putBit 4 = .ok (.iload_n 2, 1) := by decide +kernel
theorem dX11_putBit_5 : decode cX11_putBit 5 = .ok (.bipush 8, 2) := by decide +kernel
theorem dX11_putBit_7 : decode cX11_putBit 7 = .ok (.idiv, 1) := by decide +kernel
theorem dX11_putBit_8 : decode cX11_putBit 8 = .ok (.iadd, 1) := by decide +kernel
theorem dX11_putBit_9 : decode cX11_putBit 9 = .ok (.istore 4, 2) := by decide +kernel
theorem dX11_putBit_11 : decode cX11_putBit 11 = .ok (.aload_n 0, 1) := by decide +kernel
theorem dX11_putBit_12 : decode cX11_putBit 12 = .ok (.getfield 13, 3) := by decide +kernel
theorem dX11_putBit_15 : decode cX11_putBit 15 = .ok (.iload 4, 2) := by decide +kernel
theorem dX11_putBit_17 : decode cX11_putBit 17 = .ok (.aload_n 0, 1) := by decide +kernel
theorem dX11_putBit_18 : decode cX11_putBit 18 = .ok (.getfield 13, 3) := by decide +kernel
theorem dX11_putBit_21 : decode cX11_putBit 21 = .ok (.iload 4, 2) := by decide +kernel
theorem dX11_putBit_23 : decode cX11_putBit 23 = .ok (.iaload, 1) := by decide +kernel
theorem dX11_putBit_24 : decode cX11_putBit 24 = .ok (.iconst 1, 1) := by decide +kernel
theorem dX11_putBit_25 : decode cX11_putBit 25 = .ok (.iload_n 2, 1) := by decide +kernel
theorem dX11_putBit_26 : decode cX11_putBit 26 = .ok (.bipush 8, 2) := by decide +kernel
theorem dX11_putBit_28 : decode cX11_putBit 28 = .ok (.irem, 1) := by decide +kernel
theorem dX11_putBit_29 : decode cX11_putBit 29 = .ok (.ishl, 1) := by decide +kernel
theorem dX11_putBit_30 : decode cX11_putBit 30 = .ok (.iconst (-1), 1) := by decide +kernel
theorem dX11_putBit_31 : decode cX11_putBit 31 = .ok (.ixor, 1) := by decide +kernel
theorem dX11_putBit_32 : decode cX11_putBit 32 = .ok (.iand, 1) := by decide +kernel
theorem dX11_putBit_33 : decode cX11_putBit 33 = .ok (.iload_n 3, 1) := by decide +kernel
theorem dX11_putBit_34 : decode cX11_putBit 34 = .ok (.ifCond .eq 12, 3) := by decide +kernel
theorem dX11_putBit_37 : decode cX11_putBit 37 = .ok (.iconst 1, 1) := by decide +kernel
theorem dX11_putBit_38 : decode cX11_putBit 38 = .ok (.iload_n 2, 1) := by decide +kernel
theorem dX11_putBit_39 : decode cX11_putBit 39 = .ok (.bipush 8, 2) := by decide +kernel
theorem dX11_putBit_41 : decode cX11_putBit 41 = .ok (.irem, 1) := by decide +kernel
theorem dX11_putBit_42 : decode cX11_putBit 42 = .ok (.ishl, 1) := by decide +kernel
theorem dX11_putBit_43 : decode cX11_putBit 43 = .ok (.goto 4, 3) := by decide +kernel
theorem dX11_putBit_46 : decode cX11_putBit 46 = .ok (.iconst 0, 1) := by decide +kernel
theorem dX11_putBit_47 : decode cX11_putBit 47 = .ok (.ior, 1) := by decide +kernel
theorem dX11_putBit_48 : decode cX11_putBit 48 = .ok (.iastore, 1) := by decide +kernel
theorem dX11_putBit_49 : decode cX11_putBit 49 = .ok (.return_, 1) := by decide +kernel
theorem dX11_isActive_0 : decode cX11_isActive 0 = .ok (.aload_n 0, 1) := by decide +kernel
theorem dX11_isActive_1 : decode cX11_isActive 1 = .ok (.getfield 47, 3) := by decide +kernel
theorem dX11_isActive_4 : decode cX11_isActive 4 = .ok (.ifCond .ne 12, 3) := by decide +kernel
theorem dX11_isActive_7 : decode cX11_isActive 7 = .ok (.aload_n 0, 1) := by decide +kernel
theorem dX11_isActive_8 : decode cX11_isActive 8 = .ok (.iconst 0, 1) := by decide +kernel
theorem dX11_isActive_9 : decode cX11_isActive 9 = .ok (.iload_n 1, 1) := by decide +kernel
theorem dX11_isActive_10 : decode cX11_isActive 10 = .ok (.invokevirtual 51, 3) := by decide +kernel
theorem dX11_isActive_13 : decode cX11_isActive 13 = .ok (.ifCond .eq 7, 3) := by decide +kernel
theorem dX11_isActive_16 : decode cX11_isActive 16 = .ok (.iconst 1, 1) := by decide +kernel
theorem dX11_isActive_17 : decode cX11_isActive 17 = .ok (.goto 4, 3) := by decide +kernel
theorem dX11_isActive_20 : decode cX11_isActive 20 = .ok (.iconst 0, 1) := by decide +kernel
theorem dX11_isActive_21 : decode cX11_isActive 21 = .ok (.ireturn, 1) := by decide +kernel
theorem dX11_ones_0 : decode cX11_ones 0 = .ok (.ldc2_w 55, 3) := by decide +kernel
theorem dX11_ones_3 : decode cX11_ones 3 = .ok (.iload_n 0, 1) := by decide +kernel
theorem dX11_ones_4 : decode cX11_ones 4 = .ok (.invokestatic 57, 3) := by decide +kernel
theorem dX11_ones_7 : decode cX11_ones 7 = .ok (.lreturn, 1) := by decide +kernel
theorem dX11_open_0 : decode cX11_open 0 = .ok (.aload_n 0, 1) := by decide +kernel
theorem dX11_open_1 : decode cX11_open 1 = .ok (.iload_n 3, 1) := by decide +kernel
theorem dX11_open_2 : decode cX11_open 2 = .ok (.invokevirtual 61, 3) := by decide +kernel
theorem dX11_open_5 : decode cX11_open 5 = .ok (.ifCond .eq 14, 3) := by decide +kernel
theorem dX11_open_8 : decode cX11_open 8 = .ok (.aload_n 0, 1) := by decide +kernel
theorem dX11_open_9 : decode cX11_open 9 = .ok (.iload_n 1, 1) := by decide +kernel
theorem dX11_open_10 : decode cX11_open 10 = .ok (.iload_n 2, 1) := by decide +kernel
theorem dX11_open_11 : decode cX11_open 11 = .ok (.iload_n 3, 1) := by decide +kernel
theorem dX11_open_12 : decode cX11_open 12 = .ok (.iload_n 2, 1) := by decide +kernel
theorem dX11_open_13 : decode cX11_open 13 = .ok (.invokestatic 65, 3) := by decide +kernel
theorem dX11_open_16 : decode cX11_open 16 = .ok (.invokevirtual 69, 3) := by decide +kernel
theorem dX11_open_19 : decode cX11_open 19 = .ok (.return_, 1) := by decide +kernel
theorem dX11_openBit_0 : decode cX11_openBit 0 = .ok (.aload_n 0, 1) := by decide +kernel
theorem dX11_openBit_1 : decode cX11_openBit 1 = .ok (.iload_n 2, 1) := by decide +kernel
theorem dX11_openBit_2 : decode cX11_openBit 2 = .ok (.invokevirtual 61, 3) := by decide +kernel
theorem dX11_openBit_5 : decode cX11_openBit 5 = .ok (.ifCond .eq 10, 3) := by decide +kernel
theorem dX11_openBit_8 : decode cX11_openBit 8 = .ok (.aload_n 0, 1) := by decide +kernel
theorem dX11_openBit_9 : decode cX11_openBit 9 = .ok (.iload_n 1, 1) := by decide +kernel
theorem dX11_openBit_10 : decode cX11_openBit 10 = .ok (.iload_n 2, 1) := by decide +kernel
theorem dX11_openBit_11 : decode cX11_openBit 11 = .ok (.iconst 1, 1) := by decide +kernel
theorem dX11_openBit_12 : decode cX11_openBit 12 = .ok (.invokevirtual 73, 3) := by decide +kernel
theorem dX11_openBit_15 : decode cX11_openBit 15 = .ok (.return_, 1) := by decide +kernel
theorem dX11_registers_0 : decode cX11_registers 0 = .ok (.iload_n 0, 1) := by decide +kernel
theorem dX11_registers_1 : decode cX11_registers 1 = .ok (.bipush 8, 2) := by decide +kernel
theorem dX11_registers_3 : decode cX11_registers 3 = .ok (.if_icmp .ge 7, 3) := by decide +kernel
theorem dX11_registers_6 : decode cX11_registers 6 = .ok (.iconst 1, 1) := by decide +kernel
theorem dX11_registers_7 : decode cX11_registers 7 = .ok (.goto 7, 3) := by decide +kernel
theorem dX11_registers_10 : decode cX11_registers 10 = .ok (.iload_n 0, 1) := by decide +kernel
theorem dX11_registers_11 : decode cX11_registers 11 = .ok (.bipush 8, 2) := by decide +kernel
theorem dX11_registers_13 : decode cX11_registers 13 = .ok (.idiv, 1) := by decide +kernel
theorem dX11_registers_14 : decode cX11_registers 14 = .ok (.ireturn, 1) := by decide +kernel
theorem dX11_tail_0 : decode cX11_tail 0 = .ok (.aload_n 0, 1) := by decide +kernel
theorem dX11_tail_1 : decode cX11_tail 1 = .ok (.invokevirtual 77, 3) := by decide +kernel
theorem dX11_tail_4 : decode cX11_tail 4 = .ok (.ifCond .ne 4, 3) := by decide +kernel
theorem dX11_tail_7 : decode cX11_tail 7 = .ok (.return_, 1) := by decide +kernel
theorem dX11_tail_8 : decode cX11_tail 8 = .ok (.iload_n 3, 1) := by decide +kernel
theorem dX11_tail_9 : decode cX11_tail 9 = .ok (.invokestatic 81, 3) := by decide +kernel
theorem dX11_tail_12 : decode cX11_tail 12 = .ok (.sipush 128, 3) := by decide +kernel
theorem dX11_tail_15 : decode cX11_tail 15 = .ok (.imul, 1) := by decide +kernel
theorem dX11_tail_16 : decode cX11_tail 16 = .ok (.iload_n 2, 1) := by decide +kernel
theorem dX11_tail_17 : decode cX11_tail 17 = .ok (.idiv, 1) := by decide +kernel
theorem dX11_tail_18 : decode cX11_tail 18 = .ok (.istore 5, 2) := by decide +kernel
theorem dX11_tail_20 : decode cX11_tail 20 = .ok (.iload 4, 2) := by decide +kernel
theorem dX11_tail_22 : decode cX11_tail 22 = .ok (.istore 6, 2) := by decide +kernel
theorem dX11_tail_24 : decode cX11_tail 24 = .ok (.iload 6, 2) := by decide +kernel
theorem dX11_tail_26 : decode cX11_tail 26 = .ok (.iload 5, 2) := by decide +kernel
theorem dX11_tail_28 : decode cX11_tail 28 = .ok (.if_icmp .ge 17, 3) := by decide +kernel
theorem dX11_tail_31 : decode cX11_tail 31 = .ok (.aload_n 0, 1) := by decide +kernel
theorem dX11_tail_32 : decode cX11_tail 32 = .ok (.iload_n 1, 1) := by decide +kernel
theorem dX11_tail_33 : decode cX11_tail 33 = .ok (.iload_n 2, 1) := by decide +kernel
theorem dX11_tail_34 : decode cX11_tail 34 = .ok (.iload 6, 2) := by decide +kernel
theorem dX11_tail_36 : decode cX11_tail 36 = .ok (.invokevirtual 84, 3) := by decide +kernel
theorem dX11_tail_39 : decode cX11_tail 39 = .ok (.iinc 6 1, 3) := by decide +kernel
theorem dX11_tail_42 : decode cX11_tail 42 = .ok (.goto (-18), 3) := by decide +kernel
theorem dX11_tail_45 : decode cX11_tail 45 = .ok (.return_, 1) := by decide +kernel
theorem dX11_maskTail_0 : decode cX11_maskTail 0 = .ok (.aload_n 0, 1) := by decide +kernel
theorem dX11_maskTail_1 : decode cX11_maskTail 1 = .ok (.getfield 88, 3) := by decide +kernel
theorem dX11_maskTail_4 : decode cX11_maskTail 4 = .ok (.istore_n 2, 1) := by decide +kernel
theorem dX11_maskTail_5 : decode cX11_maskTail 5 = .ok (.iload_n 2, 1) := by decide +kernel
theorem dX11_maskTail_6 : decode cX11_maskTail 6 = .ok (.sipush 128, 3) := by decide +kernel
theorem dX11_maskTail_9 : decode cX11_maskTail 9 = .ok (.if_icmp .ge 15, 3) := by decide +kernel
theorem dX11_maskTail_12 : decode cX11_maskTail 12 = .ok (.aload_n 0, 1) := by decide +kernel
theorem dX11_maskTail_13 : decode cX11_maskTail 13 = .ok (.iload_n 1, 1) := by decide +kernel
theorem dX11_maskTail_14 : decode cX11_maskTail 14 = .ok (.iload_n 2, 1) := by decide +kernel
theorem dX11_maskTail_15 : decode cX11_maskTail 15 = .ok (.invokevirtual 91, 3) := by decide +kernel
theorem dX11_maskTail_18 : decode cX11_maskTail 18 = .ok (.iinc 2 1, 3) := by decide +kernel
theorem dX11_maskTail_21 : decode cX11_maskTail 21 = .ok (.goto (-16), 3) := by decide +kernel
theorem dX11_maskTail_24 : decode cX11_maskTail 24 = .ok (.return_, 1) := by decide +kernel
theorem dX11_emul_0 : decode cX11_emul 0 = .ok (.aload_n 0, 1) := by decide +kernel
theorem dX11_emul_1 : decode cX11_emul 1 = .ok (.getfield 95, 3) := by decide +kernel
theorem dX11_emul_4 : decode cX11_emul 4 = .ok (.iload_n 1, 1) := by decide +kernel
theorem dX11_emul_5 : decode cX11_emul 5 = .ok (.imul, 1) := by decide +kernel
theorem dX11_emul_6 : decode cX11_emul 6 = .ok (.aload_n 0, 1) := by decide +kernel
theorem dX11_emul_7 : decode cX11_emul 7 = .ok (.getfield 98, 3) := by decide +kernel
theorem dX11_emul_10 : decode cX11_emul 10 = .ok (.idiv, 1) := by decide +kernel
theorem dX11_emul_11 : decode cX11_emul 11 = .ok (.ireturn, 1) := by decide +kernel
theorem dX11_isWidth_0 : decode cX11_isWidth 0 = .ok (.iload_n 1, 1) := by decide +kernel
theorem dX11_isWidth_1 : decode cX11_isWidth 1 = .ok (.bipush 8, 2) := by decide +kernel
theorem dX11_isWidth_3 : decode cX11_isWidth 3 = .ok (.if_icmp .lt 13, 3) := by decide +kernel
theorem dX11_isWidth_6 : decode cX11_isWidth 6 = .ok (.iload_n 1, 1) := by decide +kernel
theorem dX11_isWidth_7 : decode cX11_isWidth 7 = .ok (.bipush 32, 2) := by decide +kernel
theorem dX11_isWidth_9 : decode cX11_isWidth 9 = .ok (.if_icmp .gt 7, 3) := by decide +kernel
theorem dX11_isWidth_12 : decode cX11_isWidth 12 = .ok (.iconst 1, 1) := by decide +kernel
theorem dX11_isWidth_13 : decode cX11_isWidth 13 = .ok (.goto 4, 3) := by decide +kernel
theorem dX11_isWidth_16 : decode cX11_isWidth 16 = .ok (.iconst 0, 1) := by decide +kernel
theorem dX11_isWidth_17 : decode cX11_isWidth 17 = .ok (.ireturn, 1) := by decide +kernel
theorem dX11_isGroup_0 : decode cX11_isGroup 0 = .ok (.aload_n 0, 1) := by decide +kernel
theorem dX11_isGroup_1 : decode cX11_isGroup 1 = .ok (.iload_n 2, 1) := by decide +kernel
theorem dX11_isGroup_2 : decode cX11_isGroup 2 = .ok (.invokevirtual 101, 3) := by decide +kernel
theorem dX11_isGroup_5 : decode cX11_isGroup 5 = .ok (.ifCond .ne 5, 3) := by decide +kernel
theorem dX11_isGroup_8 : decode cX11_isGroup 8 = .ok (.iconst 0, 1) := by decide +kernel
theorem dX11_isGroup_9 : decode cX11_isGroup 9 = .ok (.ireturn, 1) := by decide +kernel
theorem dX11_isGroup_10 : decode cX11_isGroup 10 = .ok (.aload_n 0, 1) := by decide +kernel
theorem dX11_isGroup_11 : decode cX11_isGroup 11 = .ok (.iload_n 2, 1) := by decide +kernel
theorem dX11_isGroup_12 : decode cX11_isGroup 12 = .ok (.invokevirtual 104, 3) := by decide +kernel
theorem dX11_isGroup_15 : decode cX11_isGroup 15 = .ok (.istore_n 3, 1) := by decide +kernel
theorem dX11_isGroup_16 : decode cX11_isGroup 16 = .ok (.iload_n 3, 1) := by decide +kernel
theorem dX11_isGroup_17 : decode cX11_isGroup 17 = .ok (.iconst 1, 1) := by decide +kernel
theorem dX11_isGroup_18 : decode cX11_isGroup 18 = .ok (.if_icmp .lt 36, 3) := by decide +kernel
theorem dX11_isGroup_21 : decode cX11_isGroup 21 = .ok (.iload_n 3, 1) := by decide +kernel
theorem dX11_isGroup_22 : decode cX11_isGroup 22 = .ok (.bipush 64, 2) := by decide +kernel
theorem dX11_isGroup_24 : decode cX11_isGroup 24 = .ok (.if_icmp .gt 30, 3) := by decide +kernel
theorem dX11_isGroup_27 : decode cX11_isGroup 27 = .ok (.aload_n 0, 1) := by decide +kernel
theorem dX11_isGroup_28 : decode cX11_isGroup 28 = .ok (.getfield 95, 3) := by decide +kernel
theorem dX11_isGroup_31 : decode cX11_isGroup 31 = .ok (.iload_n 2, 1) := by decide +kernel
theorem dX11_isGroup_32 : decode cX11_isGroup 32 = .ok (.imul, 1) := by decide +kernel
theorem dX11_isGroup_33 : decode cX11_isGroup 33 = .ok (.aload_n 0, 1) := by decide +kernel
theorem dX11_isGroup_34 : decode cX11_isGroup 34 = .ok (.getfield 98, 3) := by decide +kernel
theorem dX11_isGroup_37 : decode cX11_isGroup 37 = .ok (.irem, 1) := by decide +kernel
theorem dX11_isGroup_38 : decode cX11_isGroup 38 = .ok (.ifCond .ne 16, 3) := by decide +kernel
theorem dX11_isGroup_41 : decode cX11_isGroup 41 = .ok (.iload_n 1, 1) := by decide +kernel
theorem dX11_isGroup_42 : decode cX11_isGroup 42 = .ok (.iload_n 3, 1) := by decide +kernel
theorem dX11_isGroup_43 : decode cX11_isGroup 43 = .ok (.invokestatic 81, 3) := by decide +kernel
theorem dX11_isGroup_46 : decode cX11_isGroup 46 = .ok (.irem, 1) := by decide +kernel
theorem dX11_isGroup_47 : decode cX11_isGroup 47 = .ok (.ifCond .ne 7, 3) := by decide +kernel
theorem dX11_isGroup_50 : decode cX11_isGroup 50 = .ok (.iconst 1, 1) := by decide +kernel
theorem dX11_isGroup_51 : decode cX11_isGroup 51 = .ok (.goto 4, 3) := by decide +kernel
theorem dX11_isGroup_54 : decode cX11_isGroup 54 = .ok (.iconst 0, 1) := by decide +kernel
theorem dX11_isGroup_55 : decode cX11_isGroup 55 = .ok (.ireturn, 1) := by decide +kernel
theorem dX11_meet_0 : decode cX11_meet 0 = .ok (.iload_n 0, 1) := by decide +kernel
theorem dX11_meet_1 : decode cX11_meet 1 = .ok (.iload_n 2, 1) := by decide +kernel
theorem dX11_meet_2 : decode cX11_meet 2 = .ok (.iload_n 3, 1) := by decide +kernel
theorem dX11_meet_3 : decode cX11_meet 3 = .ok (.iadd, 1) := by decide +kernel
theorem dX11_meet_4 : decode cX11_meet 4 = .ok (.if_icmp .ge 14, 3) := by decide +kernel
theorem dX11_meet_7 : decode cX11_meet 7 = .ok (.iload_n 2, 1) := by decide +kernel
theorem dX11_meet_8 : decode cX11_meet 8 = .ok (.iload_n 0, 1) := by decide +kernel
theorem dX11_meet_9 : decode cX11_meet 9 = .ok (.iload_n 1, 1) := by decide +kernel
theorem dX11_meet_10 : decode cX11_meet 10 = .ok (.iadd, 1) := by decide +kernel
theorem dX11_meet_11 : decode cX11_meet 11 = .ok (.if_icmp .ge 7, 3) := by decide +kernel
theorem dX11_meet_14 : decode cX11_meet 14 = .ok (.iconst 1, 1) := by decide +kernel
theorem dX11_meet_15 : decode cX11_meet 15 = .ok (.goto 4, 3) := by decide +kernel
theorem dX11_meet_18 : decode cX11_meet 18 = .ok (.iconst 0, 1) := by decide +kernel
theorem dX11_meet_19 : decode cX11_meet 19 = .ok (.ireturn, 1) := by decide +kernel
theorem dX11_may_0 : decode cX11_may 0 = .ok (.iload_n 2, 1) := by decide +kernel
theorem dX11_may_1 : decode cX11_may 1 = .ok (.invokestatic 81, 3) := by decide +kernel
theorem dX11_may_4 : decode cX11_may 4 = .ok (.istore 6, 2) := by decide +kernel
theorem dX11_may_6 : decode cX11_may 6 = .ok (.iload 5, 2) := by decide +kernel
theorem dX11_may_8 : decode cX11_may 8 = .ok (.invokestatic 81, 3) := by decide +kernel
theorem dX11_may_11 : decode cX11_may 11 = .ok (.istore 7, 2) := by decide +kernel
theorem dX11_may_13 : decode cX11_may 13 = .ok (.iload_n 0, 1) := by decide +kernel
theorem dX11_may_14 : decode cX11_may 14 = .ok (.iload 6, 2) := by decide +kernel
theorem dX11_may_16 : decode cX11_may 16 = .ok (.iload_n 3, 1) := by decide +kernel
theorem dX11_may_17 : decode cX11_may 17 = .ok (.iload 7, 2) := by decide +kernel
theorem dX11_may_19 : decode cX11_may 19 = .ok (.invokestatic 107, 3) := by decide +kernel
theorem dX11_may_22 : decode cX11_may 22 = .ok (.ifCond .eq 9, 3) := by decide +kernel
theorem dX11_may_25 : decode cX11_may 25 = .ok (.iload_n 1, 1) := by decide +kernel
theorem dX11_may_26 : decode cX11_may 26 = .ok (.iload 4, 2) := by decide +kernel
theorem dX11_may_28 : decode cX11_may 28 = .ok (.if_icmp .ne 5, 3) := by decide +kernel
theorem dX11_may_31 : decode cX11_may 31 = .ok (.iconst 1, 1) := by decide +kernel
theorem dX11_may_32 : decode cX11_may 32 = .ok (.ireturn, 1) := by decide +kernel
theorem dX11_may_33 : decode cX11_may 33 = .ok (.iload_n 1, 1) := by decide +kernel
theorem dX11_may_34 : decode cX11_may 34 = .ok (.iload 4, 2) := by decide +kernel
theorem dX11_may_36 : decode cX11_may 36 = .ok (.if_icmp .ge 14, 3) := by decide +kernel
theorem dX11_may_39 : decode cX11_may 39 = .ok (.iload_n 0, 1) := by decide +kernel
theorem dX11_may_40 : decode cX11_may 40 = .ok (.iload_n 3, 1) := by decide +kernel
theorem dX11_may_41 : decode cX11_may 41 = .ok (.if_icmp .ne 7, 3) := by decide +kernel
theorem dX11_may_44 : decode cX11_may 44 = .ok (.iconst 1, 1) := by decide +kernel
theorem dX11_may_45 : decode cX11_may 45 = .ok (.goto 4, 3) := by decide +kernel
theorem dX11_may_48 : decode cX11_may 48 = .ok (.iconst 0, 1) := by decide +kernel
theorem dX11_may_49 : decode cX11_may 49 = .ok (.ireturn, 1) := by decide +kernel
theorem dX11_may_50 : decode cX11_may 50 = .ok (.iload 5, 2) := by decide +kernel
theorem dX11_may_52 : decode cX11_may 52 = .ok (.bipush 8, 2) := by decide +kernel
theorem dX11_may_54 : decode cX11_may 54 = .ok (.if_icmp .lt 18, 3) := by decide +kernel
theorem dX11_may_57 : decode cX11_may 57 = .ok (.iload_n 3, 1) := by decide +kernel
theorem dX11_may_58 : decode cX11_may 58 = .ok (.iload 7, 2) := by decide +kernel
theorem dX11_may_60 : decode cX11_may 60 = .ok (.iadd, 1) := by decide +kernel
theorem dX11_may_61 : decode cX11_may 61 = .ok (.iload_n 0, 1) := by decide +kernel
theorem dX11_may_62 : decode cX11_may 62 = .ok (.iload 6, 2) := by decide +kernel
theorem dX11_may_64 : decode cX11_may 64 = .ok (.iadd, 1) := by decide +kernel
theorem dX11_may_65 : decode cX11_may 65 = .ok (.if_icmp .ne 7, 3) := by decide +kernel
theorem dX11_may_68 : decode cX11_may 68 = .ok (.iconst 1, 1) := by decide +kernel
theorem dX11_may_69 : decode cX11_may 69 = .ok (.goto 4, 3) := by decide +kernel
theorem dX11_may_72 : decode cX11_may 72 = .ok (.iconst 0, 1) := by decide +kernel
theorem dX11_may_73 : decode cX11_may 73 = .ok (.ireturn, 1) := by decide +kernel
theorem dX11_mayMask_0 : decode cX11_mayMask 0 = .ok (.aload_n 0, 1) := by decide +kernel
theorem dX11_mayMask_1 : decode cX11_mayMask 1 = .ok (.getfield 47, 3) := by decide +kernel
theorem dX11_mayMask_4 : decode cX11_mayMask 4 = .ok (.ifCond .ne 7, 3) := by decide +kernel
theorem dX11_mayMask_7 : decode cX11_mayMask 7 = .ok (.iload_n 1, 1) := by decide +kernel
theorem dX11_mayMask_8 : decode cX11_mayMask 8 = .ok (.ifCond .eq 7, 3) := by decide +kernel
theorem dX11_mayMask_11 : decode cX11_mayMask 11 = .ok (.iconst 1, 1) := by decide +kernel
theorem dX11_mayMask_12 : decode cX11_mayMask 12 = .ok (.goto 4, 3) := by decide +kernel
theorem dX11_mayMask_15 : decode cX11_mayMask 15 = .ok (.iconst 0, 1) := by decide +kernel
theorem dX11_mayMask_16 : decode cX11_mayMask 16 = .ok (.ireturn, 1) := by decide +kernel
theorem dX11_mayBe_0 : decode cX11_mayBe 0 = .ok (.aload_n 0, 1) := by decide +kernel
theorem dX11_mayBe_1 : decode cX11_mayBe 1 = .ok (.aload_n 0, 1) := by decide +kernel
theorem dX11_mayBe_2 : decode cX11_mayBe 2 = .ok (.getfield 111, 3) := by decide +kernel
theorem dX11_mayBe_5 : decode cX11_mayBe 5 = .ok (.iload_n 1, 1) := by decide +kernel
theorem dX11_mayBe_6 : decode cX11_mayBe 6 = .ok (.invokevirtual 114, 3) := by decide +kernel
theorem dX11_mayBe_9 : decode cX11_mayBe 9 = .ok (.ifCond .eq 14, 3) := by decide +kernel
theorem dX11_mayBe_12 : decode cX11_mayBe 12 = .ok (.aload_n 0, 1) := by decide +kernel
theorem dX11_mayBe_13 : decode cX11_mayBe 13 = .ok (.aload_n 0, 1) := by decide +kernel
theorem dX11_mayBe_14 : decode cX11_mayBe 14 = .ok (.getfield 111, 3) := by decide +kernel
theorem dX11_mayBe_17 : decode cX11_mayBe 17 = .ok (.invokevirtual 117, 3) := by decide +kernel
theorem dX11_mayBe_20 : decode cX11_mayBe 20 = .ok (.ifCond .ne 5, 3) := by decide +kernel
theorem dX11_mayBe_23 : decode cX11_mayBe 23 = .ok (.iconst 0, 1) := by decide +kernel
theorem dX11_mayBe_24 : decode cX11_mayBe 24 = .ok (.ireturn, 1) := by decide +kernel
theorem dX11_mayBe_25 : decode cX11_mayBe 25 = .ok (.iload_n 2, 1) := by decide +kernel
theorem dX11_mayBe_26 : decode cX11_mayBe 26 = .ok (.ifCond .lt 35, 3) := by decide +kernel
theorem dX11_mayBe_29 : decode cX11_mayBe 29 = .ok (.aload_n 0, 1) := by decide +kernel
theorem dX11_mayBe_30 : decode cX11_mayBe 30 = .ok (.iload_n 2, 1) := by decide +kernel
theorem dX11_mayBe_31 : decode cX11_mayBe 31 = .ok (.iload_n 3, 1) := by decide +kernel
theorem dX11_mayBe_32 : decode cX11_mayBe 32 = .ok (.invokevirtual 114, 3) := by decide +kernel
theorem dX11_mayBe_35 : decode cX11_mayBe 35 = .ok (.ifCond .eq 30, 3) := by decide +kernel
theorem dX11_mayBe_38 : decode cX11_mayBe 38 = .ok (.aload_n 0, 1) := by decide +kernel
theorem dX11_mayBe_39 : decode cX11_mayBe 39 = .ok (.getfield 111, 3) := by decide +kernel
theorem dX11_mayBe_42 : decode cX11_mayBe 42 = .ok (.iload_n 1, 1) := by decide +kernel
theorem dX11_mayBe_43 : decode cX11_mayBe 43 = .ok (.aload_n 0, 1) := by decide +kernel
theorem dX11_mayBe_44 : decode cX11_mayBe 44 = .ok (.iload_n 1, 1) := by decide +kernel
theorem dX11_mayBe_45 : decode cX11_mayBe 45 = .ok (.invokevirtual 104, 3) := by decide +kernel
theorem dX11_mayBe_48 : decode cX11_mayBe 48 = .ok (.iload_n 2, 1) := by decide +kernel
theorem dX11_mayBe_49 : decode cX11_mayBe 49 = .ok (.iload_n 3, 1) := by decide +kernel
theorem dX11_mayBe_50 : decode cX11_mayBe 50 = .ok (.aload_n 0, 1) := by decide +kernel
theorem dX11_mayBe_51 : decode cX11_mayBe 51 = .ok (.iload_n 3, 1) := by decide +kernel
theorem dX11_mayBe_52 : decode cX11_mayBe 52 = .ok (.invokevirtual 104, 3) := by decide +kernel
theorem dX11_mayBe_55 : decode cX11_mayBe 55 = .ok (.invokestatic 120, 3) := by decide +kernel
theorem dX11_mayBe_58 : decode cX11_mayBe 58 = .ok (.ifCond .eq 7, 3) := by decide +kernel
theorem dX11_mayBe_61 : decode cX11_mayBe 61 = .ok (.iconst 1, 1) := by decide +kernel
theorem dX11_mayBe_62 : decode cX11_mayBe 62 = .ok (.goto 4, 3) := by decide +kernel
theorem dX11_mayBe_65 : decode cX11_mayBe 65 = .ok (.iconst 0, 1) := by decide +kernel
theorem dX11_mayBe_66 : decode cX11_mayBe 66 = .ok (.istore 6, 2) := by decide +kernel
theorem dX11_mayBe_68 : decode cX11_mayBe 68 = .ok (.iload 6, 2) := by decide +kernel
theorem dX11_mayBe_70 : decode cX11_mayBe 70 = .ok (.ifCond .eq 49, 3) := by decide +kernel
theorem dX11_mayBe_73 : decode cX11_mayBe 73 = .ok (.iload 4, 2) := by decide +kernel
theorem dX11_mayBe_75 : decode cX11_mayBe 75 = .ok (.ifCond .lt 40, 3) := by decide +kernel
theorem dX11_mayBe_78 : decode cX11_mayBe 78 = .ok (.aload_n 0, 1) := by decide +kernel
theorem dX11_mayBe_79 : decode cX11_mayBe 79 = .ok (.iload 4, 2) := by decide +kernel
theorem dX11_mayBe_81 : decode cX11_mayBe 81 = .ok (.iload 5, 2) := by decide +kernel
theorem dX11_mayBe_83 : decode cX11_mayBe 83 = .ok (.invokevirtual 114, 3) := by decide +kernel
theorem dX11_mayBe_86 : decode cX11_mayBe 86 = .ok (.ifCond .eq 33, 3) := by decide +kernel
theorem dX11_mayBe_89 : decode cX11_mayBe 89 = .ok (.aload_n 0, 1) := by decide +kernel
theorem dX11_mayBe_90 : decode cX11_mayBe 90 = .ok (.getfield 111, 3) := by decide +kernel
theorem dX11_mayBe_93 : decode cX11_mayBe 93 = .ok (.iload_n 1, 1) := by decide +kernel
theorem dX11_mayBe_94 : decode cX11_mayBe 94 = .ok (.aload_n 0, 1) := by decide +kernel
theorem dX11_mayBe_95 : decode cX11_mayBe 95 = .ok (.iload_n 1, 1) := by decide +kernel
theorem dX11_mayBe_96 : decode cX11_mayBe 96 = .ok (.invokevirtual 104, 3) := by decide +kernel
theorem dX11_mayBe_99 : decode cX11_mayBe 99 = .ok (.iload 4, 2) := by decide +kernel
theorem dX11_mayBe_101 : decode cX11_mayBe 101 = .ok (.iload 5, 2) := by decide +kernel
theorem dX11_mayBe_103 : decode cX11_mayBe 103 = .ok (.aload_n 0, 1) := by decide +kernel
theorem dX11_mayBe_104 : decode cX11_mayBe 104 = .ok (.iload 5, 2) := by decide +kernel
theorem dX11_mayBe_106 : decode cX11_mayBe 106 = .ok (.invokevirtual 104, 3) := by decide +kernel
theorem dX11_mayBe_109 : decode cX11_mayBe 109 = .ok (.invokestatic 120, 3) := by decide +kernel
theorem dX11_mayBe_112 : decode cX11_mayBe 112 = .ok (.ifCond .eq 7, 3) := by decide +kernel
theorem dX11_mayBe_115 : decode cX11_mayBe 115 = .ok (.iconst 1, 1) := by decide +kernel
theorem dX11_mayBe_116 : decode cX11_mayBe 116 = .ok (.goto 4, 3) := by decide +kernel
theorem dX11_mayBe_119 : decode cX11_mayBe 119 = .ok (.iconst 0, 1) := by decide +kernel
theorem dX11_mayBe_120 : decode cX11_mayBe 120 = .ok (.ireturn, 1) := by decide +kernel
theorem dX11_mayBeMask_0 : decode cX11_mayBeMask 0 = .ok (.aload_n 0, 1) := by decide +kernel
theorem dX11_mayBeMask_1 : decode cX11_mayBeMask 1 = .ok (.iload_n 1, 1) := by decide +kernel
theorem dX11_mayBeMask_2 : decode cX11_mayBeMask 2 = .ok (.iload_n 2, 1) := by decide +kernel
theorem dX11_mayBeMask_3 : decode cX11_mayBeMask 3 = .ok (.invokevirtual 114, 3) := by decide +kernel
theorem dX11_mayBeMask_6 : decode cX11_mayBeMask 6 = .ok (.ifCond .eq 27, 3) := by decide +kernel
theorem dX11_mayBeMask_9 : decode cX11_mayBeMask 9 = .ok (.aload_n 0, 1) := by decide +kernel
theorem dX11_mayBeMask_10 : decode cX11_mayBeMask 10 = .ok (.getfield 111, 3) := by decide +kernel
theorem dX11_mayBeMask_13 : decode cX11_mayBeMask 13 = .ok (.iconst 1, 1) := by decide +kernel
theorem dX11_mayBeMask_14 : decode cX11_mayBeMask 14 = .ok (.bipush 8, 2) := by decide +kernel
theorem dX11_mayBeMask_16 : decode cX11_mayBeMask 16 = .ok (.iload_n 1, 1) := by decide +kernel
theorem dX11_mayBeMask_17 : decode cX11_mayBeMask 17 = .ok (.iload_n 2, 1) := by decide +kernel
theorem dX11_mayBeMask_18 : decode cX11_mayBeMask 18 = .ok (.aload_n 0, 1) := by decide +kernel
theorem dX11_mayBeMask_19 : decode cX11_mayBeMask 19 = .ok (.iload_n 2, 1) := by decide +kernel
theorem dX11_mayBeMask_20 : decode cX11_mayBeMask 20 = .ok (.invokevirtual 104, 3) := by decide +kernel
theorem dX11_mayBeMask_23 : decode cX11_mayBeMask 23 = .ok (.invokestatic 120, 3) := by decide +kernel
theorem dX11_mayBeMask_26 : decode cX11_mayBeMask 26 = .ok (.ifCond .eq 7, 3) := by decide +kernel
theorem dX11_mayBeMask_29 : decode cX11_mayBeMask 29 = .ok (.iconst 1, 1) := by decide +kernel
theorem dX11_mayBeMask_30 : decode cX11_mayBeMask 30 = .ok (.goto 4, 3) := by decide +kernel
theorem dX11_mayBeMask_33 : decode cX11_mayBeMask 33 = .ok (.iconst 0, 1) := by decide +kernel
theorem dX11_mayBeMask_34 : decode cX11_mayBeMask 34 = .ok (.istore 5, 2) := by decide +kernel
theorem dX11_mayBeMask_36 : decode cX11_mayBeMask 36 = .ok (.iload 5, 2) := by decide +kernel
theorem dX11_mayBeMask_38 : decode cX11_mayBeMask 38 = .ok (.ifCond .eq 43, 3) := by decide +kernel
theorem dX11_mayBeMask_41 : decode cX11_mayBeMask 41 = .ok (.iload_n 3, 1) := by decide +kernel
theorem dX11_mayBeMask_42 : decode cX11_mayBeMask 42 = .ok (.ifCond .lt 35, 3) := by decide +kernel
theorem dX11_mayBeMask_45 : decode cX11_mayBeMask 45 = .ok (.aload_n 0, 1) := by decide +kernel
theorem dX11_mayBeMask_46 : decode cX11_mayBeMask 46 = .ok (.iload_n 3, 1) := by decide +kernel
theorem dX11_mayBeMask_47 : decode cX11_mayBeMask 47 = .ok (.iload 4, 2) := by decide +kernel
theorem dX11_mayBeMask_49 : decode cX11_mayBeMask 49 = .ok (.invokevirtual 114, 3) := by decide +kernel
theorem dX11_mayBeMask_52 : decode cX11_mayBeMask 52 = .ok (.ifCond .eq 29, 3) := by decide +kernel
theorem dX11_mayBeMask_55 : decode cX11_mayBeMask 55 = .ok (.aload_n 0, 1) := by decide +kernel
theorem dX11_mayBeMask_56 : decode cX11_mayBeMask 56 = .ok (.getfield 111, 3) := by decide +kernel
theorem dX11_mayBeMask_59 : decode cX11_mayBeMask 59 = .ok (.iconst 1, 1) := by decide +kernel
theorem dX11_mayBeMask_60 : decode cX11_mayBeMask 60 = .ok (.bipush 8, 2) := by decide +kernel
theorem dX11_mayBeMask_62 : decode cX11_mayBeMask 62 = .ok (.iload_n 3, 1) := by decide +kernel
theorem dX11_mayBeMask_63 : decode cX11_mayBeMask 63 = .ok (.iload 4, 2) := by decide +kernel
theorem dX11_mayBeMask_65 : decode cX11_mayBeMask 65 = .ok (.aload_n 0, 1) := by decide +kernel
theorem dX11_mayBeMask_66 : decode cX11_mayBeMask 66 = .ok (.iload 4, 2) := by decide +kernel
theorem dX11_mayBeMask_68 : decode cX11_mayBeMask 68 = .ok (.invokevirtual 104, 3) := by decide +kernel
theorem dX11_mayBeMask_71 : decode cX11_mayBeMask 71 = .ok (.invokestatic 120, 3) := by decide +kernel
theorem dX11_mayBeMask_74 : decode cX11_mayBeMask 74 = .ok (.ifCond .eq 7, 3) := by decide +kernel
theorem dX11_mayBeMask_77 : decode cX11_mayBeMask 77 = .ok (.iconst 1, 1) := by decide +kernel
theorem dX11_mayBeMask_78 : decode cX11_mayBeMask 78 = .ok (.goto 4, 3) := by decide +kernel
theorem dX11_mayBeMask_81 : decode cX11_mayBeMask 81 = .ok (.iconst 0, 1) := by decide +kernel
theorem dX11_mayBeMask_82 : decode cX11_mayBeMask 82 = .ok (.ireturn, 1) := by decide +kernel
theorem dX11_isV_0 : decode cX11_isV 0 = .ok (.aload_n 0, 1) := by decide +kernel
theorem dX11_isV_1 : decode cX11_isV 1 = .ok (.getfield 124, 3) := by decide +kernel
theorem dX11_isV_4 : decode cX11_isV 4 = .ok (.ifCond .eq 11, 3) := by decide +kernel
theorem dX11_isV_7 : decode cX11_isV 7 = .ok (.aload_n 0, 1) := by decide +kernel
theorem dX11_isV_8 : decode cX11_isV 8 = .ok (.getfield 124, 3) := by decide +kernel
theorem dX11_isV_11 : decode cX11_isV 11 = .ok (.iconst 2, 1) := by decide +kernel
theorem dX11_isV_12 : decode cX11_isV 12 = .ok (.if_icmp .ne 7, 3) := by decide +kernel
theorem dX11_isV_15 : decode cX11_isV 15 = .ok (.iconst 1, 1) := by decide +kernel
theorem dX11_isV_16 : decode cX11_isV 16 = .ok (.goto 4, 3) := by decide +kernel
theorem dX11_isV_19 : decode cX11_isV 19 = .ok (.iconst 0, 1) := by decide +kernel
theorem dX11_isV_20 : decode cX11_isV 20 = .ok (.ireturn, 1) := by decide +kernel
theorem dX11_isX_0 : decode cX11_isX 0 = .ok (.aload_n 0, 1) := by decide +kernel
theorem dX11_isX_1 : decode cX11_isX 1 = .ok (.getfield 124, 3) := by decide +kernel
theorem dX11_isX_4 : decode cX11_isX 4 = .ok (.iconst 4, 1) := by decide +kernel
theorem dX11_isX_5 : decode cX11_isX 5 = .ok (.if_icmp .eq 12, 3) := by decide +kernel
theorem dX11_isX_8 : decode cX11_isX 8 = .ok (.aload_n 0, 1) := by decide +kernel
theorem dX11_isX_9 : decode cX11_isX 9 = .ok (.getfield 124, 3) := by decide +kernel
theorem dX11_isX_12 : decode cX11_isX 12 = .ok (.bipush 6, 2) := by decide +kernel
theorem dX11_isX_14 : decode cX11_isX 14 = .ok (.if_icmp .ne 7, 3) := by decide +kernel
theorem dX11_isX_17 : decode cX11_isX 17 = .ok (.iconst 1, 1) := by decide +kernel
theorem dX11_isX_18 : decode cX11_isX 18 = .ok (.goto 4, 3) := by decide +kernel
theorem dX11_isX_21 : decode cX11_isX 21 = .ok (.iconst 0, 1) := by decide +kernel
theorem dX11_isX_22 : decode cX11_isX 22 = .ok (.ireturn, 1) := by decide +kernel
theorem dX11_isI_0 : decode cX11_isI 0 = .ok (.aload_n 0, 1) := by decide +kernel
theorem dX11_isI_1 : decode cX11_isI 1 = .ok (.getfield 124, 3) := by decide +kernel
theorem dX11_isI_4 : decode cX11_isI 4 = .ok (.iconst 3, 1) := by decide +kernel
theorem dX11_isI_5 : decode cX11_isI 5 = .ok (.if_icmp .ne 7, 3) := by decide +kernel
theorem dX11_isI_8 : decode cX11_isI 8 = .ok (.iconst 1, 1) := by decide +kernel
theorem dX11_isI_9 : decode cX11_isI 9 = .ok (.goto 4, 3) := by decide +kernel
theorem dX11_isI_12 : decode cX11_isI 12 = .ok (.iconst 0, 1) := by decide +kernel
theorem dX11_isI_13 : decode cX11_isI 13 = .ok (.ireturn, 1) := by decide +kernel
theorem dX11_second_0 : decode cX11_second 0 = .ok (.aload_n 0, 1) := by decide +kernel
theorem dX11_second_1 : decode cX11_second 1 = .ok (.invokevirtual 127, 3) := by decide +kernel
theorem dX11_second_4 : decode cX11_second 4 = .ok (.ifCond .eq 10, 3) := by decide +kernel
theorem dX11_second_7 : decode cX11_second 7 = .ok (.aload_n 0, 1) := by decide +kernel
theorem dX11_second_8 : decode cX11_second 8 = .ok (.getfield 130, 3) := by decide +kernel
theorem dX11_second_11 : decode cX11_second 11 = .ok (.goto 4, 3) := by decide +kernel
theorem dX11_second_14 : decode cX11_second 14 = .ok (.iconst (-1), 1) := by decide +kernel
theorem dX11_second_15 : decode cX11_second 15 = .ok (.ireturn, 1) := by decide +kernel
theorem dX11_immediate_0 : decode cX11_immediate 0 = .ok (.aload_n 0, 1) := by decide +kernel
theorem dX11_immediate_1 : decode cX11_immediate 1 = .ok (.getfield 130, 3) := by decide +kernel
theorem dX11_immediate_4 : decode cX11_immediate 4 = .ok (.bipush 27, 2) := by decide +kernel
theorem dX11_immediate_6 : decode cX11_immediate 6 = .ok (.ishl, 1) := by decide +kernel
theorem dX11_immediate_7 : decode cX11_immediate 7 = .ok (.bipush 27, 2) := by decide +kernel
theorem dX11_immediate_9 : decode cX11_immediate 9 = .ok (.ishr, 1) := by decide +kernel
theorem dX11_immediate_10 : decode cX11_immediate 10 = .ok (.i2l, 1) := by decide +kernel
theorem dX11_immediate_11 : decode cX11_immediate 11 = .ok (.lreturn, 1) := by decide +kernel
theorem dX11_second__0 : decode cX11_second_ 0 = .ok (.aload_n 0, 1) := by decide +kernel
theorem dX11_second__1 : decode cX11_second_ 1 = .ok (.invokevirtual 127, 3) := by decide +kernel
theorem dX11_second__4 : decode cX11_second_ 4 = .ok (.ifCond .eq 16, 3) := by decide +kernel
theorem dX11_second__7 : decode cX11_second_ 7 = .ok (.aload_n 0, 1) := by decide +kernel
theorem dX11_second__8 : decode cX11_second_ 8 = .ok (.aload_n 0, 1) := by decide +kernel
theorem dX11_second__9 : decode cX11_second_ 9 = .ok (.getfield 130, 3) := by decide +kernel
theorem dX11_second__12 : decode cX11_second_ 12 = .ok (.iload_n 1, 1) := by decide +kernel
theorem dX11_second__13 : decode cX11_second_ 13 = .ok (.iload_n 2, 1) := by decide +kernel
theorem dX11_second__14 : decode cX11_second_ 14 = .ok (.invokevirtual 133, 3) := by decide +kernel
theorem dX11_second__17 : decode cX11_second_ 17 = .ok (.goto 31, 3) := by decide +kernel
theorem dX11_second__20 : decode cX11_second_ 20 = .ok (.aload_n 0, 1) := by decide +kernel
theorem dX11_second__21 : decode cX11_second_ 21 = .ok (.invokevirtual 137, 3) := by decide +kernel
theorem dX11_second__24 : decode cX11_second_ 24 = .ok (.ifCond .eq 16, 3) := by decide +kernel
theorem dX11_second__27 : decode cX11_second_ 27 = .ok (.aload_n 0, 1) := by decide +kernel
theorem dX11_second__28 : decode cX11_second_ 28 = .ok (.getfield 7, 3) := by decide +kernel
theorem dX11_second__31 : decode cX11_second_ 31 = .ok (.aload_n 0, 1) := by decide +kernel
theorem dX11_second__32 : decode cX11_second_ 32 = .ok (.getfield 130, 3) := by decide +kernel
theorem dX11_second__35 : decode cX11_second_ 35 = .ok (.iaload, 1) := by decide +kernel
theorem dX11_second__36 : decode cX11_second_ 36 = .ok (.i2l, 1) := by decide +kernel
theorem dX11_second__37 : decode cX11_second_ 37 = .ok (.goto 7, 3) := by decide +kernel
theorem dX11_second__40 : decode cX11_second_ 40 = .ok (.aload_n 0, 1) := by decide +kernel
theorem dX11_second__41 : decode cX11_second_ 41 = .ok (.invokevirtual 140, 3) := by decide +kernel
theorem dX11_second__44 : decode cX11_second_ 44 = .ok (.iload_n 1, 1) := by decide +kernel
theorem dX11_second__45 : decode cX11_second_ 45 = .ok (.invokestatic 57, 3) := by decide +kernel
theorem dX11_second__48 : decode cX11_second_ 48 = .ok (.lreturn, 1) := by decide +kernel
theorem dX11_shift_0 : decode cX11_shift 0 = .ok (.aload_n 0, 1) := by decide +kernel
theorem dX11_shift_1 : decode cX11_shift 1 = .ok (.invokevirtual 127, 3) := by decide +kernel
theorem dX11_shift_4 : decode cX11_shift 4 = .ok (.ifCond .eq 16, 3) := by decide +kernel
theorem dX11_shift_7 : decode cX11_shift 7 = .ok (.aload_n 0, 1) := by decide +kernel
theorem dX11_shift_8 : decode cX11_shift 8 = .ok (.aload_n 0, 1) := by decide +kernel
theorem dX11_shift_9 : decode cX11_shift 9 = .ok (.getfield 130, 3) := by decide +kernel
theorem dX11_shift_12 : decode cX11_shift 12 = .ok (.iload_n 1, 1) := by decide +kernel
theorem dX11_shift_13 : decode cX11_shift 13 = .ok (.iload_n 3, 1) := by decide +kernel
theorem dX11_shift_14 : decode cX11_shift 14 = .ok (.invokevirtual 133, 3) := by decide +kernel
theorem dX11_shift_17 : decode cX11_shift 17 = .ok (.goto 28, 3) := by decide +kernel
theorem dX11_shift_20 : decode cX11_shift 20 = .ok (.aload_n 0, 1) := by decide +kernel
theorem dX11_shift_21 : decode cX11_shift 21 = .ok (.invokevirtual 137, 3) := by decide +kernel
theorem dX11_shift_24 : decode cX11_shift 24 = .ok (.ifCond .eq 16, 3) := by decide +kernel
theorem dX11_shift_27 : decode cX11_shift 27 = .ok (.aload_n 0, 1) := by decide +kernel
theorem dX11_shift_28 : decode cX11_shift 28 = .ok (.getfield 7, 3) := by decide +kernel
theorem dX11_shift_31 : decode cX11_shift 31 = .ok (.aload_n 0, 1) := by decide +kernel
theorem dX11_shift_32 : decode cX11_shift 32 = .ok (.getfield 130, 3) := by decide +kernel
theorem dX11_shift_35 : decode cX11_shift 35 = .ok (.iaload, 1) := by decide +kernel
theorem dX11_shift_36 : decode cX11_shift 36 = .ok (.i2l, 1) := by decide +kernel
theorem dX11_shift_37 : decode cX11_shift 37 = .ok (.goto 8, 3) := by decide +kernel
theorem dX11_shift_40 : decode cX11_shift 40 = .ok (.aload_n 0, 1) := by decide +kernel
theorem dX11_shift_41 : decode cX11_shift 41 = .ok (.getfield 130, 3) := by decide +kernel
theorem dX11_shift_44 : decode cX11_shift 44 = .ok (.i2l, 1) := by decide +kernel
theorem dX11_shift_45 : decode cX11_shift 45 = .ok (.lstore 4, 2) := by decide +kernel
theorem dX11_shift_47 : decode cX11_shift 47 = .ok (.lload 4, 2) := by decide +kernel
theorem dX11_shift_49 : decode cX11_shift 49 = .ok (.iload_n 2, 1) := by decide +kernel
theorem dX11_shift_50 : decode cX11_shift 50 = .ok (.iconst 1, 1) := by decide +kernel
theorem dX11_shift_51 : decode cX11_shift 51 = .ok (.isub, 1) := by decide +kernel
theorem dX11_shift_52 : decode cX11_shift 52 = .ok (.i2l, 1) := by decide +kernel
theorem dX11_shift_53 : decode cX11_shift 53 = .ok (.land, 1) := by decide +kernel
theorem dX11_shift_54 : decode cX11_shift 54 = .ok (.l2i, 1) := by decide +kernel
theorem dX11_shift_55 : decode cX11_shift 55 = .ok (.ireturn, 1) := by decide +kernel
theorem dX11_step_0 : decode cX11_step 0 = .ok (.aload_n 0, 1) := by decide +kernel
theorem dX11_step_1 : decode cX11_step 1 = .ok (.iconst 0, 1) := by decide +kernel
theorem dX11_step_2 : decode cX11_step 2 = .ok (.putfield 33, 3) := by decide +kernel
theorem dX11_step_5 : decode cX11_step 5 = .ok (.aload_n 0, 1) := by decide +kernel
theorem dX11_step_6 : decode cX11_step 6 = .ok (.iload_n 1, 1) := by decide +kernel
theorem dX11_step_7 : decode cX11_step 7 = .ok (.putfield 144, 3) := by decide +kernel
theorem dX11_step_10 : decode cX11_step 10 = .ok (.aload_n 0, 1) := by decide +kernel
theorem dX11_step_11 : decode cX11_step 11 = .ok (.aload_n 0, 1) := by decide +kernel
theorem dX11_step_12 : decode cX11_step 12 = .ok (.getfield 144, 3) := by decide +kernel
theorem dX11_step_15 : decode cX11_step 15 = .ok (.bipush 7, 2) := by decide +kernel
theorem dX11_step_17 : decode cX11_step 17 = .ok (.ishr, 1) := by decide +kernel
theorem dX11_step_18 : decode cX11_step 18 = .ok (.bipush 31, 2) := by decide +kernel
theorem dX11_step_20 : decode cX11_step 20 = .ok (.iand, 1) := by decide +kernel
theorem dX11_step_21 : decode cX11_step 21 = .ok (.putfield 111, 3) := by decide +kernel
theorem dX11_step_24 : decode cX11_step 24 = .ok (.aload_n 0, 1) := by decide +kernel
theorem dX11_step_25 : decode cX11_step 25 = .ok (.aload_n 0, 1) := by decide +kernel
theorem dX11_step_26 : decode cX11_step 26 = .ok (.getfield 144, 3) := by decide +kernel
theorem dX11_step_29 : decode cX11_step 29 = .ok (.bipush 12, 2) := by decide +kernel
theorem dX11_step_31 : decode cX11_step 31 = .ok (.ishr, 1) := by decide +kernel
theorem dX11_step_32 : decode cX11_step 32 = .ok (.bipush 7, 2) := by decide +kernel
theorem dX11_step_34 : decode cX11_step 34 = .ok (.iand, 1) := by decide +kernel
theorem dX11_step_35 : decode cX11_step 35 = .ok (.putfield 124, 3) := by decide +kernel
theorem dX11_step_38 : decode cX11_step 38 = .ok (.aload_n 0, 1) := by decide +kernel
theorem dX11_step_39 : decode cX11_step 39 = .ok (.aload_n 0, 1) := by decide +kernel
theorem dX11_step_40 : decode cX11_step 40 = .ok (.getfield 144, 3) := by decide +kernel
theorem dX11_step_43 : decode cX11_step 43 = .ok (.bipush 15, 2) := by decide +kernel
theorem dX11_step_45 : decode cX11_step 45 = .ok (.ishr, 1) := by decide +kernel
theorem dX11_step_46 : decode cX11_step 46 = .ok (.bipush 31, 2) := by decide +kernel
theorem dX11_step_48 : decode cX11_step 48 = .ok (.iand, 1) := by decide +kernel
theorem dX11_step_49 : decode cX11_step 49 = .ok (.putfield 130, 3) := by decide +kernel
theorem dX11_step_52 : decode cX11_step 52 = .ok (.aload_n 0, 1) := by decide +kernel
theorem dX11_step_53 : decode cX11_step 53 = .ok (.aload_n 0, 1) := by decide +kernel
theorem dX11_step_54 : decode cX11_step 54 = .ok (.getfield 144, 3) := by decide +kernel
theorem dX11_step_57 : decode cX11_step 57 = .ok (.bipush 20, 2) := by decide +kernel
theorem dX11_step_59 : decode cX11_step 59 = .ok (.ishr, 1) := by decide +kernel
theorem dX11_step_60 : decode cX11_step 60 = .ok (.bipush 31, 2) := by decide +kernel
theorem dX11_step_62 : decode cX11_step 62 = .ok (.iand, 1) := by decide +kernel
theorem dX11_step_63 : decode cX11_step 63 = .ok (.putfield 147, 3) := by decide +kernel
theorem dX11_step_66 : decode cX11_step 66 = .ok (.aload_n 0, 1) := by decide +kernel
theorem dX11_step_67 : decode cX11_step 67 = .ok (.aload_n 0, 1) := by decide +kernel
theorem dX11_step_68 : decode cX11_step 68 = .ok (.getfield 144, 3) := by decide +kernel
theorem dX11_step_71 : decode cX11_step 71 = .ok (.bipush 25, 2) := by decide +kernel
theorem dX11_step_73 : decode cX11_step 73 = .ok (.ishr, 1) := by decide +kernel
theorem dX11_step_74 : decode cX11_step 74 = .ok (.iconst 1, 1) := by decide +kernel
theorem dX11_step_75 : decode cX11_step 75 = .ok (.iand, 1) := by decide +kernel
theorem dX11_step_76 : decode cX11_step 76 = .ok (.iconst 1, 1) := by decide +kernel
theorem dX11_step_77 : decode cX11_step 77 = .ok (.if_icmp .ne 7, 3) := by decide +kernel
theorem dX11_step_80 : decode cX11_step 80 = .ok (.iconst 1, 1) := by decide +kernel
theorem dX11_step_81 : decode cX11_step 81 = .ok (.goto 4, 3) := by decide +kernel
theorem dX11_step_84 : decode cX11_step 84 = .ok (.iconst 0, 1) := by decide +kernel
theorem dX11_step_85 : decode cX11_step 85 = .ok (.putfield 47, 3) := by decide +kernel
theorem dX11_step_88 : decode cX11_step 88 = .ok (.aload_n 0, 1) := by decide +kernel
theorem dX11_step_89 : decode cX11_step 89 = .ok (.aload_n 0, 1) := by decide +kernel
theorem dX11_step_90 : decode cX11_step 90 = .ok (.getfield 144, 3) := by decide +kernel
theorem dX11_step_93 : decode cX11_step 93 = .ok (.bipush 26, 2) := by decide +kernel
theorem dX11_step_95 : decode cX11_step 95 = .ok (.iushr, 1) := by decide +kernel
theorem dX11_step_96 : decode cX11_step 96 = .ok (.putfield 150, 3) := by decide +kernel
theorem dX11_step_99 : decode cX11_step 99 = .ok (.aload_n 0, 1) := by decide +kernel
theorem dX11_step_100 : decode cX11_step 100 = .ok (.aload_n 0, 1) := by decide +kernel
theorem dX11_step_101 : decode cX11_step 101 = .ok (.invokevirtual 153, 3) := by decide +kernel
theorem dX11_step_104 : decode cX11_step 104 = .ok (.ifCond .eq 8, 3) := by decide +kernel
theorem dX11_step_107 : decode cX11_step 107 = .ok (.bipush 8, 2) := by decide +kernel
theorem dX11_step_109 : decode cX11_step 109 = .ok (.goto 10, 3) := by decide +kernel
theorem dX11_step_112 : decode cX11_step 112 = .ok (.aload_n 0, 1) := by decide +kernel
theorem dX11_step_113 : decode cX11_step 113 = .ok (.getfield 29, 3) := by decide +kernel
theorem dX11_step_116 : decode cX11_step 116 = .ok (.invokestatic 36, 3) := by decide +kernel
theorem dX11_step_119 : decode cX11_step 119 = .ok (.putfield 98, 3) := by decide +kernel
theorem dX11_step_122 : decode cX11_step 122 = .ok (.aload_n 0, 1) := by decide +kernel
theorem dX11_step_123 : decode cX11_step 123 = .ok (.aload_n 0, 1) := by decide +kernel
theorem dX11_step_124 : decode cX11_step 124 = .ok (.invokevirtual 153, 3) := by decide +kernel
theorem dX11_step_127 : decode cX11_step 127 = .ok (.ifCond .eq 8, 3) := by decide +kernel
theorem dX11_step_130 : decode cX11_step 130 = .ok (.bipush 8, 2) := by decide +kernel
theorem dX11_step_132 : decode cX11_step 132 = .ok (.goto 10, 3) := by decide +kernel
theorem dX11_step_135 : decode cX11_step 135 = .ok (.aload_n 0, 1) := by decide +kernel
theorem dX11_step_136 : decode cX11_step 136 = .ok (.getfield 29, 3) := by decide +kernel
theorem dX11_step_139 : decode cX11_step 139 = .ok (.invokestatic 40, 3) := by decide +kernel
theorem dX11_step_142 : decode cX11_step 142 = .ok (.putfield 95, 3) := by decide +kernel
theorem dX11_step_145 : decode cX11_step 145 = .ok (.iconst 0, 1) := by decide +kernel
theorem dX11_step_146 : decode cX11_step 146 = .ok (.istore_n 2, 1) := by decide +kernel
theorem dX11_step_147 : decode cX11_step 147 = .ok (.iload_n 2, 1) := by decide +kernel
theorem dX11_step_148 : decode cX11_step 148 = .ok (.sipush 512, 3) := by decide +kernel
theorem dX11_step_151 : decode cX11_step 151 = .ok (.if_icmp .ge 21, 3) := by decide +kernel
theorem dX11_step_154 : decode cX11_step 154 = .ok (.aload_n 0, 1) := by decide +kernel
theorem dX11_step_155 : decode cX11_step 155 = .ok (.getfield 16, 3) := by decide +kernel
theorem dX11_step_158 : decode cX11_step 158 = .ok (.iload_n 2, 1) := by decide +kernel
theorem dX11_step_159 : decode cX11_step 159 = .ok (.aload_n 0, 1) := by decide +kernel
theorem dX11_step_160 : decode cX11_step 160 = .ok (.getfield 13, 3) := by decide +kernel
theorem dX11_step_163 : decode cX11_step 163 = .ok (.iload_n 2, 1) := by decide +kernel
theorem dX11_step_164 : decode cX11_step 164 = .ok (.iaload, 1) := by decide +kernel
theorem dX11_step_165 : decode cX11_step 165 = .ok (.iastore, 1) := by decide +kernel
theorem dX11_step_166 : decode cX11_step 166 = .ok (.iinc 2 1, 3) := by decide +kernel
theorem dX11_step_169 : decode cX11_step 169 = .ok (.goto (-22), 3) := by decide +kernel
theorem dX11_step_172 : decode cX11_step 172 = .ok (.iconst 1, 1) := by decide +kernel
theorem dX11_step_173 : decode cX11_step 173 = .ok (.istore_n 2, 1) := by decide +kernel
theorem dX11_step_174 : decode cX11_step 174 = .ok (.aload_n 0, 1) := by decide +kernel
theorem dX11_step_175 : decode cX11_step 175 = .ok (.getfield 144, 3) := by decide +kernel
theorem dX11_step_178 : decode cX11_step 178 = .ok (.bipush 127, 2) := by decide +kernel
theorem dX11_step_180 : decode cX11_step 180 = .ok (.iand, 1) := by decide +kernel
theorem dX11_step_181 : decode cX11_step 181 = .ok (.lookupswitch 96 #[(7, 78), (39, 87), (87, 35)], 35) := by decide +kernel
theorem dX11_step_216 : decode cX11_step 216 = .ok (.aload_n 0, 1) := by decide +kernel
theorem dX11_step_217 : decode cX11_step 217 = .ok (.getfield 124, 3) := by decide +kernel
theorem dX11_step_220 : decode cX11_step 220 = .ok (.bipush 7, 2) := by decide +kernel
theorem dX11_step_222 : decode cX11_step 222 = .ok (.if_icmp .ne 10, 3) := by decide +kernel
theorem dX11_step_225 : decode cX11_step 225 = .ok (.aload_n 0, 1) := by decide +kernel
theorem dX11_step_226 : decode cX11_step 226 = .ok (.invokevirtual 156, 3) := by decide +kernel
theorem dX11_step_229 : decode cX11_step 229 = .ok (.goto 26, 3) := by decide +kernel
theorem dX11_step_232 : decode cX11_step 232 = .ok (.aload_n 0, 1) := by decide +kernel
theorem dX11_step_233 : decode cX11_step 233 = .ok (.invokevirtual 153, 3) := by decide +kernel
theorem dX11_step_236 : decode cX11_step 236 = .ok (.ifCond .eq 7, 3) := by decide +kernel
theorem dX11_step_239 : decode cX11_step 239 = .ok (.iconst 1, 1) := by decide +kernel
theorem dX11_step_240 : decode cX11_step 240 = .ok (.goto 15, 3) := by decide +kernel
theorem dX11_step_243 : decode cX11_step 243 = .ok (.aload_n 0, 1) := by decide +kernel
theorem dX11_step_244 : decode cX11_step 244 = .ok (.invokevirtual 160, 3) := by decide +kernel
theorem dX11_step_247 : decode cX11_step 247 = .ok (.ifCond .eq 7, 3) := by decide +kernel
theorem dX11_step_250 : decode cX11_step 250 = .ok (.iconst 0, 1) := by decide +kernel
theorem dX11_step_251 : decode cX11_step 251 = .ok (.goto 4, 3) := by decide +kernel
theorem dX11_step_254 : decode cX11_step 254 = .ok (.iconst 1, 1) := by decide +kernel
theorem dX11_step_255 : decode cX11_step 255 = .ok (.istore_n 2, 1) := by decide +kernel
theorem dX11_step_256 : decode cX11_step 256 = .ok (.goto 21, 3) := by decide +kernel
theorem dX11_step_259 : decode cX11_step 259 = .ok (.aload_n 0, 1) := by decide +kernel
theorem dX11_step_260 : decode cX11_step 260 = .ok (.iconst 1, 1) := by decide +kernel
theorem dX11_step_261 : decode cX11_step 261 = .ok (.invokevirtual 163, 3) := by decide +kernel
theorem dX11_step_264 : decode cX11_step 264 = .ok (.istore_n 2, 1) := by decide +kernel
theorem dX11_step_265 : decode cX11_step 265 = .ok (.goto 12, 3) := by decide +kernel
theorem dX11_step_268 : decode cX11_step 268 = .ok (.aload_n 0, 1) := by decide +kernel
theorem dX11_step_269 : decode cX11_step 269 = .ok (.iconst 0, 1) := by decide +kernel
theorem dX11_step_270 : decode cX11_step 270 = .ok (.invokevirtual 163, 3) := by decide +kernel
theorem dX11_step_273 : decode cX11_step 273 = .ok (.istore_n 2, 1) := by decide +kernel
theorem dX11_step_274 : decode cX11_step 274 = .ok (.goto 3, 3) := by decide +kernel
theorem dX11_step_277 : decode cX11_step 277 = .ok (.iload_n 2, 1) := by decide +kernel
theorem dX11_step_278 : decode cX11_step 278 = .ok (.ifCond .ne 13, 3) := by decide +kernel
theorem dX11_step_281 : decode cX11_step 281 = .ok (.aload_n 0, 1) := by decide +kernel
theorem dX11_step_282 : decode cX11_step 282 = .ok (.dup, 1) := by decide +kernel
theorem dX11_step_283 : decode cX11_step 283 = .ok (.getfield 167, 3) := by decide +kernel
theorem dX11_step_286 : decode cX11_step 286 = .ok (.iconst 1, 1) := by decide +kernel
theorem dX11_step_287 : decode cX11_step 287 = .ok (.iadd, 1) := by decide +kernel
theorem dX11_step_288 : decode cX11_step 288 = .ok (.putfield 167, 3) := by decide +kernel
theorem dX11_step_291 : decode cX11_step 291 = .ok (.iload_n 2, 1) := by decide +kernel
theorem dX11_step_292 : decode cX11_step 292 = .ok (.iconst 1, 1) := by decide +kernel
theorem dX11_step_293 : decode cX11_step 293 = .ok (.if_icmp .ne 13, 3) := by decide +kernel
theorem dX11_step_296 : decode cX11_step 296 = .ok (.aload_n 0, 1) := by decide +kernel
theorem dX11_step_297 : decode cX11_step 297 = .ok (.dup, 1) := by decide +kernel
theorem dX11_step_298 : decode cX11_step 298 = .ok (.getfield 170, 3) := by decide +kernel
theorem dX11_step_301 : decode cX11_step 301 = .ok (.iconst 1, 1) := by decide +kernel
theorem dX11_step_302 : decode cX11_step 302 = .ok (.iadd, 1) := by decide +kernel
theorem dX11_step_303 : decode cX11_step 303 = .ok (.putfield 170, 3) := by decide +kernel
theorem dX11_step_306 : decode cX11_step 306 = .ok (.iload_n 2, 1) := by decide +kernel
theorem dX11_step_307 : decode cX11_step 307 = .ok (.iconst 2, 1) := by decide +kernel
theorem dX11_step_308 : decode cX11_step 308 = .ok (.if_icmp .ne 13, 3) := by decide +kernel
theorem dX11_step_311 : decode cX11_step 311 = .ok (.aload_n 0, 1) := by decide +kernel
theorem dX11_step_312 : decode cX11_step 312 = .ok (.dup, 1) := by decide +kernel
theorem dX11_step_313 : decode cX11_step 313 = .ok (.getfield 173, 3) := by decide +kernel
theorem dX11_step_316 : decode cX11_step 316 = .ok (.iconst 1, 1) := by decide +kernel
theorem dX11_step_317 : decode cX11_step 317 = .ok (.iadd, 1) := by decide +kernel
