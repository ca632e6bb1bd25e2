theorem dX11_multiplies_136 : decode cX11_multiplies 136 = .ok (.invokestatic 206, 3) := by decide +kernel
theorem dX11_multiplies_139 : decode cX11_multiplies 139 = .ok (.lstore 8, 2) := by decide +kernel
theorem dX11_multiplies_141 : decode cX11_multiplies 141 = .ok (.aload_n 0, 1) := by decide +kernel
theorem dX11_multiplies_142 : decode cX11_multiplies 142 = .ok (.aload_n 0, 1) := by decide +kernel
theorem dX11_multiplies_143 : decode cX11_multiplies 143 = .ok (.getfield 111, 3) := by decide +kernel
theorem dX11_multiplies_146 : decode cX11_multiplies 146 = .ok (.iload 4, 2) := by decide +kernel
theorem dX11_multiplies_148 : decode cX11_multiplies 148 = .ok (.iload 5, 2) := by decide +kernel
theorem dX11_multiplies_150 : decode cX11_multiplies 150 = .ok (.lload 6, 2) := by decide +kernel
theorem dX11_multiplies_152 : decode cX11_multiplies 152 = .ok (.lload 8, 2) := by decide +kernel
theorem dX11_multiplies_154 : decode cX11_multiplies 154 = .ok (.lmul, 1) := by decide +kernel
theorem dX11_multiplies_155 : decode cX11_multiplies 155 = .ok (.iload_n 3, 1) := by decide +kernel
theorem dX11_multiplies_156 : decode cX11_multiplies 156 = .ok (.ifCond .eq 18, 3) := by decide +kernel
theorem dX11_multiplies_159 : decode cX11_multiplies 159 = .ok (.aload_n 0, 1) := by decide +kernel
theorem dX11_multiplies_160 : decode cX11_multiplies 160 = .ok (.aload_n 0, 1) := by decide +kernel
theorem dX11_multiplies_161 : decode cX11_multiplies 161 = .ok (.getfield 111, 3) := by decide +kernel
theorem dX11_multiplies_164 : decode cX11_multiplies 164 = .ok (.iload 4, 2) := by decide +kernel
theorem dX11_multiplies_166 : decode cX11_multiplies 166 = .ok (.iload 5, 2) := by decide +kernel
theorem dX11_multiplies_168 : decode cX11_multiplies 168 = .ok (.invokevirtual 133, 3) := by decide +kernel
theorem dX11_multiplies_171 : decode cX11_multiplies 171 = .ok (.goto 4, 3) := by decide +kernel
theorem dX11_multiplies_174 : decode cX11_multiplies 174 = .ok (.lconst 0, 1) := by decide +kernel
theorem dX11_multiplies_175 : decode cX11_multiplies 175 = .ok (.ladd, 1) := by decide +kernel
theorem dX11_multiplies_176 : decode cX11_multiplies 176 = .ok (.invokevirtual 69, 3) := by decide +kernel
theorem dX11_multiplies_179 : decode cX11_multiplies 179 = .ok (.iinc 5 1, 3) := by decide +kernel
theorem dX11_multiplies_182 : decode cX11_multiplies 182 = .ok (.goto (-132), 3) := by decide +kernel
theorem dX11_multiplies_185 : decode cX11_multiplies 185 = .ok (.aload_n 0, 1) := by decide +kernel
theorem dX11_multiplies_186 : decode cX11_multiplies 186 = .ok (.aload_n 0, 1) := by decide +kernel
theorem dX11_multiplies_187 : decode cX11_multiplies 187 = .ok (.getfield 111, 3) := by decide +kernel
theorem dX11_multiplies_190 : decode cX11_multiplies 190 = .ok (.iload 4, 2) := by decide +kernel
theorem dX11_multiplies_192 : decode cX11_multiplies 192 = .ok (.iconst 2, 1) := by decide +kernel
theorem dX11_multiplies_193 : decode cX11_multiplies 193 = .ok (.aload_n 0, 1) := by decide +kernel
theorem dX11_multiplies_194 : decode cX11_multiplies 194 = .ok (.getfield 95, 3) := by decide +kernel
theorem dX11_multiplies_197 : decode cX11_multiplies 197 = .ok (.imul, 1) := by decide +kernel
theorem dX11_multiplies_198 : decode cX11_multiplies 198 = .ok (.aload_n 0, 1) := by decide +kernel
theorem dX11_multiplies_199 : decode cX11_multiplies 199 = .ok (.getfield 88, 3) := by decide +kernel
theorem dX11_multiplies_202 : decode cX11_multiplies 202 = .ok (.invokevirtual 261, 3) := by decide +kernel
theorem dX11_multiplies_205 : decode cX11_multiplies 205 = .ok (.iconst 1, 1) := by decide +kernel
theorem dX11_multiplies_206 : decode cX11_multiplies 206 = .ok (.ireturn, 1) := by decide +kernel
theorem dX11_extends1_0 : decode cX11_extends1 0 = .ok (.aload_n 0, 1) := by decide +kernel
theorem dX11_extends1_1 : decode cX11_extends1 1 = .ok (.getfield 130, 3) := by decide +kernel
theorem dX11_extends1_4 : decode cX11_extends1 4 = .ok (.iconst 4, 1) := by decide +kernel
theorem dX11_extends1_5 : decode cX11_extends1 5 = .ok (.if_icmp .eq 11, 3) := by decide +kernel
theorem dX11_extends1_8 : decode cX11_extends1 8 = .ok (.aload_n 0, 1) := by decide +kernel
theorem dX11_extends1_9 : decode cX11_extends1 9 = .ok (.getfield 130, 3) := by decide +kernel
theorem dX11_extends1_12 : decode cX11_extends1 12 = .ok (.iconst 5, 1) := by decide +kernel
theorem dX11_extends1_13 : decode cX11_extends1 13 = .ok (.if_icmp .ne 7, 3) := by decide +kernel
theorem dX11_extends1_16 : decode cX11_extends1 16 = .ok (.iconst 4, 1) := by decide +kernel
theorem dX11_extends1_17 : decode cX11_extends1 17 = .ok (.goto 26, 3) := by decide +kernel
theorem dX11_extends1_20 : decode cX11_extends1 20 = .ok (.aload_n 0, 1) := by decide +kernel
theorem dX11_extends1_21 : decode cX11_extends1 21 = .ok (.getfield 130, 3) := by decide +kernel
theorem dX11_extends1_24 : decode cX11_extends1 24 = .ok (.bipush 6, 2) := by decide +kernel
theorem dX11_extends1_26 : decode cX11_extends1 26 = .ok (.if_icmp .eq 12, 3) := by decide +kernel
theorem dX11_extends1_29 : decode cX11_extends1 29 = .ok (.aload_n 0, 1) := by decide +kernel
theorem dX11_extends1_30 : decode cX11_extends1 30 = .ok (.getfield 130, 3) := by decide +kernel
theorem dX11_extends1_33 : decode cX11_extends1 33 = .ok (.bipush 7, 2) := by decide +kernel
theorem dX11_extends1_35 : decode cX11_extends1 35 = .ok (.if_icmp .ne 7, 3) := by decide +kernel
theorem dX11_extends1_38 : decode cX11_extends1 38 = .ok (.iconst 2, 1) := by decide +kernel
theorem dX11_extends1_39 : decode cX11_extends1 39 = .ok (.goto 4, 3) := by decide +kernel
theorem dX11_extends1_42 : decode cX11_extends1 42 = .ok (.iconst 0, 1) := by decide +kernel
theorem dX11_extends1_43 : decode cX11_extends1 43 = .ok (.istore_n 1, 1) := by decide +kernel
theorem dX11_extends1_44 : decode cX11_extends1 44 = .ok (.iload_n 1, 1) := by decide +kernel
theorem dX11_extends1_45 : decode cX11_extends1 45 = .ok (.ifCond .eq 29, 3) := by decide +kernel
theorem dX11_extends1_48 : decode cX11_extends1 48 = .ok (.aload_n 0, 1) := by decide +kernel
theorem dX11_extends1_49 : decode cX11_extends1 49 = .ok (.aload_n 0, 1) := by decide +kernel
theorem dX11_extends1_50 : decode cX11_extends1 50 = .ok (.getfield 98, 3) := by decide +kernel
theorem dX11_extends1_53 : decode cX11_extends1 53 = .ok (.aload_n 0, 1) := by decide +kernel
theorem dX11_extends1_54 : decode cX11_extends1 54 = .ok (.getfield 147, 3) := by decide +kernel
theorem dX11_extends1_57 : decode cX11_extends1 57 = .ok (.aload_n 0, 1) := by decide +kernel
theorem dX11_extends1_58 : decode cX11_extends1 58 = .ok (.getfield 98, 3) := by decide +kernel
theorem dX11_extends1_61 : decode cX11_extends1 61 = .ok (.iload_n 1, 1) := by decide +kernel
theorem dX11_extends1_62 : decode cX11_extends1 62 = .ok (.idiv, 1) := by decide +kernel
theorem dX11_extends1_63 : decode cX11_extends1 63 = .ok (.iconst (-1), 1) := by decide +kernel
theorem dX11_extends1_64 : decode cX11_extends1 64 = .ok (.aload_n 0, 1) := by decide +kernel
theorem dX11_extends1_65 : decode cX11_extends1 65 = .ok (.getfield 98, 3) := by decide +kernel
theorem dX11_extends1_68 : decode cX11_extends1 68 = .ok (.invokevirtual 237, 3) := by decide +kernel
theorem dX11_extends1_71 : decode cX11_extends1 71 = .ok (.ifCond .ne 5, 3) := by decide +kernel
theorem dX11_extends1_74 : decode cX11_extends1 74 = .ok (.iconst 0, 1) := by decide +kernel
theorem dX11_extends1_75 : decode cX11_extends1 75 = .ok (.ireturn, 1) := by decide +kernel
theorem dX11_extends1_76 : decode cX11_extends1 76 = .ok (.aload_n 0, 1) := by decide +kernel
theorem dX11_extends1_77 : decode cX11_extends1 77 = .ok (.invokevirtual 241, 3) := by decide +kernel
theorem dX11_extends1_80 : decode cX11_extends1 80 = .ok (.ifCond .ne 5, 3) := by decide +kernel
theorem dX11_extends1_83 : decode cX11_extends1 83 = .ok (.iconst 1, 1) := by decide +kernel
theorem dX11_extends1_84 : decode cX11_extends1 84 = .ok (.ireturn, 1) := by decide +kernel
theorem dX11_extends1_85 : decode cX11_extends1 85 = .ok (.aload_n 0, 1) := by decide +kernel
theorem dX11_extends1_86 : decode cX11_extends1 86 = .ok (.getfield 176, 3) := by decide +kernel
theorem dX11_extends1_89 : decode cX11_extends1 89 = .ok (.istore_n 2, 1) := by decide +kernel
theorem dX11_extends1_90 : decode cX11_extends1 90 = .ok (.iload_n 2, 1) := by decide +kernel
theorem dX11_extends1_91 : decode cX11_extends1 91 = .ok (.aload_n 0, 1) := by decide +kernel
theorem dX11_extends1_92 : decode cX11_extends1 92 = .ok (.getfield 88, 3) := by decide +kernel
theorem dX11_extends1_95 : decode cX11_extends1 95 = .ok (.if_icmp .ge 86, 3) := by decide +kernel
theorem dX11_extends1_98 : decode cX11_extends1 98 = .ok (.aload_n 0, 1) := by decide +kernel
theorem dX11_extends1_99 : decode cX11_extends1 99 = .ok (.iload_n 2, 1) := by decide +kernel
theorem dX11_extends1_100 : decode cX11_extends1 100 = .ok (.invokevirtual 244, 3) := by decide +kernel
theorem dX11_extends1_103 : decode cX11_extends1 103 = .ok (.ifCond .ne 19, 3) := by decide +kernel
theorem dX11_extends1_106 : decode cX11_extends1 106 = .ok (.aload_n 0, 1) := by decide +kernel
theorem dX11_extends1_107 : decode cX11_extends1 107 = .ok (.aload_n 0, 1) := by decide +kernel
theorem dX11_extends1_108 : decode cX11_extends1 108 = .ok (.getfield 111, 3) := by decide +kernel
theorem dX11_extends1_111 : decode cX11_extends1 111 = .ok (.aload_n 0, 1) := by decide +kernel
theorem dX11_extends1_112 : decode cX11_extends1 112 = .ok (.getfield 98, 3) := by decide +kernel
theorem dX11_extends1_115 : decode cX11_extends1 115 = .ok (.iload_n 2, 1) := by decide +kernel
theorem dX11_extends1_116 : decode cX11_extends1 116 = .ok (.invokevirtual 247, 3) := by decide +kernel
theorem dX11_extends1_119 : decode cX11_extends1 119 = .ok (.goto 56, 3) := by decide +kernel
theorem dX11_extends1_122 : decode cX11_extends1 122 = .ok (.aload_n 0, 1) := by decide +kernel
theorem dX11_extends1_123 : decode cX11_extends1 123 = .ok (.aload_n 0, 1) := by decide +kernel
theorem dX11_extends1_124 : decode cX11_extends1 124 = .ok (.getfield 147, 3) := by decide +kernel
theorem dX11_extends1_127 : decode cX11_extends1 127 = .ok (.aload_n 0, 1) := by decide +kernel
theorem dX11_extends1_128 : decode cX11_extends1 128 = .ok (.getfield 98, 3) := by decide +kernel
theorem dX11_extends1_131 : decode cX11_extends1 131 = .ok (.iload_n 1, 1) := by decide +kernel
theorem dX11_extends1_132 : decode cX11_extends1 132 = .ok (.idiv, 1) := by decide +kernel
theorem dX11_extends1_133 : decode cX11_extends1 133 = .ok (.iload_n 2, 1) := by decide +kernel
theorem dX11_extends1_134 : decode cX11_extends1 134 = .ok (.invokevirtual 133, 3) := by decide +kernel
theorem dX11_extends1_137 : decode cX11_extends1 137 = .ok (.lstore_n 3, 1) := by decide +kernel
theorem dX11_extends1_138 : decode cX11_extends1 138 = .ok (.aload_n 0, 1) := by decide +kernel
theorem dX11_extends1_139 : decode cX11_extends1 139 = .ok (.aload_n 0, 1) := by decide +kernel
theorem dX11_extends1_140 : decode cX11_extends1 140 = .ok (.getfield 111, 3) := by decide +kernel
theorem dX11_extends1_143 : decode cX11_extends1 143 = .ok (.aload_n 0, 1) := by decide +kernel
theorem dX11_extends1_144 : decode cX11_extends1 144 = .ok (.getfield 98, 3) := by decide +kernel
theorem dX11_extends1_147 : decode cX11_extends1 147 = .ok (.iload_n 2, 1) := by decide +kernel
theorem dX11_extends1_148 : decode cX11_extends1 148 = .ok (.aload_n 0, 1) := by decide +kernel
theorem dX11_extends1_149 : decode cX11_extends1 149 = .ok (.getfield 130, 3) := by decide +kernel
theorem dX11_extends1_152 : decode cX11_extends1 152 = .ok (.iconst 1, 1) := by decide +kernel
theorem dX11_extends1_153 : decode cX11_extends1 153 = .ok (.iand, 1) := by decide +kernel
theorem dX11_extends1_154 : decode cX11_extends1 154 = .ok (.iconst 1, 1) := by decide +kernel
theorem dX11_extends1_155 : decode cX11_extends1 155 = .ok (.if_icmp .ne 16, 3) := by decide +kernel
theorem dX11_extends1_158 : decode cX11_extends1 158 = .ok (.lload_n 3, 1) := by decide +kernel
theorem dX11_extends1_159 : decode cX11_extends1 159 = .ok (.aload_n 0, 1) := by decide +kernel
theorem dX11_extends1_160 : decode cX11_extends1 160 = .ok (.getfield 98, 3) := by decide +kernel
theorem dX11_extends1_163 : decode cX11_extends1 163 = .ok (.iload_n 1, 1) := by decide +kernel
theorem dX11_extends1_164 : decode cX11_extends1 164 = .ok (.idiv, 1) := by decide +kernel
theorem dX11_extends1_165 : decode cX11_extends1 165 = .ok (.invokestatic 206, 3) := by decide +kernel
theorem dX11_extends1_168 : decode cX11_extends1 168 = .ok (.goto 4, 3) := by decide +kernel
theorem dX11_extends1_171 : decode cX11_extends1 171 = .ok (.lload_n 3, 1) := by decide +kernel
theorem dX11_extends1_172 : decode cX11_extends1 172 = .ok (.invokevirtual 69, 3) := by decide +kernel
theorem dX11_extends1_175 : decode cX11_extends1 175 = .ok (.iinc 2 1, 3) := by decide +kernel
theorem dX11_extends1_178 : decode cX11_extends1 178 = .ok (.goto (-88), 3) := by decide +kernel
theorem dX11_extends1_181 : decode cX11_extends1 181 = .ok (.aload_n 0, 1) := by decide +kernel
theorem dX11_extends1_182 : decode cX11_extends1 182 = .ok (.aload_n 0, 1) := by decide +kernel
theorem dX11_extends1_183 : decode cX11_extends1 183 = .ok (.getfield 111, 3) := by decide +kernel
theorem dX11_extends1_186 : decode cX11_extends1 186 = .ok (.aload_n 0, 1) := by decide +kernel
theorem dX11_extends1_187 : decode cX11_extends1 187 = .ok (.getfield 98, 3) := by decide +kernel
theorem dX11_extends1_190 : decode cX11_extends1 190 = .ok (.aload_n 0, 1) := by decide +kernel
theorem dX11_extends1_191 : decode cX11_extends1 191 = .ok (.getfield 95, 3) := by decide +kernel
theorem dX11_extends1_194 : decode cX11_extends1 194 = .ok (.aload_n 0, 1) := by decide +kernel
theorem dX11_extends1_195 : decode cX11_extends1 195 = .ok (.getfield 88, 3) := by decide +kernel
theorem dX11_extends1_198 : decode cX11_extends1 198 = .ok (.invokevirtual 261, 3) := by decide +kernel
theorem dX11_extends1_201 : decode cX11_extends1 201 = .ok (.iconst 1, 1) := by decide +kernel
theorem dX11_extends1_202 : decode cX11_extends1 202 = .ok (.ireturn, 1) := by decide +kernel
theorem dX11_logic_0 : decode cX11_logic 0 = .ok (.aload_n 0, 1) := by decide +kernel
theorem dX11_logic_1 : decode cX11_logic 1 = .ok (.getfield 47, 3) := by decide +kernel
theorem dX11_logic_4 : decode cX11_logic 4 = .ok (.ifCond .ne 5, 3) := by decide +kernel
theorem dX11_logic_7 : decode cX11_logic 7 = .ok (.iconst 0, 1) := by decide +kernel
theorem dX11_logic_8 : decode cX11_logic 8 = .ok (.ireturn, 1) := by decide +kernel
theorem dX11_logic_9 : decode cX11_logic 9 = .ok (.aload_n 0, 1) := by decide +kernel
theorem dX11_logic_10 : decode cX11_logic 10 = .ok (.invokevirtual 241, 3) := by decide +kernel
theorem dX11_logic_13 : decode cX11_logic 13 = .ok (.ifCond .ne 5, 3) := by decide +kernel
theorem dX11_logic_16 : decode cX11_logic 16 = .ok (.iconst 1, 1) := by decide +kernel
theorem dX11_logic_17 : decode cX11_logic 17 = .ok (.ireturn, 1) := by decide +kernel
theorem dX11_logic_18 : decode cX11_logic 18 = .ok (.aload_n 0, 1) := by decide +kernel
theorem dX11_logic_19 : decode cX11_logic 19 = .ok (.getfield 176, 3) := by decide +kernel
theorem dX11_logic_22 : decode cX11_logic 22 = .ok (.istore_n 2, 1) := by decide +kernel
theorem dX11_logic_23 : decode cX11_logic 23 = .ok (.iload_n 2, 1) := by decide +kernel
theorem dX11_logic_24 : decode cX11_logic 24 = .ok (.aload_n 0, 1) := by decide +kernel
theorem dX11_logic_25 : decode cX11_logic 25 = .ok (.getfield 88, 3) := by decide +kernel
theorem dX11_logic_28 : decode cX11_logic 28 = .ok (.if_icmp .ge 212, 3) := by decide +kernel
theorem dX11_logic_31 : decode cX11_logic 31 = .ok (.aload_n 0, 1) := by decide +kernel
theorem dX11_logic_32 : decode cX11_logic 32 = .ok (.aload_n 0, 1) := by decide +kernel
theorem dX11_logic_33 : decode cX11_logic 33 = .ok (.getfield 147, 3) := by decide +kernel
theorem dX11_logic_36 : decode cX11_logic 36 = .ok (.iload_n 2, 1) := by decide +kernel
theorem dX11_logic_37 : decode cX11_logic 37 = .ok (.invokevirtual 51, 3) := by decide +kernel
theorem dX11_logic_40 : decode cX11_logic 40 = .ok (.istore_n 3, 1) := by decide +kernel
theorem dX11_logic_41 : decode cX11_logic 41 = .ok (.aload_n 0, 1) := by decide +kernel
theorem dX11_logic_42 : decode cX11_logic 42 = .ok (.aload_n 0, 1) := by decide +kernel
theorem dX11_logic_43 : decode cX11_logic 43 = .ok (.getfield 130, 3) := by decide +kernel
theorem dX11_logic_46 : decode cX11_logic 46 = .ok (.iload_n 2, 1) := by decide +kernel
theorem dX11_logic_47 : decode cX11_logic 47 = .ok (.invokevirtual 51, 3) := by decide +kernel
theorem dX11_logic_50 : decode cX11_logic 50 = .ok (.istore 4, 2) := by decide +kernel
theorem dX11_logic_52 : decode cX11_logic 52 = .ok (.iload_n 1, 1) := by decide +kernel
theorem dX11_logic_53 : decode cX11_logic 53 = .ok (.bipush 24, 2) := by decide +kernel
theorem dX11_logic_55 : decode cX11_logic 55 = .ok (.if_icmp .ne 20, 3) := by decide +kernel
theorem dX11_logic_58 : decode cX11_logic 58 = .ok (.iload_n 3, 1) := by decide +kernel
theorem dX11_logic_59 : decode cX11_logic 59 = .ok (.ifCond .eq 12, 3) := by decide +kernel
theorem dX11_logic_62 : decode cX11_logic 62 = .ok (.iload 4, 2) := by decide +kernel
theorem dX11_logic_64 : decode cX11_logic 64 = .ok (.ifCond .ne 7, 3) := by decide +kernel
theorem dX11_logic_67 : decode cX11_logic 67 = .ok (.iconst 1, 1) := by decide +kernel
theorem dX11_logic_68 : decode cX11_logic 68 = .ok (.goto 153, 3) := by decide +kernel
theorem dX11_logic_71 : decode cX11_logic 71 = .ok (.iconst 0, 1) := by decide +kernel
theorem dX11_logic_72 : decode cX11_logic 72 = .ok (.goto 149, 3) := by decide +kernel
theorem dX11_logic_75 : decode cX11_logic 75 = .ok (.iload_n 1, 1) := by decide +kernel
theorem dX11_logic_76 : decode cX11_logic 76 = .ok (.bipush 25, 2) := by decide +kernel
theorem dX11_logic_78 : decode cX11_logic 78 = .ok (.if_icmp .ne 20, 3) := by decide +kernel
theorem dX11_logic_81 : decode cX11_logic 81 = .ok (.iload_n 3, 1) := by decide +kernel
theorem dX11_logic_82 : decode cX11_logic 82 = .ok (.ifCond .eq 12, 3) := by decide +kernel
theorem dX11_logic_85 : decode cX11_logic 85 = .ok (.iload 4, 2) := by decide +kernel
theorem dX11_logic_87 : decode cX11_logic 87 = .ok (.ifCond .eq 7, 3) := by decide +kernel
theorem dX11_logic_90 : decode cX11_logic 90 = .ok (.iconst 1, 1) := by decide +kernel
theorem dX11_logic_91 : decode cX11_logic 91 = .ok (.goto 130, 3) := by decide +kernel
theorem dX11_logic_94 : decode cX11_logic 94 = .ok (.iconst 0, 1) := by decide +kernel
theorem dX11_logic_95 : decode cX11_logic 95 = .ok (.goto 126, 3) := by decide +kernel
theorem dX11_logic_98 : decode cX11_logic 98 = .ok (.iload_n 1, 1) := by decide +kernel
theorem dX11_logic_99 : decode cX11_logic 99 = .ok (.bipush 26, 2) := by decide +kernel
theorem dX11_logic_101 : decode cX11_logic 101 = .ok (.if_icmp .ne 20, 3) := by decide +kernel
theorem dX11_logic_104 : decode cX11_logic 104 = .ok (.iload_n 3, 1) := by decide +kernel
theorem dX11_logic_105 : decode cX11_logic 105 = .ok (.ifCond .ne 8, 3) := by decide +kernel
theorem dX11_logic_108 : decode cX11_logic 108 = .ok (.iload 4, 2) := by decide +kernel
theorem dX11_logic_110 : decode cX11_logic 110 = .ok (.ifCond .eq 7, 3) := by decide +kernel
theorem dX11_logic_113 : decode cX11_logic 113 = .ok (.iconst 1, 1) := by decide +kernel
theorem dX11_logic_114 : decode cX11_logic 114 = .ok (.goto 107, 3) := by decide +kernel
theorem dX11_logic_117 : decode cX11_logic 117 = .ok (.iconst 0, 1) := by decide +kernel
theorem dX11_logic_118 : decode cX11_logic 118 = .ok (.goto 103, 3) := by decide +kernel
theorem dX11_logic_121 : decode cX11_logic 121 = .ok (.iload_n 1, 1) := by decide +kernel
theorem dX11_logic_122 : decode cX11_logic 122 = .ok (.bipush 27, 2) := by decide +kernel
theorem dX11_logic_124 : decode cX11_logic 124 = .ok (.if_icmp .ne 17, 3) := by decide +kernel
theorem dX11_logic_127 : decode cX11_logic 127 = .ok (.iload_n 3, 1) := by decide +kernel
theorem dX11_logic_128 : decode cX11_logic 128 = .ok (.iload 4, 2) := by decide +kernel
theorem dX11_logic_130 : decode cX11_logic 130 = .ok (.if_icmp .eq 7, 3) := by decide +kernel
theorem dX11_logic_133 : decode cX11_logic 133 = .ok (.iconst 1, 1) := by decide +kernel
theorem dX11_logic_134 : decode cX11_logic 134 = .ok (.goto 87, 3) := by decide +kernel
theorem dX11_logic_137 : decode cX11_logic 137 = .ok (.iconst 0, 1) := by decide +kernel
theorem dX11_logic_138 : decode cX11_logic 138 = .ok (.goto 83, 3) := by decide +kernel
theorem dX11_logic_141 : decode cX11_logic 141 = .ok (.iload_n 1, 1) := by decide +kernel
theorem dX11_logic_142 : decode cX11_logic 142 = .ok (.bipush 28, 2) := by decide +kernel
theorem dX11_logic_144 : decode cX11_logic 144 = .ok (.if_icmp .ne 20, 3) := by decide +kernel
theorem dX11_logic_147 : decode cX11_logic 147 = .ok (.iload_n 3, 1) := by decide +kernel
theorem dX11_logic_148 : decode cX11_logic 148 = .ok (.ifCond .ne 8, 3) := by decide +kernel
theorem dX11_logic_151 : decode cX11_logic 151 = .ok (.iload 4, 2) := by decide +kernel
theorem dX11_logic_153 : decode cX11_logic 153 = .ok (.ifCond .ne 7, 3) := by decide +kernel
theorem dX11_logic_156 : decode cX11_logic 156 = .ok (.iconst 1, 1) := by decide +kernel
theorem dX11_logic_157 : decode cX11_logic 157 = .ok (.goto 64, 3) := by decide +kernel
theorem dX11_logic_160 : decode cX11_logic 160 = .ok (.iconst 0, 1) := by decide +kernel
theorem dX11_logic_161 : decode cX11_logic 161 = .ok (.goto 60, 3) := by decide +kernel
theorem dX11_logic_164 : decode cX11_logic 164 = .ok (.iload_n 1, 1) := by decide +kernel
theorem dX11_logic_165 : decode cX11_logic 165 = .ok (.bipush 29, 2) := by decide +kernel
theorem dX11_logic_167 : decode cX11_logic 167 = .ok (.if_icmp .ne 20, 3) := by decide +kernel
theorem dX11_logic_170 : decode cX11_logic 170 = .ok (.iload_n 3, 1) := by decide +kernel
theorem dX11_logic_171 : decode cX11_logic 171 = .ok (.ifCond .eq 8, 3) := by decide +kernel
theorem dX11_logic_174 : decode cX11_logic 174 = .ok (.iload 4, 2) := by decide +kernel
theorem dX11_logic_176 : decode cX11_logic 176 = .ok (.ifCond .ne 7, 3) := by decide +kernel
theorem dX11_logic_179 : decode cX11_logic 179 = .ok (.iconst 1, 1) := by decide +kernel
theorem dX11_logic_180 : decode cX11_logic 180 = .ok (.goto 41, 3) := by decide +kernel
theorem dX11_logic_183 : decode cX11_logic 183 = .ok (.iconst 0, 1) := by decide +kernel
theorem dX11_logic_184 : decode cX11_logic 184 = .ok (.goto 37, 3) := by decide +kernel
theorem dX11_logic_187 : decode cX11_logic 187 = .ok (.iload_n 1, 1) := by decide +kernel
theorem dX11_logic_188 : decode cX11_logic 188 = .ok (.bipush 30, 2) := by decide +kernel
theorem dX11_logic_190 : decode cX11_logic 190 = .ok (.if_icmp .ne 20, 3) := by decide +kernel
theorem dX11_logic_193 : decode cX11_logic 193 = .ok (.iload_n 3, 1) := by decide +kernel
theorem dX11_logic_194 : decode cX11_logic 194 = .ok (.ifCond .ne 12, 3) := by decide +kernel
theorem dX11_logic_197 : decode cX11_logic 197 = .ok (.iload 4, 2) := by decide +kernel
theorem dX11_logic_199 : decode cX11_logic 199 = .ok (.ifCond .ne 7, 3) := by decide +kernel
theorem dX11_logic_202 : decode cX11_logic 202 = .ok (.iconst 1, 1) := by decide +kernel
theorem dX11_logic_203 : decode cX11_logic 203 = .ok (.goto 18, 3) := by decide +kernel
theorem dX11_logic_206 : decode cX11_logic 206 = .ok (.iconst 0, 1) := by decide +kernel
theorem dX11_logic_207 : decode cX11_logic 207 = .ok (.goto 14, 3) := by decide +kernel
theorem dX11_logic_210 : decode cX11_logic 210 = .ok (.iload_n 3, 1) := by decide +kernel
theorem dX11_logic_211 : decode cX11_logic 211 = .ok (.iload 4, 2) := by decide +kernel
theorem dX11_logic_213 : decode cX11_logic 213 = .ok (.if_icmp .ne 7, 3) := by decide +kernel
theorem dX11_logic_216 : decode cX11_logic 216 = .ok (.iconst 1, 1) := by decide +kernel
theorem dX11_logic_217 : decode cX11_logic 217 = .ok (.goto 4, 3) := by decide +kernel
theorem dX11_logic_220 : decode cX11_logic 220 = .ok (.iconst 0, 1) := by decide +kernel
theorem dX11_logic_221 : decode cX11_logic 221 = .ok (.istore 5, 2) := by decide +kernel
theorem dX11_logic_223 : decode cX11_logic 223 = .ok (.aload_n 0, 1) := by decide +kernel
theorem dX11_logic_224 : decode cX11_logic 224 = .ok (.aload_n 0, 1) := by decide +kernel
theorem dX11_logic_225 : decode cX11_logic 225 = .ok (.getfield 111, 3) := by decide +kernel
theorem dX11_logic_228 : decode cX11_logic 228 = .ok (.iload_n 2, 1) := by decide +kernel
theorem dX11_logic_229 : decode cX11_logic 229 = .ok (.iload 5, 2) := by decide +kernel
theorem dX11_logic_231 : decode cX11_logic 231 = .ok (.invokevirtual 73, 3) := by decide +kernel
theorem dX11_logic_234 : decode cX11_logic 234 = .ok (.iinc 2 1, 3) := by decide +kernel
theorem dX11_logic_237 : decode cX11_logic 237 = .ok (.goto (-214), 3) := by decide +kernel
theorem dX11_logic_240 : decode cX11_logic 240 = .ok (.aload_n 0, 1) := by decide +kernel
theorem dX11_logic_241 : decode cX11_logic 241 = .ok (.aload_n 0, 1) := by decide +kernel
theorem dX11_logic_242 : decode cX11_logic 242 = .ok (.getfield 111, 3) := by decide +kernel
theorem dX11_logic_245 : decode cX11_logic 245 = .ok (.invokevirtual 268, 3) := by decide +kernel
theorem dX11_logic_248 : decode cX11_logic 248 = .ok (.iconst 1, 1) := by decide +kernel
theorem dX11_logic_249 : decode cX11_logic 249 = .ok (.ireturn, 1) := by decide +kernel
theorem dX11_firsts_0 : decode cX11_firsts 0 = .ok (.aload_n 0, 1) := by decide +kernel
theorem dX11_firsts_1 : decode cX11_firsts 1 = .ok (.getfield 176, 3) := by decide +kernel
theorem dX11_firsts_4 : decode cX11_firsts 4 = .ok (.ifCond .ne 25, 3) := by decide +kernel
theorem dX11_firsts_7 : decode cX11_firsts 7 = .ok (.aload_n 0, 1) := by decide +kernel
theorem dX11_firsts_8 : decode cX11_firsts 8 = .ok (.getfield 111, 3) := by decide +kernel
theorem dX11_firsts_11 : decode cX11_firsts 11 = .ok (.aload_n 0, 1) := by decide +kernel
theorem dX11_firsts_12 : decode cX11_firsts 12 = .ok (.getfield 147, 3) := by decide +kernel
theorem dX11_firsts_15 : decode cX11_firsts 15 = .ok (.if_icmp .eq 14, 3) := by decide +kernel
theorem dX11_firsts_18 : decode cX11_firsts 18 = .ok (.aload_n 0, 1) := by decide +kernel
theorem dX11_firsts_19 : decode cX11_firsts 19 = .ok (.aload_n 0, 1) := by decide +kernel
theorem dX11_firsts_20 : decode cX11_firsts 20 = .ok (.getfield 111, 3) := by decide +kernel
theorem dX11_firsts_23 : decode cX11_firsts 23 = .ok (.invokevirtual 117, 3) := by decide +kernel
theorem dX11_firsts_26 : decode cX11_firsts 26 = .ok (.ifCond .ne 5, 3) := by decide +kernel
theorem dX11_firsts_29 : decode cX11_firsts 29 = .ok (.iconst 0, 1) := by decide +kernel
theorem dX11_firsts_30 : decode cX11_firsts 30 = .ok (.ireturn, 1) := by decide +kernel
theorem dX11_firsts_31 : decode cX11_firsts 31 = .ok (.aload_n 0, 1) := by decide +kernel
theorem dX11_firsts_32 : decode cX11_firsts 32 = .ok (.invokevirtual 241, 3) := by decide +kernel
theorem dX11_firsts_35 : decode cX11_firsts 35 = .ok (.ifCond .ne 5, 3) := by decide +kernel
theorem dX11_firsts_38 : decode cX11_firsts 38 = .ok (.iconst 1, 1) := by decide +kernel
theorem dX11_firsts_39 : decode cX11_firsts 39 = .ok (.ireturn, 1) := by decide +kernel
theorem dX11_firsts_40 : decode cX11_firsts 40 = .ok (.iconst 0, 1) := by decide +kernel
theorem dX11_firsts_41 : decode cX11_firsts 41 = .ok (.istore_n 1, 1) := by decide +kernel
theorem dX11_firsts_42 : decode cX11_firsts 42 = .ok (.iconst 0, 1) := by decide +kernel
theorem dX11_firsts_43 : decode cX11_firsts 43 = .ok (.istore_n 2, 1) := by decide +kernel
theorem dX11_firsts_44 : decode cX11_firsts 44 = .ok (.iload_n 2, 1) := by decide +kernel
theorem dX11_firsts_45 : decode cX11_firsts 45 = .ok (.aload_n 0, 1) := by decide +kernel
theorem dX11_firsts_46 : decode cX11_firsts 46 = .ok (.getfield 88, 3) := by decide +kernel
theorem dX11_firsts_49 : decode cX11_firsts 49 = .ok (.if_icmp .ge 126, 3) := by decide +kernel
theorem dX11_firsts_52 : decode cX11_firsts 52 = .ok (.aload_n 0, 1) := by decide +kernel
theorem dX11_firsts_53 : decode cX11_firsts 53 = .ok (.iload_n 2, 1) := by decide +kernel
theorem dX11_firsts_54 : decode cX11_firsts 54 = .ok (.invokevirtual 244, 3) := by decide +kernel
theorem dX11_firsts_57 : decode cX11_firsts 57 = .ok (.ifCond .ne 22, 3) := by decide +kernel
theorem dX11_firsts_60 : decode cX11_firsts 60 = .ok (.aload_n 0, 1) := by decide +kernel
theorem dX11_firsts_61 : decode cX11_firsts 61 = .ok (.invokevirtual 231, 3) := by decide +kernel
theorem dX11_firsts_64 : decode cX11_firsts 64 = .ok (.ifCond .eq 105, 3) := by decide +kernel
theorem dX11_firsts_67 : decode cX11_firsts 67 = .ok (.aload_n 0, 1) := by decide +kernel
theorem dX11_firsts_68 : decode cX11_firsts 68 = .ok (.aload_n 0, 1) := by decide +kernel
theorem dX11_firsts_69 : decode cX11_firsts 69 = .ok (.getfield 111, 3) := by decide +kernel
theorem dX11_firsts_72 : decode cX11_firsts 72 = .ok (.iload_n 2, 1) := by decide +kernel
theorem dX11_firsts_73 : decode cX11_firsts 73 = .ok (.invokevirtual 91, 3) := by decide +kernel
theorem dX11_firsts_76 : decode cX11_firsts 76 = .ok (.goto 93, 3) := by decide +kernel
theorem dX11_firsts_79 : decode cX11_firsts 79 = .ok (.aload_n 0, 1) := by decide +kernel
theorem dX11_firsts_80 : decode cX11_firsts 80 = .ok (.aload_n 0, 1) := by decide +kernel
theorem dX11_firsts_81 : decode cX11_firsts 81 = .ok (.getfield 147, 3) := by decide +kernel
theorem dX11_firsts_84 : decode cX11_firsts 84 = .ok (.iload_n 2, 1) := by decide +kernel
theorem dX11_firsts_85 : decode cX11_firsts 85 = .ok (.invokevirtual 51, 3) := by decide +kernel
theorem dX11_firsts_88 : decode cX11_firsts 88 = .ok (.istore_n 3, 1) := by decide +kernel
theorem dX11_firsts_89 : decode cX11_firsts 89 = .ok (.aload_n 0, 1) := by decide +kernel
theorem dX11_firsts_90 : decode cX11_firsts 90 = .ok (.aload_n 0, 1) := by decide +kernel
theorem dX11_firsts_91 : decode cX11_firsts 91 = .ok (.getfield 111, 3) := by decide +kernel
theorem dX11_firsts_94 : decode cX11_firsts 94 = .ok (.iload_n 2, 1) := by decide +kernel
theorem dX11_firsts_95 : decode cX11_firsts 95 = .ok (.aload_n 0, 1) := by decide +kernel
theorem dX11_firsts_96 : decode cX11_firsts 96 = .ok (.getfield 130, 3) := by decide +kernel
theorem dX11_firsts_99 : decode cX11_firsts 99 = .ok (.iconst 1, 1) := by decide +kernel
theorem dX11_firsts_100 : decode cX11_firsts 100 = .ok (.if_icmp .ne 19, 3) := by decide +kernel
theorem dX11_firsts_103 : decode cX11_firsts 103 = .ok (.iload_n 1, 1) := by decide +kernel
theorem dX11_firsts_104 : decode cX11_firsts 104 = .ok (.ifCond .ne 11, 3) := by decide +kernel
theorem dX11_firsts_107 : decode cX11_firsts 107 = .ok (.iload_n 3, 1) := by decide +kernel
theorem dX11_firsts_108 : decode cX11_firsts 108 = .ok (.ifCond .ne 7, 3) := by decide +kernel
theorem dX11_firsts_111 : decode cX11_firsts 111 = .ok (.iconst 1, 1) := by decide +kernel
theorem dX11_firsts_112 : decode cX11_firsts 112 = .ok (.goto 40, 3) := by decide +kernel
theorem dX11_firsts_115 : decode cX11_firsts 115 = .ok (.iconst 0, 1) := by decide +kernel
theorem dX11_firsts_116 : decode cX11_firsts 116 = .ok (.goto 36, 3) := by decide +kernel
theorem dX11_firsts_119 : decode cX11_firsts 119 = .ok (.aload_n 0, 1) := by decide +kernel
theorem dX11_firsts_120 : decode cX11_firsts 120 = .ok (.getfield 130, 3) := by decide +kernel
theorem dX11_firsts_123 : decode cX11_firsts 123 = .ok (.iconst 3, 1) := by decide +kernel
theorem dX11_firsts_124 : decode cX11_firsts 124 = .ok (.if_icmp .ne 15, 3) := by decide +kernel
theorem dX11_firsts_127 : decode cX11_firsts 127 = .ok (.iload_n 1, 1) := by decide +kernel
theorem dX11_firsts_128 : decode cX11_firsts 128 = .ok (.ifCond .ne 7, 3) := by decide +kernel
theorem dX11_firsts_131 : decode cX11_firsts 131 = .ok (.iconst 1, 1) := by decide +kernel
theorem dX11_firsts_132 : decode cX11_firsts 132 = .ok (.goto 20, 3) := by decide +kernel
theorem dX11_firsts_135 : decode cX11_firsts 135 = .ok (.iconst 0, 1) := by decide +kernel
theorem dX11_firsts_136 : decode cX11_firsts 136 = .ok (.goto 16, 3) := by decide +kernel
theorem dX11_firsts_139 : decode cX11_firsts 139 = .ok (.iload_n 1, 1) := by decide +kernel
theorem dX11_firsts_140 : decode cX11_firsts 140 = .ok (.ifCond .ne 11, 3) := by decide +kernel
theorem dX11_firsts_143 : decode cX11_firsts 143 = .ok (.iload_n 3, 1) := by decide +kernel
theorem dX11_firsts_144 : decode cX11_firsts 144 = .ok (.ifCond .eq 7, 3) := by decide +kernel
theorem dX11_firsts_147 : decode cX11_firsts 147 = .ok (.iconst 1, 1) := by decide +kernel
theorem dX11_firsts_148 : decode cX11_firsts 148 = .ok (.goto 4, 3) := by decide +kernel
theorem dX11_firsts_151 : decode cX11_firsts 151 = .ok (.iconst 0, 1) := by decide +kernel
theorem dX11_firsts_152 : decode cX11_firsts 152 = .ok (.invokevirtual 73, 3) := by decide +kernel
theorem dX11_firsts_155 : decode cX11_firsts 155 = .ok (.iload_n 1, 1) := by decide +kernel
theorem dX11_firsts_156 : decode cX11_firsts 156 = .ok (.ifCond .ne 7, 3) := by decide +kernel
theorem dX11_firsts_159 : decode cX11_firsts 159 = .ok (.iload_n 3, 1) := by decide +kernel
theorem dX11_firsts_160 : decode cX11_firsts 160 = .ok (.ifCond .eq 7, 3) := by decide +kernel
theorem dX11_firsts_163 : decode cX11_firsts 163 = .ok (.iconst 1, 1) := by decide +kernel
theorem dX11_firsts_164 : decode cX11_firsts 164 = .ok (.goto 4, 3) := by decide +kernel
theorem dX11_firsts_167 : decode cX11_firsts 167 = .ok (.iconst 0, 1) := by decide +kernel
theorem dX11_firsts_168 : decode cX11_firsts 168 = .ok (.istore_n 1, 1) := by decide +kernel
theorem dX11_firsts_169 : decode cX11_firsts 169 = .ok (.iinc 2 1, 3) := by decide +kernel
theorem dX11_firsts_172 : decode cX11_firsts 172 = .ok (.goto (-128), 3) := by decide +kernel
theorem dX11_firsts_175 : decode cX11_firsts 175 = .ok (.aload_n 0, 1) := by decide +kernel
theorem dX11_firsts_176 : decode cX11_firsts 176 = .ok (.aload_n 0, 1) := by decide +kernel
theorem dX11_firsts_177 : decode cX11_firsts 177 = .ok (.getfield 111, 3) := by decide +kernel
theorem dX11_firsts_180 : decode cX11_firsts 180 = .ok (.invokevirtual 268, 3) := by decide +kernel
theorem dX11_firsts_183 : decode cX11_firsts 183 = .ok (.iconst 1, 1) := by decide +kernel
theorem dX11_firsts_184 : decode cX11_firsts 184 = .ok (.ireturn, 1) := by decide +kernel
theorem dX11_counts_0 : decode cX11_counts 0 = .ok (.aload_n 0, 1) := by decide +kernel
theorem dX11_counts_1 : decode cX11_counts 1 = .ok (.getfield 176, 3) := by decide +kernel
theorem dX11_counts_4 : decode cX11_counts 4 = .ok (.ifCond .ne 42, 3) := by decide +kernel
theorem dX11_counts_7 : decode cX11_counts 7 = .ok (.aload_n 0, 1) := by decide +kernel
theorem dX11_counts_8 : decode cX11_counts 8 = .ok (.aload_n 0, 1) := by decide +kernel
theorem dX11_counts_9 : decode cX11_counts 9 = .ok (.getfield 111, 3) := by decide +kernel
theorem dX11_counts_12 : decode cX11_counts 12 = .ok (.aload_n 0, 1) := by decide +kernel
theorem dX11_counts_13 : decode cX11_counts 13 = .ok (.getfield 98, 3) := by decide +kernel
theorem dX11_counts_16 : decode cX11_counts 16 = .ok (.invokevirtual 114, 3) := by decide +kernel
theorem dX11_counts_19 : decode cX11_counts 19 = .ok (.ifCond .eq 27, 3) := by decide +kernel
theorem dX11_counts_22 : decode cX11_counts 22 = .ok (.aload_n 0, 1) := by decide +kernel
theorem dX11_counts_23 : decode cX11_counts 23 = .ok (.aload_n 0, 1) := by decide +kernel
theorem dX11_counts_24 : decode cX11_counts 24 = .ok (.getfield 111, 3) := by decide +kernel
theorem dX11_counts_27 : decode cX11_counts 27 = .ok (.invokevirtual 117, 3) := by decide +kernel
theorem dX11_counts_30 : decode cX11_counts 30 = .ok (.ifCond .eq 16, 3) := by decide +kernel
theorem dX11_counts_33 : decode cX11_counts 33 = .ok (.aload_n 0, 1) := by decide +kernel
theorem dX11_counts_34 : decode cX11_counts 34 = .ok (.aload_n 0, 1) := by decide +kernel
theorem dX11_counts_35 : decode cX11_counts 35 = .ok (.getfield 147, 3) := by decide +kernel
theorem dX11_counts_38 : decode cX11_counts 38 = .ok (.bipush 8, 2) := by decide +kernel
theorem dX11_counts_40 : decode cX11_counts 40 = .ok (.invokevirtual 307, 3) := by decide +kernel
theorem dX11_counts_43 : decode cX11_counts 43 = .ok (.ifCond .eq 5, 3) := by decide +kernel
theorem dX11_counts_46 : decode cX11_counts 46 = .ok (.iconst 0, 1) := by decide +kernel
theorem dX11_counts_47 : decode cX11_counts 47 = .ok (.ireturn, 1) := by decide +kernel
theorem dX11_counts_48 : decode cX11_counts 48 = .ok (.aload_n 0, 1) := by decide +kernel
theorem dX11_counts_49 : decode cX11_counts 49 = .ok (.invokevirtual 241, 3) := by decide +kernel
theorem dX11_counts_52 : decode cX11_counts 52 = .ok (.ifCond .ne 5, 3) := by decide +kernel
theorem dX11_counts_55 : decode cX11_counts 55 = .ok (.iconst 1, 1) := by decide +kernel
theorem dX11_counts_56 : decode cX11_counts 56 = .ok (.ireturn, 1) := by decide +kernel
theorem dX11_counts_57 : decode cX11_counts 57 = .ok (.iconst 0, 1) := by decide +kernel
theorem dX11_counts_58 : decode cX11_counts 58 = .ok (.istore_n 1, 1) := by decide +kernel
theorem dX11_counts_59 : decode cX11_counts 59 = .ok (.iconst 0, 1) := by decide +kernel
theorem dX11_counts_60 : decode cX11_counts 60 = .ok (.istore_n 2, 1) := by decide +kernel
theorem dX11_counts_61 : decode cX11_counts 61 = .ok (.iload_n 2, 1) := by decide +kernel
theorem dX11_counts_62 : decode cX11_counts 62 = .ok (.aload_n 0, 1) := by decide +kernel
theorem dX11_counts_63 : decode cX11_counts 63 = .ok (.getfield 88, 3) := by decide +kernel
theorem dX11_counts_66 : decode cX11_counts 66 = .ok (.if_icmp .ge 68, 3) := by decide +kernel
theorem dX11_counts_69 : decode cX11_counts 69 = .ok (.aload_n 0, 1) := by decide +kernel
theorem dX11_counts_70 : decode cX11_counts 70 = .ok (.iload_n 2, 1) := by decide +kernel
theorem dX11_counts_71 : decode cX11_counts 71 = .ok (.invokevirtual 244, 3) := by decide +kernel
theorem dX11_counts_74 : decode cX11_counts 74 = .ok (.ifCond .ne 19, 3) := by decide +kernel
theorem dX11_counts_77 : decode cX11_counts 77 = .ok (.aload_n 0, 1) := by decide +kernel
theorem dX11_counts_78 : decode cX11_counts 78 = .ok (.aload_n 0, 1) := by decide +kernel
theorem dX11_counts_79 : decode cX11_counts 79 = .ok (.getfield 111, 3) := by decide +kernel
theorem dX11_counts_82 : decode cX11_counts 82 = .ok (.aload_n 0, 1) := by decide +kernel
theorem dX11_counts_83 : decode cX11_counts 83 = .ok (.getfield 98, 3) := by decide +kernel
theorem dX11_counts_86 : decode cX11_counts 86 = .ok (.iload_n 2, 1) := by decide +kernel
theorem dX11_counts_87 : decode cX11_counts 87 = .ok (.invokevirtual 247, 3) := by decide +kernel
theorem dX11_counts_90 : decode cX11_counts 90 = .ok (.goto 38, 3) := by decide +kernel
theorem dX11_counts_93 : decode cX11_counts 93 = .ok (.aload_n 0, 1) := by decide +kernel
theorem dX11_counts_94 : decode cX11_counts 94 = .ok (.aload_n 0, 1) := by decide +kernel
theorem dX11_counts_95 : decode cX11_counts 95 = .ok (.getfield 111, 3) := by decide +kernel
theorem dX11_counts_98 : decode cX11_counts 98 = .ok (.aload_n 0, 1) := by decide +kernel
theorem dX11_counts_99 : decode cX11_counts 99 = .ok (.getfield 98, 3) := by decide +kernel
theorem dX11_counts_102 : decode cX11_counts 102 = .ok (.iload_n 2, 1) := by decide +kernel
theorem dX11_counts_103 : decode cX11_counts 103 = .ok (.iload_n 1, 1) := by decide +kernel
theorem dX11_counts_104 : decode cX11_counts 104 = .ok (.i2l, 1) := by decide +kernel
theorem dX11_counts_105 : decode cX11_counts 105 = .ok (.invokevirtual 69, 3) := by decide +kernel
theorem dX11_counts_108 : decode cX11_counts 108 = .ok (.iload_n 1, 1) := by decide +kernel
theorem dX11_counts_109 : decode cX11_counts 109 = .ok (.aload_n 0, 1) := by decide +kernel
theorem dX11_counts_110 : decode cX11_counts 110 = .ok (.aload_n 0, 1) := by decide +kernel
theorem dX11_counts_111 : decode cX11_counts 111 = .ok (.getfield 147, 3) := by decide +kernel
theorem dX11_counts_114 : decode cX11_counts 114 = .ok (.iload_n 2, 1) := by decide +kernel
theorem dX11_counts_115 : decode cX11_counts 115 = .ok (.invokevirtual 51, 3) := by decide +kernel
theorem dX11_counts_118 : decode cX11_counts 118 = .ok (.ifCond .eq 7, 3) := by decide +kernel
theorem dX11_counts_121 : decode cX11_counts 121 = .ok (.iconst 1, 1) := by decide +kernel
theorem dX11_counts_122 : decode cX11_counts 122 = .ok (.goto 4, 3) := by decide +kernel
theorem dX11_counts_125 : decode cX11_counts 125 = .ok (.iconst 0, 1) := by decide +kernel
theorem dX11_counts_126 : decode cX11_counts 126 = .ok (.iadd, 1) := by decide +kernel
theorem dX11_counts_127 : decode cX11_counts 127 = .ok (.istore_n 1, 1) := by decide +kernel
theorem dX11_counts_128 : decode cX11_counts 128 = .ok (.iinc 2 1, 3) := by decide +kernel
theorem dX11_counts_131 : decode cX11_counts 131 = .ok (.goto (-70), 3) := by decide +kernel
theorem dX11_counts_134 : decode cX11_counts 134 = .ok (.aload_n 0, 1) := by decide +kernel
theorem dX11_counts_135 : decode cX11_counts 135 = .ok (.aload_n 0, 1) := by decide +kernel
theorem dX11_counts_136 : decode cX11_counts 136 = .ok (.getfield 111, 3) := by decide +kernel
theorem dX11_counts_139 : decode cX11_counts 139 = .ok (.aload_n 0, 1) := by decide +kernel
theorem dX11_counts_140 : decode cX11_counts 140 = .ok (.getfield 98, 3) := by decide +kernel
theorem dX11_counts_143 : decode cX11_counts 143 = .ok (.aload_n 0, 1) := by decide +kernel
theorem dX11_counts_144 : decode cX11_counts 144 = .ok (.getfield 95, 3) := by decide +kernel
theorem dX11_counts_147 : decode cX11_counts 147 = .ok (.aload_n 0, 1) := by decide +kernel
theorem dX11_counts_148 : decode cX11_counts 148 = .ok (.getfield 88, 3) := by decide +kernel
theorem dX11_counts_151 : decode cX11_counts 151 = .ok (.invokevirtual 261, 3) := by decide +kernel
theorem dX11_counts_154 : decode cX11_counts 154 = .ok (.iconst 1, 1) := by decide +kernel
theorem dX11_counts_155 : decode cX11_counts 155 = .ok (.ireturn, 1) := by decide +kernel
theorem dX11_numbers_0 : decode cX11_numbers 0 = .ok (.aload_n 0, 1) := by decide +kernel
theorem dX11_numbers_1 : decode cX11_numbers 1 = .ok (.getfield 147, 3) := by decide +kernel
theorem dX11_numbers_4 : decode cX11_numbers 4 = .ok (.ifCond .ne 29, 3) := by decide +kernel
theorem dX11_numbers_7 : decode cX11_numbers 7 = .ok (.aload_n 0, 1) := by decide +kernel
theorem dX11_numbers_8 : decode cX11_numbers 8 = .ok (.aload_n 0, 1) := by decide +kernel
theorem dX11_numbers_9 : decode cX11_numbers 9 = .ok (.getfield 111, 3) := by decide +kernel
theorem dX11_numbers_12 : decode cX11_numbers 12 = .ok (.aload_n 0, 1) := by decide +kernel
theorem dX11_numbers_13 : decode cX11_numbers 13 = .ok (.getfield 98, 3) := by decide +kernel
theorem dX11_numbers_16 : decode cX11_numbers 16 = .ok (.invokevirtual 114, 3) := by decide +kernel
theorem dX11_numbers_19 : decode cX11_numbers 19 = .ok (.ifCond .eq 14, 3) := by decide +kernel
theorem dX11_numbers_22 : decode cX11_numbers 22 = .ok (.aload_n 0, 1) := by decide +kernel
theorem dX11_numbers_23 : decode cX11_numbers 23 = .ok (.aload_n 0, 1) := by decide +kernel
theorem dX11_numbers_24 : decode cX11_numbers 24 = .ok (.getfield 111, 3) := by decide +kernel
theorem dX11_numbers_27 : decode cX11_numbers 27 = .ok (.invokevirtual 117, 3) := by decide +kernel
theorem dX11_numbers_30 : decode cX11_numbers 30 = .ok (.ifCond .ne 5, 3) := by decide +kernel
theorem dX11_numbers_33 : decode cX11_numbers 33 = .ok (.iconst 0, 1) := by decide +kernel
theorem dX11_numbers_34 : decode cX11_numbers 34 = .ok (.ireturn, 1) := by decide +kernel
theorem dX11_numbers_35 : decode cX11_numbers 35 = .ok (.aload_n 0, 1) := by decide +kernel
theorem dX11_numbers_36 : decode cX11_numbers 36 = .ok (.invokevirtual 241, 3) := by decide +kernel
theorem dX11_numbers_39 : decode cX11_numbers 39 = .ok (.ifCond .ne 5, 3) := by decide +kernel
theorem dX11_numbers_42 : decode cX11_numbers 42 = .ok (.iconst 1, 1) := by decide +kernel
theorem dX11_numbers_43 : decode cX11_numbers 43 = .ok (.ireturn, 1) := by decide +kernel
theorem dX11_numbers_44 : decode cX11_numbers 44 = .ok (.aload_n 0, 1) := by decide +kernel
theorem dX11_numbers_45 : decode cX11_numbers 45 = .ok (.getfield 176, 3) := by decide +kernel
theorem dX11_numbers_48 : decode cX11_numbers 48 = .ok (.istore_n 1, 1) := by decide +kernel
theorem dX11_numbers_49 : decode cX11_numbers 49 = .ok (.iload_n 1, 1) := by decide +kernel
theorem dX11_numbers_50 : decode cX11_numbers 50 = .ok (.aload_n 0, 1) := by decide +kernel
theorem dX11_numbers_51 : decode cX11_numbers 51 = .ok (.getfield 88, 3) := by decide +kernel
theorem dX11_numbers_54 : decode cX11_numbers 54 = .ok (.if_icmp .ge 48, 3) := by decide +kernel
theorem dX11_numbers_57 : decode cX11_numbers 57 = .ok (.aload_n 0, 1) := by decide +kernel
theorem dX11_numbers_58 : decode cX11_numbers 58 = .ok (.iload_n 1, 1) := by decide +kernel
theorem dX11_numbers_59 : decode cX11_numbers 59 = .ok (.invokevirtual 244, 3) := by decide +kernel
theorem dX11_numbers_62 : decode cX11_numbers 62 = .ok (.ifCond .eq 21, 3) := by decide +kernel
theorem dX11_numbers_65 : decode cX11_numbers 65 = .ok (.aload_n 0, 1) := by decide +kernel
theorem dX11_numbers_66 : decode cX11_numbers 66 = .ok (.aload_n 0, 1) := by decide +kernel
theorem dX11_numbers_67 : decode cX11_numbers 67 = .ok (.getfield 111, 3) := by decide +kernel
theorem dX11_numbers_70 : decode cX11_numbers 70 = .ok (.aload_n 0, 1) := by decide +kernel
theorem dX11_numbers_71 : decode cX11_numbers 71 = .ok (.getfield 98, 3) := by decide +kernel
theorem dX11_numbers_74 : decode cX11_numbers 74 = .ok (.iload_n 1, 1) := by decide +kernel
theorem dX11_numbers_75 : decode cX11_numbers 75 = .ok (.iload_n 1, 1) := by decide +kernel
theorem dX11_numbers_76 : decode cX11_numbers 76 = .ok (.i2l, 1) := by decide +kernel
theorem dX11_numbers_77 : decode cX11_numbers 77 = .ok (.invokevirtual 69, 3) := by decide +kernel
theorem dX11_numbers_80 : decode cX11_numbers 80 = .ok (.goto 16, 3) := by decide +kernel
theorem dX11_numbers_83 : decode cX11_numbers 83 = .ok (.aload_n 0, 1) := by decide +kernel
theorem dX11_numbers_84 : decode cX11_numbers 84 = .ok (.aload_n 0, 1) := by decide +kernel
theorem dX11_numbers_85 : decode cX11_numbers 85 = .ok (.getfield 111, 3) := by decide +kernel
theorem dX11_numbers_88 : decode cX11_numbers 88 = .ok (.aload_n 0, 1) := by decide +kernel
theorem dX11_numbers_89 : decode cX11_numbers 89 = .ok (.getfield 98, 3) := by decide +kernel
theorem dX11_numbers_92 : decode cX11_numbers 92 = .ok (.iload_n 1, 1) := by decide +kernel
theorem dX11_numbers_93 : decode cX11_numbers 93 = .ok (.invokevirtual 247, 3) := by decide +kernel
theorem dX11_numbers_96 : decode cX11_numbers 96 = .ok (.iinc 1 1, 3) := by decide +kernel
theorem dX11_numbers_99 : decode cX11_numbers 99 = .ok (.goto (-50), 3) := by decide +kernel
theorem dX11_numbers_102 : decode cX11_numbers 102 = .ok (.aload_n 0, 1) := by decide +kernel
theorem dX11_numbers_103 : decode cX11_numbers 103 = .ok (.aload_n 0, 1) := by decide +kernel
theorem dX11_numbers_104 : decode cX11_numbers 104 = .ok (.getfield 111, 3) := by decide +kernel
theorem dX11_numbers_107 : decode cX11_numbers 107 = .ok (.aload_n 0, 1) := by decide +kernel
theorem dX11_numbers_108 : decode cX11_numbers 108 = .ok (.getfield 98, 3) := by decide +kernel
theorem dX11_numbers_111 : decode cX11_numbers 111 = .ok (.aload_n 0, 1) := by decide +kernel
theorem dX11_numbers_112 : decode cX11_numbers 112 = .ok (.getfield 95, 3) := by decide +kernel
theorem dX11_numbers_115 : decode cX11_numbers 115 = .ok (.aload_n 0, 1) := by decide +kernel
theorem dX11_numbers_116 : decode cX11_numbers 116 = .ok (.getfield 88, 3) := by decide +kernel
theorem dX11_numbers_119 : decode cX11_numbers 119 = .ok (.invokevirtual 261, 3) := by decide +kernel
theorem dX11_numbers_122 : decode cX11_numbers 122 = .ok (.iconst 1, 1) := by decide +kernel
theorem dX11_numbers_123 : decode cX11_numbers 123 = .ok (.ireturn, 1) := by decide +kernel
theorem dX11_toX_0 : decode cX11_toX 0 = .ok (.aload_n 0, 1) := by decide +kernel
theorem dX11_toX_1 : decode cX11_toX 1 = .ok (.getfield 130, 3) := by decide +kernel
theorem dX11_toX_4 : decode cX11_toX 4 = .ok (.ifCond .ne 37, 3) := by decide +kernel
theorem dX11_toX_7 : decode cX11_toX 7 = .ok (.aload_n 0, 1) := by decide +kernel
theorem dX11_toX_8 : decode cX11_toX 8 = .ok (.getfield 47, 3) := by decide +kernel
theorem dX11_toX_11 : decode cX11_toX 11 = .ok (.ifCond .ne 5, 3) := by decide +kernel
theorem dX11_toX_14 : decode cX11_toX 14 = .ok (.iconst 0, 1) := by decide +kernel
theorem dX11_toX_15 : decode cX11_toX 15 = .ok (.ireturn, 1) := by decide +kernel
theorem dX11_toX_16 : decode cX11_toX 16 = .ok (.aload_n 0, 1) := by decide +kernel
theorem dX11_toX_17 : decode cX11_toX 17 = .ok (.aload_n 0, 1) := by decide +kernel
theorem dX11_toX_18 : decode cX11_toX 18 = .ok (.getfield 147, 3) := by decide +kernel
theorem dX11_toX_21 : decode cX11_toX 21 = .ok (.aload_n 0, 1) := by decide +kernel
theorem dX11_toX_22 : decode cX11_toX 22 = .ok (.getfield 98, 3) := by decide +kernel
theorem dX11_toX_25 : decode cX11_toX 25 = .ok (.iconst 0, 1) := by decide +kernel
theorem dX11_toX_26 : decode cX11_toX 26 = .ok (.invokevirtual 133, 3) := by decide +kernel
theorem dX11_toX_29 : decode cX11_toX 29 = .ok (.aload_n 0, 1) := by decide +kernel
theorem dX11_toX_30 : decode cX11_toX 30 = .ok (.getfield 98, 3) := by decide +kernel
theorem dX11_toX_33 : decode cX11_toX 33 = .ok (.invokestatic 206, 3) := by decide +kernel
theorem dX11_toX_36 : decode cX11_toX 36 = .ok (.l2i, 1) := by decide +kernel
theorem dX11_toX_37 : decode cX11_toX 37 = .ok (.istore_n 1, 1) := by decide +kernel
theorem dX11_toX_38 : decode cX11_toX 38 = .ok (.goto 107, 3) := by decide +kernel
theorem dX11_toX_41 : decode cX11_toX 41 = .ok (.aload_n 0, 1) := by decide +kernel
theorem dX11_toX_42 : decode cX11_toX 42 = .ok (.getfield 130, 3) := by decide +kernel
theorem dX11_toX_45 : decode cX11_toX 45 = .ok (.bipush 16, 2) := by decide +kernel
theorem dX11_toX_47 : decode cX11_toX 47 = .ok (.if_icmp .eq 12, 3) := by decide +kernel
theorem dX11_toX_50 : decode cX11_toX 50 = .ok (.aload_n 0, 1) := by decide +kernel
theorem dX11_toX_51 : decode cX11_toX 51 = .ok (.getfield 130, 3) := by decide +kernel
theorem dX11_toX_54 : decode cX11_toX 54 = .ok (.bipush 17, 2) := by decide +kernel
theorem dX11_toX_56 : decode cX11_toX 56 = .ok (.if_icmp .ne 87, 3) := by decide +kernel
theorem dX11_toX_59 : decode cX11_toX 59 = .ok (.aload_n 0, 1) := by decide +kernel
theorem dX11_toX_60 : decode cX11_toX 60 = .ok (.getfield 176, 3) := by decide +kernel
theorem dX11_toX_63 : decode cX11_toX 63 = .ok (.ifCond .eq 5, 3) := by decide +kernel
theorem dX11_toX_66 : decode cX11_toX 66 = .ok (.iconst 0, 1) := by decide +kernel
theorem dX11_toX_67 : decode cX11_toX 67 = .ok (.ireturn, 1) := by decide +kernel
theorem dX11_toX_68 : decode cX11_toX 68 = .ok (.iconst 0, 1) := by decide +kernel
theorem dX11_toX_69 : decode cX11_toX 69 = .ok (.istore_n 2, 1) := by decide +kernel
theorem dX11_toX_70 : decode cX11_toX 70 = .ok (.iconst (-1), 1) := by decide +kernel
theorem dX11_toX_71 : decode cX11_toX 71 = .ok (.istore_n 3, 1) := by decide +kernel
theorem dX11_toX_72 : decode cX11_toX 72 = .ok (.iconst 0, 1) := by decide +kernel
theorem dX11_toX_73 : decode cX11_toX 73 = .ok (.istore 4, 2) := by decide +kernel
theorem dX11_toX_75 : decode cX11_toX 75 = .ok (.iload 4, 2) := by decide +kernel
theorem dX11_toX_77 : decode cX11_toX 77 = .ok (.aload_n 0, 1) := by decide +kernel
theorem dX11_toX_78 : decode cX11_toX 78 = .ok (.getfield 88, 3) := by decide +kernel
theorem dX11_toX_81 : decode cX11_toX 81 = .ok (.if_icmp .ge 44, 3) := by decide +kernel
theorem dX11_toX_84 : decode cX11_toX 84 = .ok (.aload_n 0, 1) := by decide +kernel
theorem dX11_toX_85 : decode cX11_toX 85 = .ok (.iload 4, 2) := by decide +kernel
theorem dX11_toX_87 : decode cX11_toX 87 = .ok (.invokevirtual 244, 3) := by decide +kernel
theorem dX11_toX_90 : decode cX11_toX 90 = .ok (.ifCond .eq 29, 3) := by decide +kernel
theorem dX11_toX_93 : decode cX11_toX 93 = .ok (.aload_n 0, 1) := by decide +kernel
theorem dX11_toX_94 : decode cX11_toX 94 = .ok (.aload_n 0, 1) := by decide +kernel
theorem dX11_toX_95 : decode cX11_toX 95 = .ok (.getfield 147, 3) := by decide +kernel
theorem dX11_toX_98 : decode cX11_toX 98 = .ok (.iload 4, 2) := by decide +kernel
theorem dX11_toX_100 : decode cX11_toX 100 = .ok (.invokevirtual 51, 3) := by decide +kernel
theorem dX11_toX_103 : decode cX11_toX 103 = .ok (.ifCond .ne 6, 3) := by decide +kernel
theorem dX11_toX_106 : decode cX11_toX 106 = .ok (.goto 13, 3) := by decide +kernel
theorem dX11_toX_109 : decode cX11_toX 109 = .ok (.iload_n 3, 1) := by decide +kernel
theorem dX11_toX_110 : decode cX11_toX 110 = .ok (.ifCond .ge 6, 3) := by decide +kernel
theorem dX11_toX_113 : decode cX11_toX 113 = .ok (.iload 4, 2) := by decide +kernel
theorem dX11_toX_115 : decode cX11_toX 115 = .ok (.istore_n 3, 1) := by decide +kernel
theorem dX11_toX_116 : decode cX11_toX 116 = .ok (.iinc 2 1, 3) := by decide +kernel
theorem dX11_toX_119 : decode cX11_toX 119 = .ok (.iinc 4 1, 3) := by decide +kernel
theorem dX11_toX_122 : decode cX11_toX 122 = .ok (.goto (-47), 3) := by decide +kernel
theorem dX11_toX_125 : decode cX11_toX 125 = .ok (.aload_n 0, 1) := by decide +kernel
theorem dX11_toX_126 : decode cX11_toX 126 = .ok (.getfield 130, 3) := by decide +kernel
theorem dX11_toX_129 : decode cX11_toX 129 = .ok (.bipush 16, 2) := by decide +kernel
theorem dX11_toX_131 : decode cX11_toX 131 = .ok (.if_icmp .ne 7, 3) := by decide +kernel
theorem dX11_toX_134 : decode cX11_toX 134 = .ok (.iload_n 2, 1) := by decide +kernel
theorem dX11_toX_135 : decode cX11_toX 135 = .ok (.goto 4, 3) := by decide +kernel
theorem dX11_toX_138 : decode cX11_toX 138 = .ok (.iload_n 3, 1) := by decide +kernel
theorem dX11_toX_139 : decode cX11_toX 139 = .ok (.istore_n 1, 1) := by decide +kernel
theorem dX11_toX_140 : decode cX11_toX 140 = .ok (.goto 5, 3) := by decide +kernel
theorem dX11_toX_143 : decode cX11_toX 143 = .ok (.iconst 0, 1) := by decide +kernel
theorem dX11_toX_144 : decode cX11_toX 144 = .ok (.ireturn, 1) := by decide +kernel
theorem dX11_toX_145 : decode cX11_toX 145 = .ok (.aload_n 0, 1) := by decide +kernel
theorem dX11_toX_146 : decode cX11_toX 146 = .ok (.getfield 111, 3) := by decide +kernel
theorem dX11_toX_149 : decode cX11_toX 149 = .ok (.ifCond .le 13, 3) := by decide +kernel
theorem dX11_toX_152 : decode cX11_toX 152 = .ok (.aload_n 0, 1) := by decide +kernel
theorem dX11_toX_153 : decode cX11_toX 153 = .ok (.getfield 7, 3) := by decide +kernel
theorem dX11_toX_156 : decode cX11_toX 156 = .ok (.aload_n 0, 1) := by decide +kernel
theorem dX11_toX_157 : decode cX11_toX 157 = .ok (.getfield 111, 3) := by decide +kernel
theorem dX11_toX_160 : decode cX11_toX 160 = .ok (.iload_n 1, 1) := by decide +kernel
theorem dX11_toX_161 : decode cX11_toX 161 = .ok (.iastore, 1) := by decide +kernel
theorem dX11_toX_162 : decode cX11_toX 162 = .ok (.iconst 1, 1) := by decide +kernel
theorem dX11_toX_163 : decode cX11_toX 163 = .ok (.ireturn, 1) := by decide +kernel
theorem dX11_fromX_0 : decode cX11_fromX 0 = .ok (.aload_n 0, 1) := by decide +kernel
theorem dX11_fromX_1 : decode cX11_fromX 1 = .ok (.getfield 47, 3) := by decide +kernel
theorem dX11_fromX_4 : decode cX11_fromX 4 = .ok (.ifCond .eq 10, 3) := by decide +kernel
theorem dX11_fromX_7 : decode cX11_fromX 7 = .ok (.aload_n 0, 1) := by decide +kernel
theorem dX11_fromX_8 : decode cX11_fromX 8 = .ok (.getfield 147, 3) := by decide +kernel
theorem dX11_fromX_11 : decode cX11_fromX 11 = .ok (.ifCond .eq 5, 3) := by decide +kernel
theorem dX11_fromX_14 : decode cX11_fromX 14 = .ok (.iconst 0, 1) := by decide +kernel
theorem dX11_fromX_15 : decode cX11_fromX 15 = .ok (.ireturn, 1) := by decide +kernel
theorem dX11_fromX_16 : decode cX11_fromX 16 = .ok (.aload_n 0, 1) := by decide +kernel
theorem dX11_fromX_17 : decode cX11_fromX 17 = .ok (.invokevirtual 241, 3) := by decide +kernel
theorem dX11_fromX_20 : decode cX11_fromX 20 = .ok (.ifCond .ne 5, 3) := by decide +kernel
theorem dX11_fromX_23 : decode cX11_fromX 23 = .ok (.iconst 1, 1) := by decide +kernel
theorem dX11_fromX_24 : decode cX11_fromX 24 = .ok (.ireturn, 1) := by decide +kernel
theorem dX11_fromX_25 : decode cX11_fromX 25 = .ok (.aload_n 0, 1) := by decide +kernel
theorem dX11_fromX_26 : decode cX11_fromX 26 = .ok (.aload_n 0, 1) := by decide +kernel
theorem dX11_fromX_27 : decode cX11_fromX 27 = .ok (.getfield 111, 3) := by decide +kernel
theorem dX11_fromX_30 : decode cX11_fromX 30 = .ok (.aload_n 0, 1) := by decide +kernel
theorem dX11_fromX_31 : decode cX11_fromX 31 = .ok (.getfield 98, 3) := by decide +kernel
theorem dX11_fromX_34 : decode cX11_fromX 34 = .ok (.iconst 0, 1) := by decide +kernel
theorem dX11_fromX_35 : decode cX11_fromX 35 = .ok (.aload_n 0, 1) := by decide +kernel
theorem dX11_fromX_36 : decode cX11_fromX 36 = .ok (.getfield 7, 3) := by decide +kernel
theorem dX11_fromX_39 : decode cX11_fromX 39 = .ok (.aload_n 0, 1) := by decide +kernel
theorem dX11_fromX_40 : decode cX11_fromX 40 = .ok (.getfield 130, 3) := by decide +kernel
theorem dX11_fromX_43 : decode cX11_fromX 43 = .ok (.iaload, 1) := by decide +kernel
theorem dX11_fromX_44 : decode cX11_fromX 44 = .ok (.i2l, 1) := by decide +kernel
theorem dX11_fromX_45 : decode cX11_fromX 45 = .ok (.invokevirtual 69, 3) := by decide +kernel
theorem dX11_fromX_48 : decode cX11_fromX 48 = .ok (.aload_n 0, 1) := by decide +kernel
theorem dX11_fromX_49 : decode cX11_fromX 49 = .ok (.aload_n 0, 1) := by decide +kernel
theorem dX11_fromX_50 : decode cX11_fromX 50 = .ok (.getfield 111, 3) := by decide +kernel
theorem dX11_fromX_53 : decode cX11_fromX 53 = .ok (.aload_n 0, 1) := by decide +kernel
theorem dX11_fromX_54 : decode cX11_fromX 54 = .ok (.getfield 98, 3) := by decide +kernel
theorem dX11_fromX_57 : decode cX11_fromX 57 = .ok (.bipush 8, 2) := by decide +kernel
theorem dX11_fromX_59 : decode cX11_fromX 59 = .ok (.iconst 1, 1) := by decide +kernel
theorem dX11_fromX_60 : decode cX11_fromX 60 = .ok (.invokevirtual 261, 3) := by decide +kernel
theorem dX11_fromX_63 : decode cX11_fromX 63 = .ok (.iconst 1, 1) := by decide +kernel
theorem dX11_fromX_64 : decode cX11_fromX 64 = .ok (.ireturn, 1) := by decide +kernel
theorem dX11_mixed_0 : decode cX11_mixed 0 = .ok (.aload_n 0, 1) := by decide +kernel
theorem dX11_mixed_1 : decode cX11_mixed 1 = .ok (.invokevirtual 127, 3) := by decide +kernel
theorem dX11_mixed_4 : decode cX11_mixed 4 = .ok (.istore_n 1, 1) := by decide +kernel
theorem dX11_mixed_5 : decode cX11_mixed 5 = .ok (.aload_n 0, 1) := by decide +kernel
theorem dX11_mixed_6 : decode cX11_mixed 6 = .ok (.getfield 150, 3) := by decide +kernel
theorem dX11_mixed_9 : decode cX11_mixed 9 = .ok (.tableswitch 859 0 63 #[271, 291, 311, 331, 351, 372, 393, 414, 435, 442, 449, 456, 859, 859, 463, 481, 499, 859, 515, 859, 532, 859, 859, 605, 622, 622, 622, 622, 622, 622, 622, 622, 643, 650, 657, 664, 671, 678, 685, 692, 859, 699, 859, 706, 859, 713, 859, 720, 727, 735, 743, 751, 759, 767, 775, 783, 791, 859, 799, 807, 815, 823, 831, 851], 271) := by decide +kernel
theorem dX11_mixed_280 : decode cX11_mixed 280 = .ok (.iload_n 1, 1) := by decide +kernel
theorem dX11_mixed_281 : decode cX11_mixed 281 = .ok (.ifCond .eq 17, 3) := by decide +kernel
theorem dX11_mixed_284 : decode cX11_mixed 284 = .ok (.aload_n 0, 1) := by decide +kernel
theorem dX11_mixed_285 : decode cX11_mixed 285 = .ok (.iconst 0, 1) := by decide +kernel
theorem dX11_mixed_286 : decode cX11_mixed 286 = .ok (.iconst 0, 1) := by decide +kernel
theorem dX11_mixed_287 : decode cX11_mixed 287 = .ok (.iconst 0, 1) := by decide +kernel
theorem dX11_mixed_288 : decode cX11_mixed 288 = .ok (.invokevirtual 303, 3) := by decide +kernel
theorem dX11_mixed_291 : decode cX11_mixed 291 = .ok (.ifCond .eq 7, 3) := by decide +kernel
theorem dX11_mixed_294 : decode cX11_mixed 294 = .ok (.iconst 1, 1) := by decide +kernel
theorem dX11_mixed_295 : decode cX11_mixed 295 = .ok (.goto 4, 3) := by decide +kernel
theorem dX11_mixed_298 : decode cX11_mixed 298 = .ok (.iconst 0, 1) := by decide +kernel
theorem dX11_mixed_299 : decode cX11_mixed 299 = .ok (.ireturn, 1) := by decide +kernel
theorem dX11_mixed_300 : decode cX11_mixed 300 = .ok (.iload_n 1, 1) := by decide +kernel
theorem dX11_mixed_301 : decode cX11_mixed 301 = .ok (.ifCond .eq 17, 3) := by decide +kernel
theorem dX11_mixed_304 : decode cX11_mixed 304 = .ok (.aload_n 0, 1) := by decide +kernel
theorem dX11_mixed_305 : decode cX11_mixed 305 = .ok (.iconst 3, 1) := by decide +kernel
theorem dX11_mixed_306 : decode cX11_mixed 306 = .ok (.iconst 0, 1) := by decide +kernel
theorem dX11_mixed_307 : decode cX11_mixed 307 = .ok (.iconst 0, 1) := by decide +kernel
theorem dX11_mixed_308 : decode cX11_mixed 308 = .ok (.invokevirtual 303, 3) := by decide +kernel
theorem dX11_mixed_311 : decode cX11_mixed 311 = .ok (.ifCond .eq 7, 3) := by decide +kernel
theorem dX11_mixed_314 : decode cX11_mixed 314 = .ok (.iconst 1, 1) := by decide +kernel
theorem dX11_mixed_315 : decode cX11_mixed 315 = .ok (.goto 4, 3) := by decide +kernel
theorem dX11_mixed_318 : decode cX11_mixed 318 = .ok (.iconst 0, 1) := by decide +kernel
theorem dX11_mixed_319 : decode cX11_mixed 319 = .ok (.ireturn, 1) := by decide +kernel
theorem dX11_mixed_320 : decode cX11_mixed 320 = .ok (.iload_n 1, 1) := by decide +kernel
theorem dX11_mixed_321 : decode cX11_mixed 321 = .ok (.ifCond .eq 17, 3) := by decide +kernel
theorem dX11_mixed_324 : decode cX11_mixed 324 = .ok (.aload_n 0, 1) := by decide +kernel
theorem dX11_mixed_325 : decode cX11_mixed 325 = .ok (.iconst 4, 1) := by decide +kernel
theorem dX11_mixed_326 : decode cX11_mixed 326 = .ok (.iconst 0, 1) := by decide +kernel
theorem dX11_mixed_327 : decode cX11_mixed 327 = .ok (.iconst 0, 1) := by decide +kernel
theorem dX11_mixed_328 : decode cX11_mixed 328 = .ok (.invokevirtual 303, 3) := by decide +kernel
theorem dX11_mixed_331 : decode cX11_mixed 331 = .ok (.ifCond .eq 7, 3) := by decide +kernel
theorem dX11_mixed_334 : decode cX11_mixed 334 = .ok (.iconst 1, 1) := by decide +kernel
theorem dX11_mixed_335 : decode cX11_mixed 335 = .ok (.goto 4, 3) := by decide +kernel
theorem dX11_mixed_338 : decode cX11_mixed 338 = .ok (.iconst 0, 1) := by decide +kernel
theorem dX11_mixed_339 : decode cX11_mixed 339 = .ok (.ireturn, 1) := by decide +kernel
theorem dX11_mixed_340 : decode cX11_mixed 340 = .ok (.iload_n 1, 1) := by decide +kernel
theorem dX11_mixed_341 : decode cX11_mixed 341 = .ok (.ifCond .eq 17, 3) := by decide +kernel
theorem dX11_mixed_344 : decode cX11_mixed 344 = .ok (.aload_n 0, 1) := by decide +kernel
theorem dX11_mixed_345 : decode cX11_mixed 345 = .ok (.iconst 5, 1) := by decide +kernel
theorem dX11_mixed_346 : decode cX11_mixed 346 = .ok (.iconst 0, 1) := by decide +kernel
theorem dX11_mixed_347 : decode cX11_mixed 347 = .ok (.iconst 0, 1) := by decide +kernel
theorem dX11_mixed_348 : decode cX11_mixed 348 = .ok (.invokevirtual 303, 3) := by decide +kernel
theorem dX11_mixed_351 : decode cX11_mixed 351 = .ok (.ifCond .eq 7, 3) := by decide +kernel
theorem dX11_mixed_354 : decode cX11_mixed 354 = .ok (.iconst 1, 1) := by decide +kernel
theorem dX11_mixed_355 : decode cX11_mixed 355 = .ok (.goto 4, 3) := by decide +kernel
theorem dX11_mixed_358 : decode cX11_mixed 358 = .ok (.iconst 0, 1) := by decide +kernel
theorem dX11_mixed_359 : decode cX11_mixed 359 = .ok (.ireturn, 1) := by decide +kernel
theorem dX11_mixed_360 : decode cX11_mixed 360 = .ok (.iload_n 1, 1) := by decide +kernel
theorem dX11_mixed_361 : decode cX11_mixed 361 = .ok (.ifCond .eq 18, 3) := by decide +kernel
theorem dX11_mixed_364 : decode cX11_mixed 364 = .ok (.aload_n 0, 1) := by decide +kernel
theorem dX11_mixed_365 : decode cX11_mixed 365 = .ok (.bipush 6, 2) := by decide +kernel
theorem dX11_mixed_367 : decode cX11_mixed 367 = .ok (.iconst 0, 1) := by decide +kernel
theorem dX11_mixed_368 : decode cX11_mixed 368 = .ok (.iconst 0, 1) := by decide +kernel
theorem dX11_mixed_369 : decode cX11_mixed 369 = .ok (.invokevirtual 303, 3) := by decide +kernel
theorem dX11_mixed_372 : decode cX11_mixed 372 = .ok (.ifCond .eq 7, 3) := by decide +kernel
theorem dX11_mixed_375 : decode cX11_mixed 375 = .ok (.iconst 1, 1) := by decide +kernel
theorem dX11_mixed_376 : decode cX11_mixed 376 = .ok (.goto 4, 3) := by decide +kernel
theorem dX11_mixed_379 : decode cX11_mixed 379 = .ok (.iconst 0, 1) := by decide +kernel
theorem dX11_mixed_380 : decode cX11_mixed 380 = .ok (.ireturn, 1) := by decide +kernel
theorem dX11_mixed_381 : decode cX11_mixed 381 = .ok (.iload_n 1, 1) := by decide +kernel
theorem dX11_mixed_382 : decode cX11_mixed 382 = .ok (.ifCond .eq 18, 3) := by decide +kernel
theorem dX11_mixed_385 : decode cX11_mixed 385 = .ok (.aload_n 0, 1) := by decide +kernel
theorem dX11_mixed_386 : decode cX11_mixed 386 = .ok (.bipush 7, 2) := by decide +kernel
theorem dX11_mixed_388 : decode cX11_mixed 388 = .ok (.iconst 0, 1) := by decide +kernel
theorem dX11_mixed_389 : decode cX11_mixed 389 = .ok (.iconst 0, 1) := by decide +kernel
theorem dX11_mixed_390 : decode cX11_mixed 390 = .ok (.invokevirtual 303, 3) := by decide +kernel
theorem dX11_mixed_393 : decode cX11_mixed 393 = .ok (.ifCond .eq 7, 3) := by decide +kernel
theorem dX11_mixed_396 : decode cX11_mixed 396 = .ok (.iconst 1, 1) := by decide +kernel
theorem dX11_mixed_397 : decode cX11_mixed 397 = .ok (.goto 4, 3) := by decide +kernel
theorem dX11_mixed_400 : decode cX11_mixed 400 = .ok (.iconst 0, 1) := by decide +kernel
theorem dX11_mixed_401 : decode cX11_mixed 401 = .ok (.ireturn, 1) := by decide +kernel
theorem dX11_mixed_402 : decode cX11_mixed 402 = .ok (.iload_n 1, 1) := by decide +kernel
theorem dX11_mixed_403 : decode cX11_mixed 403 = .ok (.ifCond .eq 18, 3) := by decide +kernel
theorem dX11_mixed_406 : decode cX11_mixed 406 = .ok (.aload_n 0, 1) := by decide +kernel
theorem dX11_mixed_407 : decode cX11_mixed 407 = .ok (.bipush 8, 2) := by decide +kernel
theorem dX11_mixed_409 : decode cX11_mixed 409 = .ok (.iconst 0, 1) := by decide +kernel
theorem dX11_mixed_410 : decode cX11_mixed 410 = .ok (.iconst 0, 1) := by decide +kernel
theorem dX11_mixed_411 : decode cX11_mixed 411 = .ok (.invokevirtual 303, 3) := by decide +kernel
theorem dX11_mixed_414 : decode cX11_mixed 414 = .ok (.ifCond .eq 7, 3) := by decide +kernel
theorem dX11_mixed_417 : decode cX11_mixed 417 = .ok (.iconst 1, 1) := by decide +kernel
theorem dX11_mixed_418 : decode cX11_mixed 418 = .ok (.goto 4, 3) := by decide +kernel
theorem dX11_mixed_421 : decode cX11_mixed 421 = .ok (.iconst 0, 1) := by decide +kernel
theorem dX11_mixed_422 : decode cX11_mixed 422 = .ok (.ireturn, 1) := by decide +kernel
theorem dX11_mixed_423 : decode cX11_mixed 423 = .ok (.iload_n 1, 1) := by decide +kernel
theorem dX11_mixed_424 : decode cX11_mixed 424 = .ok (.ifCond .eq 18, 3) := by decide +kernel
theorem dX11_mixed_427 : decode cX11_mixed 427 = .ok (.aload_n 0, 1) := by decide +kernel
theorem dX11_mixed_428 : decode cX11_mixed 428 = .ok (.bipush 9, 2) := by decide +kernel
theorem dX11_mixed_430 : decode cX11_mixed 430 = .ok (.iconst 0, 1) := by decide +kernel
theorem dX11_mixed_431 : decode cX11_mixed 431 = .ok (.iconst 0, 1) := by decide +kernel
theorem dX11_mixed_432 : decode cX11_mixed 432 = .ok (.invokevirtual 303, 3) := by decide +kernel
theorem dX11_mixed_435 : decode cX11_mixed 435 = .ok (.ifCond .eq 7, 3) := by decide +kernel
theorem dX11_mixed_438 : decode cX11_mixed 438 = .ok (.iconst 1, 1) := by decide +kernel
theorem dX11_mixed_439 : decode cX11_mixed 439 = .ok (.goto 4, 3) := by decide +kernel
theorem dX11_mixed_442 : decode cX11_mixed 442 = .ok (.iconst 0, 1) := by decide +kernel
theorem dX11_mixed_443 : decode cX11_mixed 443 = .ok (.ireturn, 1) := by decide +kernel
theorem dX11_mixed_444 : decode cX11_mixed 444 = .ok (.aload_n 0, 1) := by decide +kernel
theorem dX11_mixed_445 : decode cX11_mixed 445 = .ok (.bipush 20, 2) := by decide +kernel
theorem dX11_mixed_447 : decode cX11_mixed 447 = .ok (.invokevirtual 275, 3) := by decide +kernel
theorem dX11_mixed_450 : decode cX11_mixed 450 = .ok (.ireturn, 1) := by decide +kernel
theorem dX11_mixed_451 : decode cX11_mixed 451 = .ok (.aload_n 0, 1) := by decide +kernel
theorem dX11_mixed_452 : decode cX11_mixed 452 = .ok (.bipush 21, 2) := by decide +kernel
theorem dX11_mixed_454 : decode cX11_mixed 454 = .ok (.invokevirtual 275, 3) := by decide +kernel
theorem dX11_mixed_457 : decode cX11_mixed 457 = .ok (.ireturn, 1) := by decide +kernel
theorem dX11_mixed_458 : decode cX11_mixed 458 = .ok (.aload_n 0, 1) := by decide +kernel
theorem dX11_mixed_459 : decode cX11_mixed 459 = .ok (.bipush 22, 2) := by decide +kernel
theorem dX11_mixed_461 : decode cX11_mixed 461 = .ok (.invokevirtual 275, 3) := by decide +kernel
theorem dX11_mixed_464 : decode cX11_mixed 464 = .ok (.ireturn, 1) := by decide +kernel
theorem dX11_mixed_465 : decode cX11_mixed 465 = .ok (.aload_n 0, 1) := by decide +kernel
theorem dX11_mixed_466 : decode cX11_mixed 466 = .ok (.bipush 23, 2) := by decide +kernel
theorem dX11_mixed_468 : decode cX11_mixed 468 = .ok (.invokevirtual 275, 3) := by decide +kernel
theorem dX11_mixed_471 : decode cX11_mixed 471 = .ok (.ireturn, 1) := by decide +kernel
theorem dX11_mixed_472 : decode cX11_mixed 472 = .ok (.iload_n 1, 1) := by decide +kernel
theorem dX11_mixed_473 : decode cX11_mixed 473 = .ok (.ifCond .ne 15, 3) := by decide +kernel
theorem dX11_mixed_476 : decode cX11_mixed 476 = .ok (.aload_n 0, 1) := by decide +kernel
theorem dX11_mixed_477 : decode cX11_mixed 477 = .ok (.iconst 1, 1) := by decide +kernel
theorem dX11_mixed_478 : decode cX11_mixed 478 = .ok (.invokevirtual 313, 3) := by decide +kernel
theorem dX11_mixed_481 : decode cX11_mixed 481 = .ok (.ifCond .eq 7, 3) := by decide +kernel
theorem dX11_mixed_484 : decode cX11_mixed 484 = .ok (.iconst 1, 1) := by decide +kernel
theorem dX11_mixed_485 : decode cX11_mixed 485 = .ok (.goto 4, 3) := by decide +kernel
theorem dX11_mixed_488 : decode cX11_mixed 488 = .ok (.iconst 0, 1) := by decide +kernel
theorem dX11_mixed_489 : decode cX11_mixed 489 = .ok (.ireturn, 1) := by decide +kernel
theorem dX11_mixed_490 : decode cX11_mixed 490 = .ok (.iload_n 1, 1) := by decide +kernel
theorem dX11_mixed_491 : decode cX11_mixed 491 = .ok (.ifCond .ne 15, 3) := by decide +kernel
theorem dX11_mixed_494 : decode cX11_mixed 494 = .ok (.aload_n 0, 1) := by decide +kernel
theorem dX11_mixed_495 : decode cX11_mixed 495 = .ok (.iconst 0, 1) := by decide +kernel
theorem dX11_mixed_496 : decode cX11_mixed 496 = .ok (.invokevirtual 313, 3) := by decide +kernel
theorem dX11_mixed_499 : decode cX11_mixed 499 = .ok (.ifCond .eq 7, 3) := by decide +kernel
theorem dX11_mixed_502 : decode cX11_mixed 502 = .ok (.iconst 1, 1) := by decide +kernel
theorem dX11_mixed_503 : decode cX11_mixed 503 = .ok (.goto 4, 3) := by decide +kernel
theorem dX11_mixed_506 : decode cX11_mixed 506 = .ok (.iconst 0, 1) := by decide +kernel
theorem dX11_mixed_507 : decode cX11_mixed 507 = .ok (.ireturn, 1) := by decide +kernel
theorem dX11_mixed_508 : decode cX11_mixed 508 = .ok (.iload_n 1, 1) := by decide +kernel
theorem dX11_mixed_509 : decode cX11_mixed 509 = .ok (.ifCond .eq 10, 3) := by decide +kernel
theorem dX11_mixed_512 : decode cX11_mixed 512 = .ok (.aload_n 0, 1) := by decide +kernel
theorem dX11_mixed_513 : decode cX11_mixed 513 = .ok (.invokevirtual 317, 3) := by decide +kernel
theorem dX11_mixed_516 : decode cX11_mixed 516 = .ok (.goto 7, 3) := by decide +kernel
theorem dX11_mixed_519 : decode cX11_mixed 519 = .ok (.aload_n 0, 1) := by decide +kernel
theorem dX11_mixed_520 : decode cX11_mixed 520 = .ok (.invokevirtual 320, 3) := by decide +kernel
theorem dX11_mixed_523 : decode cX11_mixed 523 = .ok (.ireturn, 1) := by decide +kernel
theorem dX11_mixed_524 : decode cX11_mixed 524 = .ok (.iload_n 1, 1) := by decide +kernel
theorem dX11_mixed_525 : decode cX11_mixed 525 = .ok (.ifCond .eq 14, 3) := by decide +kernel
theorem dX11_mixed_528 : decode cX11_mixed 528 = .ok (.aload_n 0, 1) := by decide +kernel
theorem dX11_mixed_529 : decode cX11_mixed 529 = .ok (.invokevirtual 323, 3) := by decide +kernel
theorem dX11_mixed_532 : decode cX11_mixed 532 = .ok (.ifCond .eq 7, 3) := by decide +kernel
theorem dX11_mixed_535 : decode cX11_mixed 535 = .ok (.iconst 1, 1) := by decide +kernel
theorem dX11_mixed_536 : decode cX11_mixed 536 = .ok (.goto 4, 3) := by decide +kernel
theorem dX11_mixed_539 : decode cX11_mixed 539 = .ok (.iconst 0, 1) := by decide +kernel
theorem dX11_mixed_540 : decode cX11_mixed 540 = .ok (.ireturn, 1) := by decide +kernel
theorem dX11_mixed_541 : decode cX11_mixed 541 = .ok (.iload_n 1, 1) := by decide +kernel
theorem dX11_mixed_542 : decode cX11_mixed 542 = .ok (.ifCond .ne 5, 3) := by decide +kernel
theorem dX11_mixed_545 : decode cX11_mixed 545 = .ok (.iconst 0, 1) := by decide +kernel
theorem dX11_mixed_546 : decode cX11_mixed 546 = .ok (.ireturn, 1) := by decide +kernel
theorem dX11_mixed_547 : decode cX11_mixed 547 = .ok (.aload_n 0, 1) := by decide +kernel
theorem dX11_mixed_548 : decode cX11_mixed 548 = .ok (.getfield 130, 3) := by decide +kernel
theorem dX11_mixed_551 : decode cX11_mixed 551 = .ok (.iconst 1, 1) := by decide +kernel
theorem dX11_mixed_552 : decode cX11_mixed 552 = .ok (.if_icmp .eq 19, 3) := by decide +kernel
theorem dX11_mixed_555 : decode cX11_mixed 555 = .ok (.aload_n 0, 1) := by decide +kernel
theorem dX11_mixed_556 : decode cX11_mixed 556 = .ok (.getfield 130, 3) := by decide +kernel
theorem dX11_mixed_559 : decode cX11_mixed 559 = .ok (.iconst 2, 1) := by decide +kernel
theorem dX11_mixed_560 : decode cX11_mixed 560 = .ok (.if_icmp .eq 11, 3) := by decide +kernel
theorem dX11_mixed_563 : decode cX11_mixed 563 = .ok (.aload_n 0, 1) := by decide +kernel
theorem dX11_mixed_564 : decode cX11_mixed 564 = .ok (.getfield 130, 3) := by decide +kernel
theorem dX11_mixed_567 : decode cX11_mixed 567 = .ok (.iconst 3, 1) := by decide +kernel
theorem dX11_mixed_568 : decode cX11_mixed 568 = .ok (.if_icmp .ne 8, 3) := by decide +kernel
theorem dX11_mixed_571 : decode cX11_mixed 571 = .ok (.aload_n 0, 1) := by decide +kernel
theorem dX11_mixed_572 : decode cX11_mixed 572 = .ok (.invokevirtual 326, 3) := by decide +kernel
theorem dX11_mixed_575 : decode cX11_mixed 575 = .ok (.ireturn, 1) := by decide +kernel
theorem dX11_mixed_576 : decode cX11_mixed 576 = .ok (.aload_n 0, 1) := by decide +kernel
theorem dX11_mixed_577 : decode cX11_mixed 577 = .ok (.getfield 130, 3) := by decide +kernel
theorem dX11_mixed_580 : decode cX11_mixed 580 = .ok (.bipush 16, 2) := by decide +kernel
theorem dX11_mixed_582 : decode cX11_mixed 582 = .ok (.if_icmp .ne 10, 3) := by decide +kernel
theorem dX11_mixed_585 : decode cX11_mixed 585 = .ok (.aload_n 0, 1) := by decide +kernel
theorem dX11_mixed_586 : decode cX11_mixed 586 = .ok (.invokevirtual 329, 3) := by decide +kernel
theorem dX11_mixed_589 : decode cX11_mixed 589 = .ok (.goto 24, 3) := by decide +kernel
theorem dX11_mixed_592 : decode cX11_mixed 592 = .ok (.aload_n 0, 1) := by decide +kernel
theorem dX11_mixed_593 : decode cX11_mixed 593 = .ok (.getfield 130, 3) := by decide +kernel
theorem dX11_mixed_596 : decode cX11_mixed 596 = .ok (.bipush 17, 2) := by decide +kernel
theorem dX11_mixed_598 : decode cX11_mixed 598 = .ok (.if_icmp .ne 14, 3) := by decide +kernel
theorem dX11_mixed_601 : decode cX11_mixed 601 = .ok (.aload_n 0, 1) := by decide +kernel
theorem dX11_mixed_602 : decode cX11_mixed 602 = .ok (.invokevirtual 332, 3) := by decide +kernel
theorem dX11_mixed_605 : decode cX11_mixed 605 = .ok (.ifCond .eq 7, 3) := by decide +kernel
theorem dX11_mixed_608 : decode cX11_mixed 608 = .ok (.iconst 1, 1) := by decide +kernel
theorem dX11_mixed_609 : decode cX11_mixed 609 = .ok (.goto 4, 3) := by decide +kernel
theorem dX11_mixed_612 : decode cX11_mixed 612 = .ok (.iconst 0, 1) := by decide +kernel
theorem dX11_mixed_613 : decode cX11_mixed 613 = .ok (.ireturn, 1) := by decide +kernel
theorem dX11_mixed_614 : decode cX11_mixed 614 = .ok (.iload_n 1, 1) := by decide +kernel
theorem dX11_mixed_615 : decode cX11_mixed 615 = .ok (.ifCond .eq 14, 3) := by decide +kernel
theorem dX11_mixed_618 : decode cX11_mixed 618 = .ok (.aload_n 0, 1) := by decide +kernel
theorem dX11_mixed_619 : decode cX11_mixed 619 = .ok (.invokevirtual 335, 3) := by decide +kernel
theorem dX11_mixed_622 : decode cX11_mixed 622 = .ok (.ifCond .eq 7, 3) := by decide +kernel
theorem dX11_mixed_625 : decode cX11_mixed 625 = .ok (.iconst 1, 1) := by decide +kernel
theorem dX11_mixed_626 : decode cX11_mixed 626 = .ok (.goto 4, 3) := by decide +kernel
theorem dX11_mixed_629 : decode cX11_mixed 629 = .ok (.iconst 0, 1) := by decide +kernel
theorem dX11_mixed_630 : decode cX11_mixed 630 = .ok (.ireturn, 1) := by decide +kernel
theorem dX11_mixed_631 : decode cX11_mixed 631 = .ok (.iload_n 1, 1) := by decide +kernel
theorem dX11_mixed_632 : decode cX11_mixed 632 = .ok (.ifCond .eq 18, 3) := by decide +kernel
theorem dX11_mixed_635 : decode cX11_mixed 635 = .ok (.aload_n 0, 1) := by decide +kernel
theorem dX11_mixed_636 : decode cX11_mixed 636 = .ok (.aload_n 0, 1) := by decide +kernel
theorem dX11_mixed_637 : decode cX11_mixed 637 = .ok (.getfield 150, 3) := by decide +kernel
theorem dX11_mixed_640 : decode cX11_mixed 640 = .ok (.invokevirtual 338, 3) := by decide +kernel
theorem dX11_mixed_643 : decode cX11_mixed 643 = .ok (.ifCond .eq 7, 3) := by decide +kernel
theorem dX11_mixed_646 : decode cX11_mixed 646 = .ok (.iconst 1, 1) := by decide +kernel
theorem dX11_mixed_647 : decode cX11_mixed 647 = .ok (.goto 4, 3) := by decide +kernel
theorem dX11_mixed_650 : decode cX11_mixed 650 = .ok (.iconst 0, 1) := by decide +kernel
theorem dX11_mixed_651 : decode cX11_mixed 651 = .ok (.ireturn, 1) := by decide +kernel
theorem dX11_mixed_652 : decode cX11_mixed 652 = .ok (.aload_n 0, 1) := by decide +kernel
theorem dX11_mixed_653 : decode cX11_mixed 653 = .ok (.bipush 28, 2) := by decide +kernel
theorem dX11_mixed_655 : decode cX11_mixed 655 = .ok (.invokevirtual 275, 3) := by decide +kernel
theorem dX11_mixed_658 : decode cX11_mixed 658 = .ok (.ireturn, 1) := by decide +kernel
theorem dX11_mixed_659 : decode cX11_mixed 659 = .ok (.aload_n 0, 1) := by decide +kernel
theorem dX11_mixed_660 : decode cX11_mixed 660 = .ok (.bipush 29, 2) := by decide +kernel
theorem dX11_mixed_662 : decode cX11_mixed 662 = .ok (.invokevirtual 275, 3) := by decide +kernel
theorem dX11_mixed_665 : decode cX11_mixed 665 = .ok (.ireturn, 1) := by decide +kernel
theorem dX11_mixed_666 : decode cX11_mixed 666 = .ok (.aload_n 0, 1) := by decide +kernel
theorem dX11_mixed_667 : decode cX11_mixed 667 = .ok (.bipush 30, 2) := by decide +kernel
theorem dX11_mixed_669 : decode cX11_mixed 669 = .ok (.invokevirtual 275, 3) := by decide +kernel
theorem dX11_mixed_672 : decode cX11_mixed 672 = .ok (.ireturn, 1) := by decide +kernel
theorem dX11_mixed_673 : decode cX11_mixed 673 = .ok (.aload_n 0, 1) := by decide +kernel
theorem dX11_mixed_674 : decode cX11_mixed 674 = .ok (.bipush 31, 2) := by decide +kernel
theorem dX11_mixed_676 : decode cX11_mixed 676 = .ok (.invokevirtual 275, 3) := by decide +kernel
theorem dX11_mixed_679 : decode cX11_mixed 679 = .ok (.ireturn, 1) := by decide +kernel
theorem dX11_mixed_680 : decode cX11_mixed 680 = .ok (.aload_n 0, 1) := by decide +kernel
theorem dX11_mixed_681 : decode cX11_mixed 681 = .ok (.bipush 26, 2) := by decide +kernel
theorem dX11_mixed_683 : decode cX11_mixed 683 = .ok (.invokevirtual 275, 3) := by decide +kernel
theorem dX11_mixed_686 : decode cX11_mixed 686 = .ok (.ireturn, 1) := by decide +kernel
theorem dX11_mixed_687 : decode cX11_mixed 687 = .ok (.aload_n 0, 1) := by decide +kernel
theorem dX11_mixed_688 : decode cX11_mixed 688 = .ok (.bipush 24, 2) := by decide +kernel
theorem dX11_mixed_690 : decode cX11_mixed 690 = .ok (.invokevirtual 275, 3) := by decide +kernel
theorem dX11_mixed_693 : decode cX11_mixed 693 = .ok (.ireturn, 1) := by decide +kernel
theorem dX11_mixed_694 : decode cX11_mixed 694 = .ok (.aload_n 0, 1) := by decide +kernel
theorem dX11_mixed_695 : decode cX11_mixed 695 = .ok (.bipush 27, 2) := by decide +kernel
theorem dX11_mixed_697 : decode cX11_mixed 697 = .ok (.invokevirtual 275, 3) := by decide +kernel
theorem dX11_mixed_700 : decode cX11_mixed 700 = .ok (.ireturn, 1) := by decide +kernel
theorem dX11_mixed_701 : decode cX11_mixed 701 = .ok (.aload_n 0, 1) := by decide +kernel
theorem dX11_mixed_702 : decode cX11_mixed 702 = .ok (.bipush 25, 2) := by decide +kernel
theorem dX11_mixed_704 : decode cX11_mixed 704 = .ok (.invokevirtual 275, 3) := by decide +kernel
theorem dX11_mixed_707 : decode cX11_mixed 707 = .ok (.ireturn, 1) := by decide +kernel
theorem dX11_mixed_708 : decode cX11_mixed 708 = .ok (.aload_n 0, 1) := by decide +kernel
theorem dX11_mixed_709 : decode cX11_mixed 709 = .ok (.bipush 34, 2) := by decide +kernel
theorem dX11_mixed_711 : decode cX11_mixed 711 = .ok (.invokevirtual 275, 3) := by decide +kernel
theorem dX11_mixed_714 : decode cX11_mixed 714 = .ok (.ireturn, 1) := by decide +kernel
theorem dX11_mixed_715 : decode cX11_mixed 715 = .ok (.aload_n 0, 1) := by decide +kernel
theorem dX11_mixed_716 : decode cX11_mixed 716 = .ok (.bipush 35, 2) := by decide +kernel
theorem dX11_mixed_718 : decode cX11_mixed 718 = .ok (.invokevirtual 275, 3) := by decide +kernel
theorem dX11_mixed_721 : decode cX11_mixed 721 = .ok (.ireturn, 1) := by decide +kernel
theorem dX11_mixed_722 : decode cX11_mixed 722 = .ok (.aload_n 0, 1) := by decide +kernel
theorem dX11_mixed_723 : decode cX11_mixed 723 = .ok (.bipush 32, 2) := by decide +kernel
theorem dX11_mixed_725 : decode cX11_mixed 725 = .ok (.invokevirtual 275, 3) := by decide +kernel
theorem dX11_mixed_728 : decode cX11_mixed 728 = .ok (.ireturn, 1) := by decide +kernel
theorem dX11_mixed_729 : decode cX11_mixed 729 = .ok (.aload_n 0, 1) := by decide +kernel
theorem dX11_mixed_730 : decode cX11_mixed 730 = .ok (.bipush 33, 2) := by decide +kernel
theorem dX11_mixed_732 : decode cX11_mixed 732 = .ok (.invokevirtual 275, 3) := by decide +kernel
theorem dX11_mixed_735 : decode cX11_mixed 735 = .ok (.ireturn, 1) := by decide +kernel
theorem dX11_mixed_736 : decode cX11_mixed 736 = .ok (.aload_n 0, 1) := by decide +kernel
theorem dX11_mixed_737 : decode cX11_mixed 737 = .ok (.iconst 0, 1) := by decide +kernel
theorem dX11_mixed_738 : decode cX11_mixed 738 = .ok (.iconst 0, 1) := by decide +kernel
theorem dX11_mixed_739 : decode cX11_mixed 739 = .ok (.iconst 0, 1) := by decide +kernel
theorem dX11_mixed_740 : decode cX11_mixed 740 = .ok (.invokevirtual 341, 3) := by decide +kernel
theorem dX11_mixed_743 : decode cX11_mixed 743 = .ok (.ireturn, 1) := by decide +kernel
theorem dX11_mixed_744 : decode cX11_mixed 744 = .ok (.aload_n 0, 1) := by decide +kernel
theorem dX11_mixed_745 : decode cX11_mixed 745 = .ok (.iconst 1, 1) := by decide +kernel
theorem dX11_mixed_746 : decode cX11_mixed 746 = .ok (.iconst 0, 1) := by decide +kernel
theorem dX11_mixed_747 : decode cX11_mixed 747 = .ok (.iconst 0, 1) := by decide +kernel
theorem dX11_mixed_748 : decode cX11_mixed 748 = .ok (.invokevirtual 341, 3) := by decide +kernel
theorem dX11_mixed_751 : decode cX11_mixed 751 = .ok (.ireturn, 1) := by decide +kernel
theorem dX11_mixed_752 : decode cX11_mixed 752 = .ok (.aload_n 0, 1) := by decide +kernel
theorem dX11_mixed_753 : decode cX11_mixed 753 = .ok (.iconst 0, 1) := by decide +kernel
theorem dX11_mixed_754 : decode cX11_mixed 754 = .ok (.iconst 1, 1) := by decide +kernel
theorem dX11_mixed_755 : decode cX11_mixed 755 = .ok (.iconst 0, 1) := by decide +kernel
theorem dX11_mixed_756 : decode cX11_mixed 756 = .ok (.invokevirtual 341, 3) := by decide +kernel
theorem dX11_mixed_759 : decode cX11_mixed 759 = .ok (.ireturn, 1) := by decide +kernel
theorem dX11_mixed_760 : decode cX11_mixed 760 = .ok (.aload_n 0, 1) := by decide +kernel
theorem dX11_mixed_761 : decode cX11_mixed 761 = .ok (.iconst 1, 1) := by decide +kernel
theorem dX11_mixed_762 : decode cX11_mixed 762 = .ok (.iconst 1, 1) := by decide +kernel
theorem dX11_mixed_763 : decode cX11_mixed 763 = .ok (.iconst 0, 1) := by decide +kernel
theorem dX11_mixed_764 : decode cX11_mixed 764 = .ok (.invokevirtual 341, 3) := by decide +kernel
theorem dX11_mixed_767 : decode cX11_mixed 767 = .ok (.ireturn, 1) := by decide +kernel
theorem dX11_mixed_768 : decode cX11_mixed 768 = .ok (.aload_n 0, 1) := by decide +kernel
theorem dX11_mixed_769 : decode cX11_mixed 769 = .ok (.iconst 0, 1) := by decide +kernel
theorem dX11_mixed_770 : decode cX11_mixed 770 = .ok (.iconst 0, 1) := by decide +kernel
theorem dX11_mixed_771 : decode cX11_mixed 771 = .ok (.iconst 1, 1) := by decide +kernel
theorem dX11_mixed_772 : decode cX11_mixed 772 = .ok (.invokevirtual 341, 3) := by decide +kernel
theorem dX11_mixed_775 : decode cX11_mixed 775 = .ok (.ireturn, 1) := by decide +kernel
theorem dX11_mixed_776 : decode cX11_mixed 776 = .ok (.aload_n 0, 1) := by decide +kernel
theorem dX11_mixed_777 : decode cX11_mixed 777 = .ok (.iconst 1, 1) := by decide +kernel
theorem dX11_mixed_778 : decode cX11_mixed 778 = .ok (.iconst 0, 1) := by decide +kernel
theorem dX11_mixed_779 : decode cX11_mixed 779 = .ok (.iconst 1, 1) := by decide +kernel
theorem dX11_mixed_780 : decode cX11_mixed 780 = .ok (.invokevirtual 341, 3) := by decide +kernel
theorem dX11_mixed_783 : decode cX11_mixed 783 = .ok (.ireturn, 1) := by decide +kernel
theorem dX11_mixed_784 : decode cX11_mixed 784 = .ok (.aload_n 0, 1) := by decide +kernel
theorem dX11_mixed_785 : decode cX11_mixed 785 = .ok (.iconst 0, 1) := by decide +kernel
theorem dX11_mixed_786 : decode cX11_mixed 786 = .ok (.iconst 1, 1) := by decide +kernel
theorem dX11_mixed_787 : decode cX11_mixed 787 = .ok (.iconst 1, 1) := by decide +kernel
theorem dX11_mixed_788 : decode cX11_mixed 788 = .ok (.invokevirtual 341, 3) := by decide +kernel
theorem dX11_mixed_791 : decode cX11_mixed 791 = .ok (.ireturn, 1) := by decide +kernel
theorem dX11_mixed_792 : decode cX11_mixed 792 = .ok (.aload_n 0, 1) := by decide +kernel
theorem dX11_mixed_793 : decode cX11_mixed 793 = .ok (.iconst 1, 1) := by decide +kernel
theorem dX11_mixed_794 : decode cX11_mixed 794 = .ok (.iconst 1, 1) := by decide +kernel
theorem dX11_mixed_795 : decode cX11_mixed 795 = .ok (.iconst 1, 1) := by decide +kernel
theorem dX11_mixed_796 : decode cX11_mixed 796 = .ok (.invokevirtual 341, 3) := by decide +kernel
theorem dX11_mixed_799 : decode cX11_mixed 799 = .ok (.ireturn, 1) := by decide +kernel
theorem dX11_mixed_800 : decode cX11_mixed 800 = .ok (.aload_n 0, 1) := by decide +kernel
theorem dX11_mixed_801 : decode cX11_mixed 801 = .ok (.iconst 0, 1) := by decide +kernel
theorem dX11_mixed_802 : decode cX11_mixed 802 = .ok (.iconst 0, 1) := by decide +kernel
theorem dX11_mixed_803 : decode cX11_mixed 803 = .ok (.iconst 0, 1) := by decide +kernel
theorem dX11_mixed_804 : decode cX11_mixed 804 = .ok (.invokevirtual 345, 3) := by decide +kernel
theorem dX11_mixed_807 : decode cX11_mixed 807 = .ok (.ireturn, 1) := by decide +kernel
theorem dX11_mixed_808 : decode cX11_mixed 808 = .ok (.aload_n 0, 1) := by decide +kernel
theorem dX11_mixed_809 : decode cX11_mixed 809 = .ok (.iconst 1, 1) := by decide +kernel
theorem dX11_mixed_810 : decode cX11_mixed 810 = .ok (.iconst 0, 1) := by decide +kernel
theorem dX11_mixed_811 : decode cX11_mixed 811 = .ok (.iconst 0, 1) := by decide +kernel
theorem dX11_mixed_812 : decode cX11_mixed 812 = .ok (.invokevirtual 345, 3) := by decide +kernel
theorem dX11_mixed_815 : decode cX11_mixed 815 = .ok (.ireturn, 1) := by decide +kernel
theorem dX11_mixed_816 : decode cX11_mixed 816 = .ok (.aload_n 0, 1) := by decide +kernel
theorem dX11_mixed_817 : decode cX11_mixed 817 = .ok (.iconst 1, 1) := by decide +kernel
theorem dX11_mixed_818 : decode cX11_mixed 818 = .ok (.iconst 1, 1) := by decide +kernel
theorem dX11_mixed_819 : decode cX11_mixed 819 = .ok (.iconst 0, 1) := by decide +kernel
theorem dX11_mixed_820 : decode cX11_mixed 820 = .ok (.invokevirtual 345, 3) := by decide +kernel
theorem dX11_mixed_823 : decode cX11_mixed 823 = .ok (.ireturn, 1) := by decide +kernel
theorem dX11_mixed_824 : decode cX11_mixed 824 = .ok (.aload_n 0, 1) := by decide +kernel
theorem dX11_mixed_825 : decode cX11_mixed 825 = .ok (.iconst 0, 1) := by decide +kernel
theorem dX11_mixed_826 : decode cX11_mixed 826 = .ok (.iconst 0, 1) := by decide +kernel
theorem dX11_mixed_827 : decode cX11_mixed 827 = .ok (.iconst 1, 1) := by decide +kernel
theorem dX11_mixed_828 : decode cX11_mixed 828 = .ok (.invokevirtual 345, 3) := by decide +kernel
theorem dX11_mixed_831 : decode cX11_mixed 831 = .ok (.ireturn, 1) := by decide +kernel
theorem dX11_mixed_832 : decode cX11_mixed 832 = .ok (.aload_n 0, 1) := by decide +kernel
theorem dX11_mixed_833 : decode cX11_mixed 833 = .ok (.iconst 1, 1) := by decide +kernel
theorem dX11_mixed_834 : decode cX11_mixed 834 = .ok (.iconst 1, 1) := by decide +kernel
theorem dX11_mixed_835 : decode cX11_mixed 835 = .ok (.iconst 1, 1) := by decide +kernel
theorem dX11_mixed_836 : decode cX11_mixed 836 = .ok (.invokevirtual 345, 3) := by decide +kernel
theorem dX11_mixed_839 : decode cX11_mixed 839 = .ok (.ireturn, 1) := by decide +kernel
theorem dX11_mixed_840 : decode cX11_mixed 840 = .ok (.iload_n 1, 1) := by decide +kernel
theorem dX11_mixed_841 : decode cX11_mixed 841 = .ok (.ifCond .ne 17, 3) := by decide +kernel
theorem dX11_mixed_844 : decode cX11_mixed 844 = .ok (.aload_n 0, 1) := by decide +kernel
theorem dX11_mixed_845 : decode cX11_mixed 845 = .ok (.iconst 1, 1) := by decide +kernel
theorem dX11_mixed_846 : decode cX11_mixed 846 = .ok (.iconst 0, 1) := by decide +kernel
theorem dX11_mixed_847 : decode cX11_mixed 847 = .ok (.iconst 1, 1) := by decide +kernel
theorem dX11_mixed_848 : decode cX11_mixed 848 = .ok (.invokevirtual 345, 3) := by decide +kernel
theorem dX11_mixed_851 : decode cX11_mixed 851 = .ok (.ifCond .eq 7, 3) := by decide +kernel
theorem dX11_mixed_854 : decode cX11_mixed 854 = .ok (.iconst 1, 1) := by decide +kernel
theorem dX11_mixed_855 : decode cX11_mixed 855 = .ok (.goto 4, 3) := by decide +kernel
theorem dX11_mixed_858 : decode cX11_mixed 858 = .ok (.iconst 0, 1) := by decide +kernel
theorem dX11_mixed_859 : decode cX11_mixed 859 = .ok (.ireturn, 1) := by decide +kernel
theorem dX11_mixed_860 : decode cX11_mixed 860 = .ok (.aload_n 0, 1) := by decide +kernel
theorem dX11_mixed_861 : decode cX11_mixed 861 = .ok (.iconst 0, 1) := by decide +kernel
theorem dX11_mixed_862 : decode cX11_mixed 862 = .ok (.iconst 1, 1) := by decide +kernel
theorem dX11_mixed_863 : decode cX11_mixed 863 = .ok (.iconst 1, 1) := by decide +kernel
theorem dX11_mixed_864 : decode cX11_mixed 864 = .ok (.invokevirtual 345, 3) := by decide +kernel
theorem dX11_mixed_867 : decode cX11_mixed 867 = .ok (.ireturn, 1) := by decide +kernel
theorem dX11_mixed_868 : decode cX11_mixed 868 = .ok (.iconst 0, 1) := by decide +kernel
theorem dX11_mixed_869 : decode cX11_mixed 869 = .ok (.ireturn, 1) := by decide +kernel
theorem dX11_fails_0 : decode cX11_fails 0 = .ok (.iconst 0, 1) := by decide +kernel
theorem dX11_fails_1 : decode cX11_fails 1 = .ok (.istore_n 3, 1) := by decide +kernel
theorem dX11_fails_2 : decode cX11_fails 2 = .ok (.iconst 0, 1) := by decide +kernel
theorem dX11_fails_3 : decode cX11_fails 3 = .ok (.istore 4, 2) := by decide +kernel
theorem dX11_fails_5 : decode cX11_fails 5 = .ok (.iload 4, 2) := by decide +kernel
theorem dX11_fails_7 : decode cX11_fails 7 = .ok (.iload_n 2, 1) := by decide +kernel
theorem dX11_fails_8 : decode cX11_fails 8 = .ok (.if_icmp .ge 51, 3) := by decide +kernel
theorem dX11_fails_11 : decode cX11_fails 11 = .ok (.iload_n 1, 1) := by decide +kernel
theorem dX11_fails_12 : decode cX11_fails 12 = .ok (.iload 4, 2) := by decide +kernel
theorem dX11_fails_14 : decode cX11_fails 14 = .ok (.iadd, 1) := by decide +kernel
theorem dX11_fails_15 : decode cX11_fails 15 = .ok (.istore 5, 2) := by decide +kernel
theorem dX11_fails_17 : decode cX11_fails 17 = .ok (.iload_n 3, 1) := by decide +kernel
theorem dX11_fails_18 : decode cX11_fails 18 = .ok (.ifCond .ne 29, 3) := by decide +kernel
theorem dX11_fails_21 : decode cX11_fails 21 = .ok (.iload 5, 2) := by decide +kernel
theorem dX11_fails_23 : decode cX11_fails 23 = .ok (.ifCond .lt 24, 3) := by decide +kernel
theorem dX11_fails_26 : decode cX11_fails 26 = .ok (.iload 5, 2) := by decide +kernel
theorem dX11_fails_28 : decode cX11_fails 28 = .ok (.sipush 1024, 3) := by decide +kernel
theorem dX11_fails_31 : decode cX11_fails 31 = .ok (.if_icmp .ge 16, 3) := by decide +kernel
theorem dX11_fails_34 : decode cX11_fails 34 = .ok (.aload_n 0, 1) := by decide +kernel
theorem dX11_fails_35 : decode cX11_fails 35 = .ok (.getfield 22, 3) := by decide +kernel
theorem dX11_fails_38 : decode cX11_fails 38 = .ok (.iload 5, 2) := by decide +kernel
theorem dX11_fails_40 : decode cX11_fails 40 = .ok (.bipush 64, 2) := by decide +kernel
theorem dX11_fails_42 : decode cX11_fails 42 = .ok (.idiv, 1) := by decide +kernel
theorem dX11_fails_43 : decode cX11_fails 43 = .ok (.baload, 1) := by decide +kernel
theorem dX11_fails_44 : decode cX11_fails 44 = .ok (.ifCond .eq 7, 3) := by decide +kernel
theorem dX11_fails_47 : decode cX11_fails 47 = .ok (.iconst 1, 1) := by decide +kernel
theorem dX11_fails_48 : decode cX11_fails 48 = .ok (.goto 4, 3) := by decide +kernel
theorem dX11_fails_51 : decode cX11_fails 51 = .ok (.iconst 0, 1) := by decide +kernel
theorem dX11_fails_52 : decode cX11_fails 52 = .ok (.istore_n 3, 1) := by decide +kernel
theorem dX11_fails_53 : decode cX11_fails 53 = .ok (.iinc 4 1, 3) := by decide +kernel
theorem dX11_fails_56 : decode cX11_fails 56 = .ok (.goto (-51), 3) := by decide +kernel
theorem dX11_fails_59 : decode cX11_fails 59 = .ok (.iload_n 3, 1) := by decide +kernel
theorem dX11_fails_60 : decode cX11_fails 60 = .ok (.ireturn, 1) := by decide +kernel
theorem dX11_access_0 : decode cX11_access 0 = .ok (.iload_n 1, 1) := by decide +kernel
theorem dX11_access_1 : decode cX11_access 1 = .ok (.ifCond .eq 57, 3) := by decide +kernel
theorem dX11_access_4 : decode cX11_access 4 = .ok (.lconst 0, 1) := by decide +kernel
theorem dX11_access_5 : decode cX11_access 5 = .ok (.lstore 6, 2) := by decide +kernel
theorem dX11_access_7 : decode cX11_access 7 = .ok (.iload_n 3, 1) := by decide +kernel
theorem dX11_access_8 : decode cX11_access 8 = .ok (.bipush 8, 2) := by decide +kernel
theorem dX11_access_10 : decode cX11_access 10 = .ok (.idiv, 1) := by decide +kernel
theorem dX11_access_11 : decode cX11_access 11 = .ok (.iconst 1, 1) := by decide +kernel
theorem dX11_access_12 : decode cX11_access 12 = .ok (.isub, 1) := by decide +kernel
theorem dX11_access_13 : decode cX11_access 13 = .ok (.istore 8, 2) := by decide +kernel
theorem dX11_access_15 : decode cX11_access 15 = .ok (.iload 8, 2) := by decide +kernel
theorem dX11_access_17 : decode cX11_access 17 = .ok (.ifCond .lt 28, 3) := by decide +kernel
theorem dX11_access_20 : decode cX11_access 20 = .ok (.lload 6, 2) := by decide +kernel
theorem dX11_access_22 : decode cX11_access 22 = .ok (.bipush 8, 2) := by decide +kernel
theorem dX11_access_24 : decode cX11_access 24 = .ok (.lshl, 1) := by decide +kernel
theorem dX11_access_25 : decode cX11_access 25 = .ok (.aload_n 0, 1) := by decide +kernel
theorem dX11_access_26 : decode cX11_access 26 = .ok (.getfield 19, 3) := by decide +kernel
theorem dX11_access_29 : decode cX11_access 29 = .ok (.iload 5, 2) := by decide +kernel
theorem dX11_access_31 : decode cX11_access 31 = .ok (.iload 8, 2) := by decide +kernel
theorem dX11_access_33 : decode cX11_access 33 = .ok (.iadd, 1) := by decide +kernel
theorem dX11_access_34 : decode cX11_access 34 = .ok (.iaload, 1) := by decide +kernel
theorem dX11_access_35 : decode cX11_access 35 = .ok (.i2l, 1) := by decide +kernel
theorem dX11_access_36 : decode cX11_access 36 = .ok (.lor, 1) := by decide +kernel
theorem dX11_access_37 : decode cX11_access 37 = .ok (.lstore 6, 2) := by decide +kernel
theorem dX11_access_39 : decode cX11_access 39 = .ok (.iinc 8 (-1), 3) := by decide +kernel
theorem dX11_access_42 : decode cX11_access 42 = .ok (.goto (-27), 3) := by decide +kernel
theorem dX11_access_45 : decode cX11_access 45 = .ok (.aload_n 0, 1) := by decide +kernel
theorem dX11_access_46 : decode cX11_access 46 = .ok (.iload_n 2, 1) := by decide +kernel
theorem dX11_access_47 : decode cX11_access 47 = .ok (.iload_n 3, 1) := by decide +kernel
theorem dX11_access_48 : decode cX11_access 48 = .ok (.iload 4, 2) := by decide +kernel
theorem dX11_access_50 : decode cX11_access 50 = .ok (.lload 6, 2) := by decide +kernel
theorem dX11_access_52 : decode cX11_access 52 = .ok (.invokevirtual 69, 3) := by decide +kernel
theorem dX11_access_55 : decode cX11_access 55 = .ok (.goto 54, 3) := by decide +kernel
theorem dX11_access_58 : decode cX11_access 58 = .ok (.aload_n 0, 1) := by decide +kernel
theorem dX11_access_59 : decode cX11_access 59 = .ok (.iload_n 2, 1) := by decide +kernel
theorem dX11_access_60 : decode cX11_access 60 = .ok (.iload_n 3, 1) := by decide +kernel
theorem dX11_access_61 : decode cX11_access 61 = .ok (.iload 4, 2) := by decide +kernel
theorem dX11_access_63 : decode cX11_access 63 = .ok (.invokevirtual 133, 3) := by decide +kernel
theorem dX11_access_66 : decode cX11_access 66 = .ok (.lstore 6, 2) := by decide +kernel
theorem dX11_access_68 : decode cX11_access 68 = .ok (.iconst 0, 1) := by decide +kernel
theorem dX11_access_69 : decode cX11_access 69 = .ok (.istore 8, 2) := by decide +kernel
theorem dX11_access_71 : decode cX11_access 71 = .ok (.iload 8, 2) := by decide +kernel
theorem dX11_access_73 : decode cX11_access 73 = .ok (.iload_n 3, 1) := by decide +kernel
theorem dX11_access_74 : decode cX11_access 74 = .ok (.bipush 8, 2) := by decide +kernel
theorem dX11_access_76 : decode cX11_access 76 = .ok (.idiv, 1) := by decide +kernel
theorem dX11_access_77 : decode cX11_access 77 = .ok (.if_icmp .ge 32, 3) := by decide +kernel
theorem dX11_access_80 : decode cX11_access 80 = .ok (.aload_n 0, 1) := by decide +kernel
theorem dX11_access_81 : decode cX11_access 81 = .ok (.getfield 19, 3) := by decide +kernel
theorem dX11_access_84 : decode cX11_access 84 = .ok (.iload 5, 2) := by decide +kernel
theorem dX11_access_86 : decode cX11_access 86 = .ok (.iload 8, 2) := by decide +kernel
theorem dX11_access_88 : decode cX11_access 88 = .ok (.iadd, 1) := by decide +kernel
theorem dX11_access_89 : decode cX11_access 89 = .ok (.lload 6, 2) := by decide +kernel
theorem dX11_access_91 : decode cX11_access 91 = .ok (.bipush 8, 2) := by decide +kernel
theorem dX11_access_93 : decode cX11_access 93 = .ok (.iload 8, 2) := by decide +kernel
theorem dX11_access_95 : decode cX11_access 95 = .ok (.imul, 1) := by decide +kernel
theorem dX11_access_96 : decode cX11_access 96 = .ok (.lshr, 1) := by decide +kernel
theorem dX11_access_97 : decode cX11_access 97 = .ok (.l2i, 1) := by decide +kernel
theorem dX11_access_98 : decode cX11_access 98 = .ok (.sipush 255, 3) := by decide +kernel
theorem dX11_access_101 : decode cX11_access 101 = .ok (.iand, 1) := by decide +kernel
theorem dX11_access_102 : decode cX11_access 102 = .ok (.iastore, 1) := by decide +kernel
theorem dX11_access_103 : decode cX11_access 103 = .ok (.iinc 8 1, 3) := by decide +kernel
theorem dX11_access_106 : decode cX11_access 106 = .ok (.goto (-35), 3) := by decide +kernel
theorem dX11_access_109 : decode cX11_access 109 = .ok (.return_, 1) := by decide +kernel
theorem dX11_walks_0 : decode cX11_walks 0 = .ok (.aload_n 0, 1) := by decide +kernel
theorem dX11_walks_1 : decode cX11_walks 1 = .ok (.getfield 176, 3) := by decide +kernel
theorem dX11_walks_4 : decode cX11_walks 4 = .ok (.istore 8, 2) := by decide +kernel
theorem dX11_walks_6 : decode cX11_walks 6 = .ok (.iload 8, 2) := by decide +kernel
theorem dX11_walks_8 : decode cX11_walks 8 = .ok (.iload_n 3, 1) := by decide +kernel
theorem dX11_walks_9 : decode cX11_walks 9 = .ok (.if_icmp .ge 138, 3) := by decide +kernel
theorem dX11_walks_12 : decode cX11_walks 12 = .ok (.iload 5, 2) := by decide +kernel
theorem dX11_walks_14 : decode cX11_walks 14 = .ok (.ifCond .ne 30, 3) := by decide +kernel
theorem dX11_walks_17 : decode cX11_walks 17 = .ok (.aload_n 0, 1) := by decide +kernel
theorem dX11_walks_18 : decode cX11_walks 18 = .ok (.iload 8, 2) := by decide +kernel
theorem dX11_walks_20 : decode cX11_walks 20 = .ok (.invokevirtual 244, 3) := by decide +kernel
theorem dX11_walks_23 : decode cX11_walks 23 = .ok (.ifCond .ne 21, 3) := by decide +kernel
theorem dX11_walks_26 : decode cX11_walks 26 = .ok (.iload_n 1, 1) := by decide +kernel
theorem dX11_walks_27 : decode cX11_walks 27 = .ok (.ifCond .eq 114, 3) := by decide +kernel
theorem dX11_walks_30 : decode cX11_walks 30 = .ok (.aload_n 0, 1) := by decide +kernel
theorem dX11_walks_31 : decode cX11_walks 31 = .ok (.aload_n 0, 1) := by decide +kernel
theorem dX11_walks_32 : decode cX11_walks 32 = .ok (.getfield 111, 3) := by decide +kernel
theorem dX11_walks_35 : decode cX11_walks 35 = .ok (.iload_n 2, 1) := by decide +kernel
theorem dX11_walks_36 : decode cX11_walks 36 = .ok (.iload 8, 2) := by decide +kernel
theorem dX11_walks_38 : decode cX11_walks 38 = .ok (.invokevirtual 247, 3) := by decide +kernel
theorem dX11_walks_41 : decode cX11_walks 41 = .ok (.goto 100, 3) := by decide +kernel
theorem dX11_walks_44 : decode cX11_walks 44 = .ok (.aload_n 0, 1) := by decide +kernel
theorem dX11_walks_45 : decode cX11_walks 45 = .ok (.getfield 7, 3) := by decide +kernel
theorem dX11_walks_48 : decode cX11_walks 48 = .ok (.aload_n 0, 1) := by decide +kernel
theorem dX11_walks_49 : decode cX11_walks 49 = .ok (.getfield 130, 3) := by decide +kernel
theorem dX11_walks_52 : decode cX11_walks 52 = .ok (.iaload, 1) := by decide +kernel
theorem dX11_walks_53 : decode cX11_walks 53 = .ok (.iload 7, 2) := by decide +kernel
theorem dX11_walks_55 : decode cX11_walks 55 = .ok (.ifCond .le 19, 3) := by decide +kernel
theorem dX11_walks_58 : decode cX11_walks 58 = .ok (.aload_n 0, 1) := by decide +kernel
theorem dX11_walks_59 : decode cX11_walks 59 = .ok (.aload_n 0, 1) := by decide +kernel
theorem dX11_walks_60 : decode cX11_walks 60 = .ok (.getfield 147, 3) := by decide +kernel
theorem dX11_walks_63 : decode cX11_walks 63 = .ok (.iload 7, 2) := by decide +kernel
theorem dX11_walks_65 : decode cX11_walks 65 = .ok (.iload 8, 2) := by decide +kernel
theorem dX11_walks_67 : decode cX11_walks 67 = .ok (.invokevirtual 133, 3) := by decide +kernel
theorem dX11_walks_70 : decode cX11_walks 70 = .ok (.l2i, 1) := by decide +kernel
theorem dX11_walks_71 : decode cX11_walks 71 = .ok (.goto 8, 3) := by decide +kernel
theorem dX11_walks_74 : decode cX11_walks 74 = .ok (.iload 8, 2) := by decide +kernel
theorem dX11_walks_76 : decode cX11_walks 76 = .ok (.iload 4, 2) := by decide +kernel
theorem dX11_walks_78 : decode cX11_walks 78 = .ok (.imul, 1) := by decide +kernel
theorem dX11_walks_79 : decode cX11_walks 79 = .ok (.iadd, 1) := by decide +kernel
theorem dX11_walks_80 : decode cX11_walks 80 = .ok (.istore 9, 2) := by decide +kernel
theorem dX11_walks_82 : decode cX11_walks 82 = .ok (.aload_n 0, 1) := by decide +kernel
theorem dX11_walks_83 : decode cX11_walks 83 = .ok (.iload 9, 2) := by decide +kernel
theorem dX11_walks_85 : decode cX11_walks 85 = .ok (.iload_n 2, 1) := by decide +kernel
theorem dX11_walks_86 : decode cX11_walks 86 = .ok (.bipush 8, 2) := by decide +kernel
theorem dX11_walks_88 : decode cX11_walks 88 = .ok (.idiv, 1) := by decide +kernel
theorem dX11_walks_89 : decode cX11_walks 89 = .ok (.invokevirtual 348, 3) := by decide +kernel
theorem dX11_walks_92 : decode cX11_walks 92 = .ok (.ifCond .eq 35, 3) := by decide +kernel
theorem dX11_walks_95 : decode cX11_walks 95 = .ok (.iload 6, 2) := by decide +kernel
theorem dX11_walks_97 : decode cX11_walks 97 = .ok (.ifCond .eq 16, 3) := by decide +kernel
theorem dX11_walks_100 : decode cX11_walks 100 = .ok (.iload 8, 2) := by decide +kernel
theorem dX11_walks_102 : decode cX11_walks 102 = .ok (.ifCond .le 11, 3) := by decide +kernel
theorem dX11_walks_105 : decode cX11_walks 105 = .ok (.aload_n 0, 1) := by decide +kernel
theorem dX11_walks_106 : decode cX11_walks 106 = .ok (.iload 8, 2) := by decide +kernel
theorem dX11_walks_108 : decode cX11_walks 108 = .ok (.putfield 88, 3) := by decide +kernel
theorem dX11_walks_111 : decode cX11_walks 111 = .ok (.iconst 0, 1) := by decide +kernel
theorem dX11_walks_112 : decode cX11_walks 112 = .ok (.ireturn, 1) := by decide +kernel
theorem dX11_walks_113 : decode cX11_walks 113 = .ok (.aload_n 0, 1) := by decide +kernel
theorem dX11_walks_114 : decode cX11_walks 114 = .ok (.iload 8, 2) := by decide +kernel
theorem dX11_walks_116 : decode cX11_walks 116 = .ok (.putfield 176, 3) := by decide +kernel
theorem dX11_walks_119 : decode cX11_walks 119 = .ok (.aload_n 0, 1) := by decide +kernel
theorem dX11_walks_120 : decode cX11_walks 120 = .ok (.iload 9, 2) := by decide +kernel
theorem dX11_walks_122 : decode cX11_walks 122 = .ok (.putfield 351, 3) := by decide +kernel
theorem dX11_walks_125 : decode cX11_walks 125 = .ok (.iconst 2, 1) := by decide +kernel
theorem dX11_walks_126 : decode cX11_walks 126 = .ok (.ireturn, 1) := by decide +kernel
theorem dX11_walks_127 : decode cX11_walks 127 = .ok (.aload_n 0, 1) := by decide +kernel
theorem dX11_walks_128 : decode cX11_walks 128 = .ok (.iload_n 1, 1) := by decide +kernel
theorem dX11_walks_129 : decode cX11_walks 129 = .ok (.aload_n 0, 1) := by decide +kernel
theorem dX11_walks_130 : decode cX11_walks 130 = .ok (.getfield 111, 3) := by decide +kernel
theorem dX11_walks_133 : decode cX11_walks 133 = .ok (.iload_n 2, 1) := by decide +kernel
theorem dX11_walks_134 : decode cX11_walks 134 = .ok (.iload 8, 2) := by decide +kernel
theorem dX11_walks_136 : decode cX11_walks 136 = .ok (.iload 9, 2) := by decide +kernel
theorem dX11_walks_138 : decode cX11_walks 138 = .ok (.invokevirtual 354, 3) := by decide +kernel
theorem dX11_walks_141 : decode cX11_walks 141 = .ok (.iinc 8 1, 3) := by decide +kernel
theorem dX11_walks_144 : decode cX11_walks 144 = .ok (.goto (-138), 3) := by decide +kernel
theorem dX11_walks_147 : decode cX11_walks 147 = .ok (.iconst 0, 1) := by decide +kernel
theorem dX11_walks_148 : decode cX11_walks 148 = .ok (.ireturn, 1) := by decide +kernel
theorem dX11_moves_0 : decode cX11_moves 0 = .ok (.aload_n 0, 1) := by decide +kernel
theorem dX11_moves_1 : decode cX11_moves 1 = .ok (.getfield 124, 3) := by decide +kernel
theorem dX11_moves_4 : decode cX11_moves 4 = .ok (.ifCond .ne 8, 3) := by decide +kernel
theorem dX11_moves_7 : decode cX11_moves 7 = .ok (.bipush 8, 2) := by decide +kernel
theorem dX11_moves_9 : decode cX11_moves 9 = .ok (.goto 31, 3) := by decide +kernel
theorem dX11_moves_12 : decode cX11_moves 12 = .ok (.aload_n 0, 1) := by decide +kernel
theorem dX11_moves_13 : decode cX11_moves 13 = .ok (.getfield 124, 3) := by decide +kernel
theorem dX11_moves_16 : decode cX11_moves 16 = .ok (.iconst 5, 1) := by decide +kernel
theorem dX11_moves_17 : decode cX11_moves 17 = .ok (.if_icmp .ne 8, 3) := by decide +kernel
theorem dX11_moves_20 : decode cX11_moves 20 = .ok (.bipush 16, 2) := by decide +kernel
theorem dX11_moves_22 : decode cX11_moves 22 = .ok (.goto 18, 3) := by decide +kernel
theorem dX11_moves_25 : decode cX11_moves 25 = .ok (.aload_n 0, 1) := by decide +kernel
theorem dX11_moves_26 : decode cX11_moves 26 = .ok (.getfield 124, 3) := by decide +kernel
theorem dX11_moves_29 : decode cX11_moves 29 = .ok (.bipush 6, 2) := by decide +kernel
theorem dX11_moves_31 : decode cX11_moves 31 = .ok (.if_icmp .ne 8, 3) := by decide +kernel
theorem dX11_moves_34 : decode cX11_moves 34 = .ok (.bipush 32, 2) := by decide +kernel
theorem dX11_moves_36 : decode cX11_moves 36 = .ok (.goto 4, 3) := by decide +kernel
theorem dX11_moves_39 : decode cX11_moves 39 = .ok (.iconst 0, 1) := by decide +kernel
theorem dX11_moves_40 : decode cX11_moves 40 = .ok (.istore_n 2, 1) := by decide +kernel
theorem dX11_moves_41 : decode cX11_moves 41 = .ok (.aload_n 0, 1) := by decide +kernel
theorem dX11_moves_42 : decode cX11_moves 42 = .ok (.getfield 144, 3) := by decide +kernel
theorem dX11_moves_45 : decode cX11_moves 45 = .ok (.bipush 29, 2) := by decide +kernel
theorem dX11_moves_47 : decode cX11_moves 47 = .ok (.iushr, 1) := by decide +kernel
theorem dX11_moves_48 : decode cX11_moves 48 = .ok (.istore_n 3, 1) := by decide +kernel
theorem dX11_moves_49 : decode cX11_moves 49 = .ok (.aload_n 0, 1) := by decide +kernel
theorem dX11_moves_50 : decode cX11_moves 50 = .ok (.getfield 144, 3) := by decide +kernel
theorem dX11_moves_53 : decode cX11_moves 53 = .ok (.bipush 26, 2) := by decide +kernel
theorem dX11_moves_55 : decode cX11_moves 55 = .ok (.ishr, 1) := by decide +kernel
theorem dX11_moves_56 : decode cX11_moves 56 = .ok (.iconst 3, 1) := by decide +kernel
theorem dX11_moves_57 : decode cX11_moves 57 = .ok (.iand, 1) := by decide +kernel
theorem dX11_moves_58 : decode cX11_moves 58 = .ok (.istore 4, 2) := by decide +kernel
theorem dX11_moves_60 : decode cX11_moves 60 = .ok (.iload_n 2, 1) := by decide +kernel
theorem dX11_moves_61 : decode cX11_moves 61 = .ok (.ifCond .eq 16, 3) := by decide +kernel
theorem dX11_moves_64 : decode cX11_moves 64 = .ok (.aload_n 0, 1) := by decide +kernel
theorem dX11_moves_65 : decode cX11_moves 65 = .ok (.getfield 144, 3) := by decide +kernel
theorem dX11_moves_68 : decode cX11_moves 68 = .ok (.bipush 28, 2) := by decide +kernel
theorem dX11_moves_70 : decode cX11_moves 70 = .ok (.ishr, 1) := by decide +kernel
theorem dX11_moves_71 : decode cX11_moves 71 = .ok (.iconst 1, 1) := by decide +kernel
theorem dX11_moves_72 : decode cX11_moves 72 = .ok (.iand, 1) := by decide +kernel
theorem dX11_moves_73 : decode cX11_moves 73 = .ok (.iconst 1, 1) := by decide +kernel
theorem dX11_moves_74 : decode cX11_moves 74 = .ok (.if_icmp .ne 5, 3) := by decide +kernel
theorem dX11_moves_77 : decode cX11_moves 77 = .ok (.iconst 1, 1) := by decide +kernel
theorem dX11_moves_78 : decode cX11_moves 78 = .ok (.ireturn, 1) := by decide +kernel
theorem dX11_moves_79 : decode cX11_moves 79 = .ok (.iload 4, 2) := by decide +kernel
theorem dX11_moves_81 : decode cX11_moves 81 = .ok (.ifCond .ne 22, 3) := by decide +kernel
theorem dX11_moves_84 : decode cX11_moves 84 = .ok (.aload_n 0, 1) := by decide +kernel
theorem dX11_moves_85 : decode cX11_moves 85 = .ok (.getfield 147, 3) := by decide +kernel
theorem dX11_moves_88 : decode cX11_moves 88 = .ok (.bipush 8, 2) := by decide +kernel
theorem dX11_moves_90 : decode cX11_moves 90 = .ok (.if_icmp .ne 13, 3) := by decide +kernel
theorem dX11_moves_93 : decode cX11_moves 93 = .ok (.aload_n 0, 1) := by decide +kernel
theorem dX11_moves_94 : decode cX11_moves 94 = .ok (.iload_n 1, 1) := by decide +kernel
theorem dX11_moves_95 : decode cX11_moves 95 = .ok (.iload_n 2, 1) := by decide +kernel
theorem dX11_moves_96 : decode cX11_moves 96 = .ok (.iload_n 3, 1) := by decide +kernel
theorem dX11_moves_97 : decode cX11_moves 97 = .ok (.iconst 1, 1) := by decide +kernel
theorem dX11_moves_98 : decode cX11_moves 98 = .ok (.iadd, 1) := by decide +kernel
theorem dX11_moves_99 : decode cX11_moves 99 = .ok (.invokevirtual 358, 3) := by decide +kernel
theorem dX11_moves_102 : decode cX11_moves 102 = .ok (.ireturn, 1) := by decide +kernel
theorem dX11_moves_103 : decode cX11_moves 103 = .ok (.iload_n 3, 1) := by decide +kernel
theorem dX11_moves_104 : decode cX11_moves 104 = .ok (.ifCond .ne 10, 3) := by decide +kernel
theorem dX11_moves_107 : decode cX11_moves 107 = .ok (.aload_n 0, 1) := by decide +kernel
theorem dX11_moves_108 : decode cX11_moves 108 = .ok (.invokevirtual 153, 3) := by decide +kernel
theorem dX11_moves_111 : decode cX11_moves 111 = .ok (.ifCond .eq 5, 3) := by decide +kernel
theorem dX11_moves_114 : decode cX11_moves 114 = .ok (.iconst 1, 1) := by decide +kernel
theorem dX11_moves_115 : decode cX11_moves 115 = .ok (.ireturn, 1) := by decide +kernel
theorem dX11_moves_116 : decode cX11_moves 116 = .ok (.iload 4, 2) := by decide +kernel
theorem dX11_moves_118 : decode cX11_moves 118 = .ok (.ifCond .ne 106, 3) := by decide +kernel
theorem dX11_moves_121 : decode cX11_moves 121 = .ok (.aload_n 0, 1) := by decide +kernel
theorem dX11_moves_122 : decode cX11_moves 122 = .ok (.getfield 147, 3) := by decide +kernel
theorem dX11_moves_125 : decode cX11_moves 125 = .ok (.bipush 11, 2) := by decide +kernel
theorem dX11_moves_127 : decode cX11_moves 127 = .ok (.if_icmp .ne 97, 3) := by decide +kernel
theorem dX11_moves_130 : decode cX11_moves 130 = .ok (.iload_n 2, 1) := by decide +kernel
theorem dX11_moves_131 : decode cX11_moves 131 = .ok (.bipush 8, 2) := by decide +kernel
theorem dX11_moves_133 : decode cX11_moves 133 = .ok (.if_icmp .ne 10, 3) := by decide +kernel
theorem dX11_moves_136 : decode cX11_moves 136 = .ok (.aload_n 0, 1) := by decide +kernel
theorem dX11_moves_137 : decode cX11_moves 137 = .ok (.getfield 47, 3) := by decide +kernel
theorem dX11_moves_140 : decode cX11_moves 140 = .ok (.ifCond .ne 5, 3) := by decide +kernel
theorem dX11_moves_143 : decode cX11_moves 143 = .ok (.iconst 1, 1) := by decide +kernel
theorem dX11_moves_144 : decode cX11_moves 144 = .ok (.ireturn, 1) := by decide +kernel
theorem dX11_moves_145 : decode cX11_moves 145 = .ok (.aload_n 0, 1) := by decide +kernel
theorem dX11_moves_146 : decode cX11_moves 146 = .ok (.getfield 88, 3) := by decide +kernel
theorem dX11_moves_149 : decode cX11_moves 149 = .ok (.bipush 7, 2) := by decide +kernel
theorem dX11_moves_151 : decode cX11_moves 151 = .ok (.iadd, 1) := by decide +kernel
theorem dX11_moves_152 : decode cX11_moves 152 = .ok (.bipush 8, 2) := by decide +kernel
theorem dX11_moves_154 : decode cX11_moves 154 = .ok (.idiv, 1) := by decide +kernel
theorem dX11_moves_155 : decode cX11_moves 155 = .ok (.istore 5, 2) := by decide +kernel
theorem dX11_moves_157 : decode cX11_moves 157 = .ok (.aload_n 0, 1) := by decide +kernel
theorem dX11_moves_158 : decode cX11_moves 158 = .ok (.getfield 176, 3) := by decide +kernel
theorem dX11_moves_161 : decode cX11_moves 161 = .ok (.iload 5, 2) := by decide +kernel
theorem dX11_moves_163 : decode cX11_moves 163 = .ok (.if_icmp .lt 5, 3) := by decide +kernel
theorem dX11_moves_166 : decode cX11_moves 166 = .ok (.iconst 0, 1) := by decide +kernel
theorem dX11_moves_167 : decode cX11_moves 167 = .ok (.ireturn, 1) := by decide +kernel
theorem dX11_moves_168 : decode cX11_moves 168 = .ok (.aload_n 0, 1) := by decide +kernel
theorem dX11_moves_169 : decode cX11_moves 169 = .ok (.iload_n 1, 1) := by decide +kernel
theorem dX11_moves_170 : decode cX11_moves 170 = .ok (.bipush 8, 2) := by decide +kernel
theorem dX11_moves_172 : decode cX11_moves 172 = .ok (.iload 5, 2) := by decide +kernel
theorem dX11_moves_174 : decode cX11_moves 174 = .ok (.iconst 1, 1) := by decide +kernel
theorem dX11_moves_175 : decode cX11_moves 175 = .ok (.iconst 1, 1) := by decide +kernel
theorem dX11_moves_176 : decode cX11_moves 176 = .ok (.iconst 0, 1) := by decide +kernel
theorem dX11_moves_177 : decode cX11_moves 177 = .ok (.iconst 0, 1) := by decide +kernel
theorem dX11_moves_178 : decode cX11_moves 178 = .ok (.invokevirtual 362, 3) := by decide +kernel
theorem dX11_moves_181 : decode cX11_moves 181 = .ok (.istore 6, 2) := by decide +kernel
theorem dX11_moves_183 : decode cX11_moves 183 = .ok (.iload 5, 2) := by decide +kernel
theorem dX11_moves_185 : decode cX11_moves 185 = .ok (.istore 7, 2) := by decide +kernel
theorem dX11_moves_187 : decode cX11_moves 187 = .ok (.iload 7, 2) := by decide +kernel
theorem dX11_moves_189 : decode cX11_moves 189 = .ok (.bipush 16, 2) := by decide +kernel
theorem dX11_moves_191 : decode cX11_moves 191 = .ok (.if_icmp .ge 30, 3) := by decide +kernel
theorem dX11_moves_194 : decode cX11_moves 194 = .ok (.iload_n 1, 1) := by decide +kernel
theorem dX11_moves_195 : decode cX11_moves 195 = .ok (.ifCond .eq 26, 3) := by decide +kernel
theorem dX11_moves_198 : decode cX11_moves 198 = .ok (.iload 6, 2) := by decide +kernel
theorem dX11_moves_200 : decode cX11_moves 200 = .ok (.ifCond .ne 21, 3) := by decide +kernel
theorem dX11_moves_203 : decode cX11_moves 203 = .ok (.aload_n 0, 1) := by decide +kernel
theorem dX11_moves_204 : decode cX11_moves 204 = .ok (.aload_n 0, 1) := by decide +kernel
theorem dX11_moves_205 : decode cX11_moves 205 = .ok (.getfield 111, 3) := by decide +kernel
theorem dX11_moves_208 : decode cX11_moves 208 = .ok (.bipush 8, 2) := by decide +kernel
theorem dX11_moves_210 : decode cX11_moves 210 = .ok (.iload 7, 2) := by decide +kernel
theorem dX11_moves_212 : decode cX11_moves 212 = .ok (.invokevirtual 84, 3) := by decide +kernel
theorem dX11_moves_215 : decode cX11_moves 215 = .ok (.iinc 7 1, 3) := by decide +kernel
theorem dX11_moves_218 : decode cX11_moves 218 = .ok (.goto (-31), 3) := by decide +kernel
theorem dX11_moves_221 : decode cX11_moves 221 = .ok (.iload 6, 2) := by decide +kernel
theorem dX11_moves_223 : decode cX11_moves 223 = .ok (.ireturn, 1) := by decide +kernel
theorem dX11_moves_224 : decode cX11_moves 224 = .ok (.iload 4, 2) := by decide +kernel
theorem dX11_moves_226 : decode cX11_moves 226 = .ok (.iconst 1, 1) := by decide +kernel
theorem dX11_moves_227 : decode cX11_moves 227 = .ok (.iand, 1) := by decide +kernel
theorem dX11_moves_228 : decode cX11_moves 228 = .ok (.iconst 1, 1) := by decide +kernel
theorem dX11_moves_229 : decode cX11_moves 229 = .ok (.if_icmp .ne 7, 3) := by decide +kernel
theorem dX11_moves_232 : decode cX11_moves 232 = .ok (.iconst 1, 1) := by decide +kernel
theorem dX11_moves_233 : decode cX11_moves 233 = .ok (.goto 4, 3) := by decide +kernel
theorem dX11_moves_236 : decode cX11_moves 236 = .ok (.iconst 0, 1) := by decide +kernel
theorem dX11_moves_237 : decode cX11_moves 237 = .ok (.istore 5, 2) := by decide +kernel
theorem dX11_moves_239 : decode cX11_moves 239 = .ok (.iload 5, 2) := by decide +kernel
theorem dX11_moves_241 : decode cX11_moves 241 = .ok (.ifCond .eq 10, 3) := by decide +kernel
theorem dX11_moves_244 : decode cX11_moves 244 = .ok (.aload_n 0, 1) := by decide +kernel
theorem dX11_moves_245 : decode cX11_moves 245 = .ok (.getfield 98, 3) := by decide +kernel
theorem dX11_moves_248 : decode cX11_moves 248 = .ok (.goto 4, 3) := by decide +kernel
theorem dX11_moves_251 : decode cX11_moves 251 = .ok (.iload_n 2, 1) := by decide +kernel
theorem dX11_moves_252 : decode cX11_moves 252 = .ok (.istore 6, 2) := by decide +kernel
theorem dX11_moves_254 : decode cX11_moves 254 = .ok (.iload 4, 2) := by decide +kernel
theorem dX11_moves_256 : decode cX11_moves 256 = .ok (.ifCond .ne 20, 3) := by decide +kernel
theorem dX11_moves_259 : decode cX11_moves 259 = .ok (.aload_n 0, 1) := by decide +kernel
theorem dX11_moves_260 : decode cX11_moves 260 = .ok (.getfield 147, 3) := by decide +kernel
theorem dX11_moves_263 : decode cX11_moves 263 = .ok (.bipush 16, 2) := by decide +kernel
theorem dX11_moves_265 : decode cX11_moves 265 = .ok (.if_icmp .ne 11, 3) := by decide +kernel
theorem dX11_moves_268 : decode cX11_moves 268 = .ok (.iload_n 1, 1) := by decide +kernel
theorem dX11_moves_269 : decode cX11_moves 269 = .ok (.ifCond .eq 7, 3) := by decide +kernel
theorem dX11_moves_272 : decode cX11_moves 272 = .ok (.iconst 1, 1) := by decide +kernel
theorem dX11_moves_273 : decode cX11_moves 273 = .ok (.goto 4, 3) := by decide +kernel
theorem dX11_moves_276 : decode cX11_moves 276 = .ok (.iconst 0, 1) := by decide +kernel
theorem dX11_moves_277 : decode cX11_moves 277 = .ok (.istore 7, 2) := by decide +kernel
theorem dX11_moves_279 : decode cX11_moves 279 = .ok (.iload 4, 2) := by decide +kernel
theorem dX11_moves_281 : decode cX11_moves 281 = .ok (.ifCond .ne 15, 3) := by decide +kernel
theorem dX11_moves_284 : decode cX11_moves 284 = .ok (.aload_n 0, 1) := by decide +kernel
theorem dX11_moves_285 : decode cX11_moves 285 = .ok (.getfield 147, 3) := by decide +kernel
theorem dX11_moves_288 : decode cX11_moves 288 = .ok (.ifCond .eq 8, 3) := by decide +kernel
theorem dX11_moves_291 : decode cX11_moves 291 = .ok (.iload 7, 2) := by decide +kernel
theorem dX11_moves_293 : decode cX11_moves 293 = .ok (.ifCond .eq 31, 3) := by decide +kernel
theorem dX11_moves_296 : decode cX11_moves 296 = .ok (.aload_n 0, 1) := by decide +kernel
theorem dX11_moves_297 : decode cX11_moves 297 = .ok (.aload_n 0, 1) := by decide +kernel
theorem dX11_moves_298 : decode cX11_moves 298 = .ok (.getfield 111, 3) := by decide +kernel
theorem dX11_moves_301 : decode cX11_moves 301 = .ok (.iload 6, 2) := by decide +kernel
theorem dX11_moves_303 : decode cX11_moves 303 = .ok (.invokevirtual 114, 3) := by decide +kernel
theorem dX11_moves_306 : decode cX11_moves 306 = .ok (.ifCond .eq 18, 3) := by decide +kernel
theorem dX11_moves_309 : decode cX11_moves 309 = .ok (.iload_n 1, 1) := by decide +kernel
theorem dX11_moves_310 : decode cX11_moves 310 = .ok (.ifCond .eq 16, 3) := by decide +kernel
theorem dX11_moves_313 : decode cX11_moves 313 = .ok (.aload_n 0, 1) := by decide +kernel
theorem dX11_moves_314 : decode cX11_moves 314 = .ok (.aload_n 0, 1) := by decide +kernel
theorem dX11_moves_315 : decode cX11_moves 315 = .ok (.getfield 111, 3) := by decide +kernel
theorem dX11_moves_318 : decode cX11_moves 318 = .ok (.invokevirtual 117, 3) := by decide +kernel
theorem dX11_moves_321 : decode cX11_moves 321 = .ok (.ifCond .ne 5, 3) := by decide +kernel
theorem dX11_moves_324 : decode cX11_moves 324 = .ok (.iconst 1, 1) := by decide +kernel
theorem dX11_moves_325 : decode cX11_moves 325 = .ok (.ireturn, 1) := by decide +kernel
theorem dX11_moves_326 : decode cX11_moves 326 = .ok (.iload 5, 2) := by decide +kernel
theorem dX11_moves_328 : decode cX11_moves 328 = .ok (.ifCond .eq 49, 3) := by decide +kernel
theorem dX11_moves_331 : decode cX11_moves 331 = .ok (.aload_n 0, 1) := by decide +kernel
theorem dX11_moves_332 : decode cX11_moves 332 = .ok (.aload_n 0, 1) := by decide +kernel
theorem dX11_moves_333 : decode cX11_moves 333 = .ok (.getfield 147, 3) := by decide +kernel
theorem dX11_moves_336 : decode cX11_moves 336 = .ok (.iload_n 2, 1) := by decide +kernel
theorem dX11_moves_337 : decode cX11_moves 337 = .ok (.invokevirtual 114, 3) := by decide +kernel
theorem dX11_moves_340 : decode cX11_moves 340 = .ok (.ifCond .eq 35, 3) := by decide +kernel
theorem dX11_moves_343 : decode cX11_moves 343 = .ok (.iload_n 1, 1) := by decide +kernel
theorem dX11_moves_344 : decode cX11_moves 344 = .ok (.ifCond .eq 33, 3) := by decide +kernel
theorem dX11_moves_347 : decode cX11_moves 347 = .ok (.aload_n 0, 1) := by decide +kernel
theorem dX11_moves_348 : decode cX11_moves 348 = .ok (.getfield 111, 3) := by decide +kernel
theorem dX11_moves_351 : decode cX11_moves 351 = .ok (.iload 6, 2) := by decide +kernel
theorem dX11_moves_353 : decode cX11_moves 353 = .ok (.aload_n 0, 1) := by decide +kernel
theorem dX11_moves_354 : decode cX11_moves 354 = .ok (.iload 6, 2) := by decide +kernel
theorem dX11_moves_356 : decode cX11_moves 356 = .ok (.invokevirtual 104, 3) := by decide +kernel
theorem dX11_moves_359 : decode cX11_moves 359 = .ok (.aload_n 0, 1) := by decide +kernel
theorem dX11_moves_360 : decode cX11_moves 360 = .ok (.getfield 147, 3) := by decide +kernel
theorem dX11_moves_363 : decode cX11_moves 363 = .ok (.iload_n 2, 1) := by decide +kernel
theorem dX11_moves_364 : decode cX11_moves 364 = .ok (.aload_n 0, 1) := by decide +kernel
theorem dX11_moves_365 : decode cX11_moves 365 = .ok (.iload_n 2, 1) := by decide +kernel
theorem dX11_moves_366 : decode cX11_moves 366 = .ok (.invokevirtual 104, 3) := by decide +kernel
theorem dX11_moves_369 : decode cX11_moves 369 = .ok (.invokestatic 120, 3) := by decide +kernel
theorem dX11_moves_372 : decode cX11_moves 372 = .ok (.ifCond .ne 5, 3) := by decide +kernel
theorem dX11_moves_375 : decode cX11_moves 375 = .ok (.iconst 1, 1) := by decide +kernel
theorem dX11_moves_376 : decode cX11_moves 376 = .ok (.ireturn, 1) := by decide +kernel
theorem dX11_moves_377 : decode cX11_moves 377 = .ok (.aload_n 0, 1) := by decide +kernel
theorem dX11_moves_378 : decode cX11_moves 378 = .ok (.invokevirtual 241, 3) := by decide +kernel
theorem dX11_moves_381 : decode cX11_moves 381 = .ok (.ifCond .ne 5, 3) := by decide +kernel
theorem dX11_moves_384 : decode cX11_moves 384 = .ok (.iconst 0, 1) := by decide +kernel
theorem dX11_moves_385 : decode cX11_moves 385 = .ok (.ireturn, 1) := by decide +kernel
theorem dX11_moves_386 : decode cX11_moves 386 = .ok (.aload_n 0, 1) := by decide +kernel
theorem dX11_moves_387 : decode cX11_moves 387 = .ok (.iload_n 1, 1) := by decide +kernel
theorem dX11_moves_388 : decode cX11_moves 388 = .ok (.iload 6, 2) := by decide +kernel
theorem dX11_moves_390 : decode cX11_moves 390 = .ok (.aload_n 0, 1) := by decide +kernel
theorem dX11_moves_391 : decode cX11_moves 391 = .ok (.getfield 88, 3) := by decide +kernel
theorem dX11_moves_394 : decode cX11_moves 394 = .ok (.iload 4, 2) := by decide +kernel
theorem dX11_moves_396 : decode cX11_moves 396 = .ok (.iconst 2, 1) := by decide +kernel
theorem dX11_moves_397 : decode cX11_moves 397 = .ok (.if_icmp .ne 15, 3) := by decide +kernel
theorem dX11_moves_400 : decode cX11_moves 400 = .ok (.aload_n 0, 1) := by decide +kernel
theorem dX11_moves_401 : decode cX11_moves 401 = .ok (.getfield 7, 3) := by decide +kernel
theorem dX11_moves_404 : decode cX11_moves 404 = .ok (.aload_n 0, 1) := by decide +kernel
theorem dX11_moves_405 : decode cX11_moves 405 = .ok (.getfield 147, 3) := by decide +kernel
theorem dX11_moves_408 : decode cX11_moves 408 = .ok (.iaload, 1) := by decide +kernel
theorem dX11_moves_409 : decode cX11_moves 409 = .ok (.goto 8, 3) := by decide +kernel
theorem dX11_moves_412 : decode cX11_moves 412 = .ok (.iload 6, 2) := by decide +kernel
theorem dX11_moves_414 : decode cX11_moves 414 = .ok (.bipush 8, 2) := by decide +kernel
theorem dX11_moves_416 : decode cX11_moves 416 = .ok (.idiv, 1) := by decide +kernel
theorem dX11_moves_417 : decode cX11_moves 417 = .ok (.iconst 0, 1) := by decide +kernel
theorem dX11_moves_418 : decode cX11_moves 418 = .ok (.iload 7, 2) := by decide +kernel
theorem dX11_moves_420 : decode cX11_moves 420 = .ok (.iload 5, 2) := by decide +kernel
theorem dX11_moves_422 : decode cX11_moves 422 = .ok (.ifCond .eq 7, 3) := by decide +kernel
theorem dX11_moves_425 : decode cX11_moves 425 = .ok (.iload_n 2, 1) := by decide +kernel
theorem dX11_moves_426 : decode cX11_moves 426 = .ok (.goto 4, 3) := by decide +kernel
theorem dX11_moves_429 : decode cX11_moves 429 = .ok (.iconst 0, 1) := by decide +kernel
theorem dX11_moves_430 : decode cX11_moves 430 = .ok (.invokevirtual 362, 3) := by decide +kernel
theorem dX11_moves_433 : decode cX11_moves 433 = .ok (.istore 8, 2) := by decide +kernel
theorem dX11_moves_435 : decode cX11_moves 435 = .ok (.iload_n 1, 1) := by decide +kernel
theorem dX11_moves_436 : decode cX11_moves 436 = .ok (.ifCond .eq 28, 3) := by decide +kernel
theorem dX11_moves_439 : decode cX11_moves 439 = .ok (.iload 8, 2) := by decide +kernel
theorem dX11_moves_441 : decode cX11_moves 441 = .ok (.ifCond .ne 23, 3) := by decide +kernel
theorem dX11_moves_444 : decode cX11_moves 444 = .ok (.aload_n 0, 1) := by decide +kernel
theorem dX11_moves_445 : decode cX11_moves 445 = .ok (.aload_n 0, 1) := by decide +kernel
theorem dX11_moves_446 : decode cX11_moves 446 = .ok (.getfield 111, 3) := by decide +kernel
theorem dX11_moves_449 : decode cX11_moves 449 = .ok (.iload 6, 2) := by decide +kernel
theorem dX11_moves_451 : decode cX11_moves 451 = .ok (.aload_n 0, 1) := by decide +kernel
theorem dX11_moves_452 : decode cX11_moves 452 = .ok (.iload 6, 2) := by decide +kernel
theorem dX11_moves_454 : decode cX11_moves 454 = .ok (.invokevirtual 104, 3) := by decide +kernel
theorem dX11_moves_457 : decode cX11_moves 457 = .ok (.aload_n 0, 1) := by decide +kernel
theorem dX11_moves_458 : decode cX11_moves 458 = .ok (.getfield 88, 3) := by decide +kernel
theorem dX11_moves_461 : decode cX11_moves 461 = .ok (.invokevirtual 261, 3) := by decide +kernel
theorem dX11_moves_464 : decode cX11_moves 464 = .ok (.iload 8, 2) := by decide +kernel
theorem dX11_moves_466 : decode cX11_moves 466 = .ok (.ireturn, 1) := by decide +kernel
theorem dX11_wholeMoves_0 : decode cX11_wholeMoves 0 = .ok (.aload_n 0, 1) := by decide +kernel
theorem dX11_wholeMoves_1 : decode cX11_wholeMoves 1 = .ok (.getfield 47, 3) := by decide +kernel
theorem dX11_wholeMoves_4 : decode cX11_wholeMoves 4 = .ok (.ifCond .eq 47, 3) := by decide +kernel
theorem dX11_wholeMoves_7 : decode cX11_wholeMoves 7 = .ok (.iload_n 3, 1) := by decide +kernel
theorem dX11_wholeMoves_8 : decode cX11_wholeMoves 8 = .ok (.iconst 1, 1) := by decide +kernel
theorem dX11_wholeMoves_9 : decode cX11_wholeMoves 9 = .ok (.if_icmp .eq 19, 3) := by decide +kernel
theorem dX11_wholeMoves_12 : decode cX11_wholeMoves 12 = .ok (.iload_n 3, 1) := by decide +kernel
theorem dX11_wholeMoves_13 : decode cX11_wholeMoves 13 = .ok (.iconst 2, 1) := by decide +kernel
theorem dX11_wholeMoves_14 : decode cX11_wholeMoves 14 = .ok (.if_icmp .eq 14, 3) := by decide +kernel
theorem dX11_wholeMoves_17 : decode cX11_wholeMoves 17 = .ok (.iload_n 3, 1) := by decide +kernel
theorem dX11_wholeMoves_18 : decode cX11_wholeMoves 18 = .ok (.iconst 4, 1) := by decide +kernel
theorem dX11_wholeMoves_19 : decode cX11_wholeMoves 19 = .ok (.if_icmp .eq 9, 3) := by decide +kernel
theorem dX11_wholeMoves_22 : decode cX11_wholeMoves 22 = .ok (.iload_n 3, 1) := by decide +kernel
theorem dX11_wholeMoves_23 : decode cX11_wholeMoves 23 = .ok (.bipush 8, 2) := by decide +kernel
theorem dX11_wholeMoves_25 : decode cX11_wholeMoves 25 = .ok (.if_icmp .ne 26, 3) := by decide +kernel
theorem dX11_wholeMoves_28 : decode cX11_wholeMoves 28 = .ok (.aload_n 0, 1) := by decide +kernel
theorem dX11_wholeMoves_29 : decode cX11_wholeMoves 29 = .ok (.getfield 111, 3) := by decide +kernel
theorem dX11_wholeMoves_32 : decode cX11_wholeMoves 32 = .ok (.iload_n 3, 1) := by decide +kernel
theorem dX11_wholeMoves_33 : decode cX11_wholeMoves 33 = .ok (.irem, 1) := by decide +kernel
theorem dX11_wholeMoves_34 : decode cX11_wholeMoves 34 = .ok (.ifCond .ne 17, 3) := by decide +kernel
theorem dX11_wholeMoves_37 : decode cX11_wholeMoves 37 = .ok (.iload_n 1, 1) := by decide +kernel
theorem dX11_wholeMoves_38 : decode cX11_wholeMoves 38 = .ok (.ifCond .ne 9, 3) := by decide +kernel
theorem dX11_wholeMoves_41 : decode cX11_wholeMoves 41 = .ok (.iload_n 2, 1) := by decide +kernel
theorem dX11_wholeMoves_42 : decode cX11_wholeMoves 42 = .ok (.bipush 8, 2) := by decide +kernel
theorem dX11_wholeMoves_44 : decode cX11_wholeMoves 44 = .ok (.if_icmp .ne 7, 3) := by decide +kernel
theorem dX11_wholeMoves_47 : decode cX11_wholeMoves 47 = .ok (.iconst 1, 1) := by decide +kernel
theorem dX11_wholeMoves_48 : decode cX11_wholeMoves 48 = .ok (.goto 4, 3) := by decide +kernel
theorem dX11_wholeMoves_51 : decode cX11_wholeMoves 51 = .ok (.iconst 0, 1) := by decide +kernel
theorem dX11_wholeMoves_52 : decode cX11_wholeMoves 52 = .ok (.istore 4, 2) := by decide +kernel
theorem dX11_wholeMoves_54 : decode cX11_wholeMoves 54 = .ok (.iload 4, 2) := by decide +kernel
theorem dX11_wholeMoves_56 : decode cX11_wholeMoves 56 = .ok (.ifCond .ne 5, 3) := by decide +kernel
theorem dX11_wholeMoves_59 : decode cX11_wholeMoves 59 = .ok (.iconst 1, 1) := by decide +kernel
theorem dX11_wholeMoves_60 : decode cX11_wholeMoves 60 = .ok (.ireturn, 1) := by decide +kernel
theorem dX11_wholeMoves_61 : decode cX11_wholeMoves 61 = .ok (.aload_n 0, 1) := by decide +kernel
theorem dX11_wholeMoves_62 : decode cX11_wholeMoves 62 = .ok (.iload_n 1, 1) := by decide +kernel
theorem dX11_wholeMoves_63 : decode cX11_wholeMoves 63 = .ok (.iload_n 2, 1) := by decide +kernel
theorem dX11_wholeMoves_64 : decode cX11_wholeMoves 64 = .ok (.iload_n 3, 1) := by decide +kernel
theorem dX11_wholeMoves_65 : decode cX11_wholeMoves 65 = .ok (.sipush 128, 3) := by decide +kernel
theorem dX11_wholeMoves_68 : decode cX11_wholeMoves 68 = .ok (.imul, 1) := by decide +kernel
theorem dX11_wholeMoves_69 : decode cX11_wholeMoves 69 = .ok (.iload_n 2, 1) := by decide +kernel
theorem dX11_wholeMoves_70 : decode cX11_wholeMoves 70 = .ok (.idiv, 1) := by decide +kernel
theorem dX11_wholeMoves_71 : decode cX11_wholeMoves 71 = .ok (.iload_n 2, 1) := by decide +kernel
theorem dX11_wholeMoves_72 : decode cX11_wholeMoves 72 = .ok (.bipush 8, 2) := by decide +kernel
theorem dX11_wholeMoves_74 : decode cX11_wholeMoves 74 = .ok (.idiv, 1) := by decide +kernel
theorem dX11_wholeMoves_75 : decode cX11_wholeMoves 75 = .ok (.iconst 1, 1) := by decide +kernel
theorem dX11_wholeMoves_76 : decode cX11_wholeMoves 76 = .ok (.iconst 0, 1) := by decide +kernel
theorem dX11_wholeMoves_77 : decode cX11_wholeMoves 77 = .ok (.iconst 0, 1) := by decide +kernel
theorem dX11_wholeMoves_78 : decode cX11_wholeMoves 78 = .ok (.invokevirtual 362, 3) := by decide +kernel
theorem dX11_wholeMoves_81 : decode cX11_wholeMoves 81 = .ok (.ireturn, 1) := by decide +kernel
theorem dX11_choose_0 : decode cX11_choose 0 = .ok (.aload_n 0, 1) := by decide +kernel
theorem dX11_choose_1 : decode cX11_choose 1 = .ok (.iconst 0, 1) := by decide +kernel
theorem dX11_choose_2 : decode cX11_choose 2 = .ok (.putfield 33, 3) := by decide +kernel
theorem dX11_choose_5 : decode cX11_choose 5 = .ok (.aload_n 0, 1) := by decide +kernel
theorem dX11_choose_6 : decode cX11_choose 6 = .ok (.lload_n 1, 1) := by decide +kernel
theorem dX11_choose_7 : decode cX11_choose 7 = .ok (.putfield 43, 3) := by decide +kernel
theorem dX11_choose_10 : decode cX11_choose 10 = .ok (.return_, 1) := by decide +kernel
theorem dX11_lacks_0 : decode cX11_lacks 0 = .ok (.aload_n 0, 1) := by decide +kernel
theorem dX11_lacks_1 : decode cX11_lacks 1 = .ok (.iload_n 1, 1) := by decide +kernel
theorem dX11_lacks_2 : decode cX11_lacks 2 = .ok (.ifCond .lt 8, 3) := by decide +kernel
theorem dX11_lacks_5 : decode cX11_lacks 5 = .ok (.iload_n 1, 1) := by decide +kernel
theorem dX11_lacks_6 : decode cX11_lacks 6 = .ok (.iload_n 2, 1) := by decide +kernel
theorem dX11_lacks_7 : decode cX11_lacks 7 = .ok (.if_icmp .le 7, 3) := by decide +kernel
theorem dX11_lacks_10 : decode cX11_lacks 10 = .ok (.iconst 1, 1) := by decide +kernel
theorem dX11_lacks_11 : decode cX11_lacks 11 = .ok (.goto 4, 3) := by decide +kernel
theorem dX11_lacks_14 : decode cX11_lacks 14 = .ok (.iconst 0, 1) := by decide +kernel
theorem dX11_lacks_15 : decode cX11_lacks 15 = .ok (.putfield 33, 3) := by decide +kernel
theorem dX11_lacks_18 : decode cX11_lacks 18 = .ok (.aload_n 0, 1) := by decide +kernel
theorem dX11_lacks_19 : decode cX11_lacks 19 = .ok (.getfield 33, 3) := by decide +kernel
theorem dX11_lacks_22 : decode cX11_lacks 22 = .ok (.ifCond .le 7, 3) := by decide +kernel
theorem dX11_lacks_25 : decode cX11_lacks 25 = .ok (.iconst 1, 1) := by decide +kernel
theorem dX11_lacks_26 : decode cX11_lacks 26 = .ok (.goto 4, 3) := by decide +kernel
theorem dX11_lacks_29 : decode cX11_lacks 29 = .ok (.iconst 0, 1) := by decide +kernel
theorem dX11_lacks_30 : decode cX11_lacks 30 = .ok (.ireturn, 1) := by decide +kernel
theorem dX11_x_0 : decode cX11_x 0 = .ok (.aload_n 0, 1) := by decide +kernel
theorem dX11_x_1 : decode cX11_x 1 = .ok (.iload_n 1, 1) := by decide +kernel
theorem dX11_x_2 : decode cX11_x 2 = .ok (.bipush 31, 2) := by decide +kernel
theorem dX11_x_4 : decode cX11_x 4 = .ok (.invokevirtual 366, 3) := by decide +kernel
theorem dX11_x_7 : decode cX11_x 7 = .ok (.ifCond .eq 7, 3) := by decide +kernel
theorem dX11_x_10 : decode cX11_x 10 = .ok (.iconst 0, 1) := by decide +kernel
theorem dX11_x_11 : decode cX11_x 11 = .ok (.goto 9, 3) := by decide +kernel
theorem dX11_x_14 : decode cX11_x 14 = .ok (.aload_n 0, 1) := by decide +kernel
theorem dX11_x_15 : decode cX11_x 15 = .ok (.getfield 7, 3) := by decide +kernel
theorem dX11_x_18 : decode cX11_x 18 = .ok (.iload_n 1, 1) := by decide +kernel
theorem dX11_x_19 : decode cX11_x 19 = .ok (.iaload, 1) := by decide +kernel
theorem dX11_x_20 : decode cX11_x 20 = .ok (.ireturn, 1) := by decide +kernel
theorem dX11_setX_0 : decode cX11_setX 0 = .ok (.aload_n 0, 1) := by decide +kernel
theorem dX11_setX_1 : decode cX11_setX 1 = .ok (.iload_n 1, 1) := by decide +kernel
theorem dX11_setX_2 : decode cX11_setX 2 = .ok (.bipush 31, 2) := by decide +kernel
theorem dX11_setX_4 : decode cX11_setX 4 = .ok (.invokevirtual 366, 3) := by decide +kernel
theorem dX11_setX_7 : decode cX11_setX 7 = .ok (.ifCond .ne 7, 3) := by decide +kernel
theorem dX11_setX_10 : decode cX11_setX 10 = .ok (.iload_n 1, 1) := by decide +kernel
theorem dX11_setX_11 : decode cX11_setX 11 = .ok (.ifCond .ne 4, 3) := by decide +kernel
theorem dX11_setX_14 : decode cX11_setX 14 = .ok (.return_, 1) := by decide +kernel
theorem dX11_setX_15 : decode cX11_setX 15 = .ok (.aload_n 0, 1) := by decide +kernel
theorem dX11_setX_16 : decode cX11_setX 16 = .ok (.getfield 7, 3) := by decide +kernel
theorem dX11_setX_19 : decode cX11_setX 19 = .ok (.iload_n 1, 1) := by decide +kernel
theorem dX11_setX_20 : decode cX11_setX 20 = .ok (.iload_n 2, 1) := by decide +kernel
theorem dX11_setX_21 : decode cX11_setX 21 = .ok (.iastore, 1) := by decide +kernel
theorem dX11_setX_22 : decode cX11_setX 22 = .ok (.return_, 1) := by decide +kernel
theorem dX11_four_0 : decode cX11_four 0 = .ok (.aload_n 0, 1) := by decide +kernel
theorem dX11_four_1 : decode cX11_four 1 = .ok (.iconst 4, 1) := by decide +kernel
theorem dX11_four_2 : decode cX11_four 2 = .ok (.iload_n 1, 1) := by decide +kernel
theorem dX11_four_3 : decode cX11_four 3 = .ok (.imul, 1) := by decide +kernel
theorem dX11_four_4 : decode cX11_four 4 = .ok (.iaload, 1) := by decide +kernel
theorem dX11_four_5 : decode cX11_four 5 = .ok (.aload_n 0, 1) := by decide +kernel
theorem dX11_four_6 : decode cX11_four 6 = .ok (.iconst 4, 1) := by decide +kernel
theorem dX11_four_7 : decode cX11_four 7 = .ok (.iload_n 1, 1) := by decide +kernel
theorem dX11_four_8 : decode cX11_four 8 = .ok (.imul, 1) := by decide +kernel
theorem dX11_four_9 : decode cX11_four 9 = .ok (.iconst 1, 1) := by decide +kernel
theorem dX11_four_10 : decode cX11_four 10 = .ok (.iadd, 1) := by decide +kernel
theorem dX11_four_11 : decode cX11_four 11 = .ok (.iaload, 1) := by decide +kernel
theorem dX11_four_12 : decode cX11_four 12 = .ok (.bipush 8, 2) := by decide +kernel
theorem dX11_four_14 : decode cX11_four 14 = .ok (.ishl, 1) := by decide +kernel
theorem dX11_four_15 : decode cX11_four 15 = .ok (.ior, 1) := by decide +kernel
theorem dX11_four_16 : decode cX11_four 16 = .ok (.aload_n 0, 1) := by decide +kernel
theorem dX11_four_17 : decode cX11_four 17 = .ok (.iconst 4, 1) := by decide +kernel
theorem dX11_four_18 : decode cX11_four 18 = .ok (.iload_n 1, 1) := by decide +kernel
theorem dX11_four_19 : decode cX11_four 19 = .ok (.imul, 1) := by decide +kernel
theorem dX11_four_20 : decode cX11_four 20 = .ok (.iconst 2, 1) := by decide +kernel
theorem dX11_four_21 : decode cX11_four 21 = .ok (.iadd, 1) := by decide +kernel
theorem dX11_four_22 : decode cX11_four 22 = .ok (.iaload, 1) := by decide +kernel
theorem dX11_four_23 : decode cX11_four 23 = .ok (.bipush 16, 2) := by decide +kernel
theorem dX11_four_25 : decode cX11_four 25 = .ok (.ishl, 1) := by decide +kernel
theorem dX11_four_26 : decode cX11_four 26 = .ok (.ior, 1) := by decide +kernel
theorem dX11_four_27 : decode cX11_four 27 = .ok (.aload_n 0, 1) := by decide +kernel
theorem dX11_four_28 : decode cX11_four 28 = .ok (.iconst 4, 1) := by decide +kernel
theorem dX11_four_29 : decode cX11_four 29 = .ok (.iload_n 1, 1) := by decide +kernel
theorem dX11_four_30 : decode cX11_four 30 = .ok (.imul, 1) := by decide +kernel
theorem dX11_four_31 : decode cX11_four 31 = .ok (.iconst 3, 1) := by decide +kernel
theorem dX11_four_32 : decode cX11_four 32 = .ok (.iadd, 1) := by decide +kernel
theorem dX11_four_33 : decode cX11_four 33 = .ok (.iaload, 1) := by decide +kernel
theorem dX11_four_34 : decode cX11_four 34 = .ok (.bipush 24, 2) := by decide +kernel
theorem dX11_four_36 : decode cX11_four 36 = .ok (.ishl, 1) := by decide +kernel
theorem dX11_four_37 : decode cX11_four 37 = .ok (.ior, 1) := by decide +kernel
theorem dX11_four_38 : decode cX11_four 38 = .ok (.ireturn, 1) := by decide +kernel
theorem dX11_putFour_0 : decode cX11_putFour 0 = .ok (.iconst 0, 1) := by decide +kernel
theorem dX11_putFour_1 : decode cX11_putFour 1 = .ok (.istore_n 3, 1) := by decide +kernel
theorem dX11_putFour_2 : decode cX11_putFour 2 = .ok (.iload_n 3, 1) := by decide +kernel
theorem dX11_putFour_3 : decode cX11_putFour 3 = .ok (.iconst 4, 1) := by decide +kernel
theorem dX11_putFour_4 : decode cX11_putFour 4 = .ok (.if_icmp .ge 26, 3) := by decide +kernel
theorem dX11_putFour_7 : decode cX11_putFour 7 = .ok (.aload_n 0, 1) := by decide +kernel
theorem dX11_putFour_8 : decode cX11_putFour 8 = .ok (.iconst 4, 1) := by decide +kernel
theorem dX11_putFour_9 : decode cX11_putFour 9 = .ok (.iload_n 1, 1) := by decide +kernel
theorem dX11_putFour_10 : decode cX11_putFour 10 = .ok (.imul, 1) := by decide +kernel
theorem dX11_putFour_11 : decode cX11_putFour 11 = .ok (.iload_n 3, 1) := by decide +kernel
theorem dX11_putFour_12 : decode cX11_putFour 12 = .ok (.iadd, 1) := by decide +kernel
theorem dX11_putFour_13 : decode cX11_putFour 13 = .ok (.iload_n 2, 1) := by decide +kernel
theorem dX11_putFour_14 : decode cX11_putFour 14 = .ok (.bipush 8, 2) := by decide +kernel
theorem dX11_putFour_16 : decode cX11_putFour 16 = .ok (.iload_n 3, 1) := by decide +kernel
theorem dX11_putFour_17 : decode cX11_putFour 17 = .ok (.imul, 1) := by decide +kernel
theorem dX11_putFour_18 : decode cX11_putFour 18 = .ok (.ishr, 1) := by decide +kernel
theorem dX11_putFour_19 : decode cX11_putFour 19 = .ok (.sipush 255, 3) := by decide +kernel
theorem dX11_putFour_22 : decode cX11_putFour 22 = .ok (.iand, 1) := by decide +kernel
theorem dX11_putFour_23 : decode cX11_putFour 23 = .ok (.iastore, 1) := by decide +kernel
theorem dX11_putFour_24 : decode cX11_putFour 24 = .ok (.iinc 3 1, 3) := by decide +kernel
theorem dX11_putFour_27 : decode cX11_putFour 27 = .ok (.goto (-25), 3) := by decide +kernel
theorem dX11_putFour_30 : decode cX11_putFour 30 = .ok (.return_, 1) := by decide +kernel
theorem dX11_v_0 : decode cX11_v 0 = .ok (.aload_n 0, 1) := by decide +kernel
theorem dX11_v_1 : decode cX11_v 1 = .ok (.iload_n 1, 1) := by decide +kernel
theorem dX11_v_2 : decode cX11_v 2 = .ok (.bipush 127, 2) := by decide +kernel
theorem dX11_v_4 : decode cX11_v 4 = .ok (.invokevirtual 366, 3) := by decide +kernel
theorem dX11_v_7 : decode cX11_v 7 = .ok (.ifCond .eq 7, 3) := by decide +kernel
theorem dX11_v_10 : decode cX11_v 10 = .ok (.iconst 0, 1) := by decide +kernel
theorem dX11_v_11 : decode cX11_v 11 = .ok (.goto 11, 3) := by decide +kernel
theorem dX11_v_14 : decode cX11_v 14 = .ok (.aload_n 0, 1) := by decide +kernel
theorem dX11_v_15 : decode cX11_v 15 = .ok (.getfield 13, 3) := by decide +kernel
theorem dX11_v_18 : decode cX11_v 18 = .ok (.iload_n 1, 1) := by decide +kernel
theorem dX11_v_19 : decode cX11_v 19 = .ok (.invokestatic 369, 3) := by decide +kernel
theorem dX11_v_22 : decode cX11_v 22 = .ok (.ireturn, 1) := by decide +kernel
theorem dX11_setV_0 : decode cX11_setV 0 = .ok (.aload_n 0, 1) := by decide +kernel
theorem dX11_setV_1 : decode cX11_setV 1 = .ok (.iload_n 1, 1) := by decide +kernel
theorem dX11_setV_2 : decode cX11_setV 2 = .ok (.bipush 127, 2) := by decide +kernel
theorem dX11_setV_4 : decode cX11_setV 4 = .ok (.invokevirtual 366, 3) := by decide +kernel
theorem dX11_setV_7 : decode cX11_setV 7 = .ok (.ifCond .eq 4, 3) := by decide +kernel
theorem dX11_setV_10 : decode cX11_setV 10 = .ok (.return_, 1) := by decide +kernel
theorem dX11_setV_11 : decode cX11_setV 11 = .ok (.aload_n 0, 1) := by decide +kernel
theorem dX11_setV_12 : decode cX11_setV 12 = .ok (.getfield 13, 3) := by decide +kernel
theorem dX11_setV_15 : decode cX11_setV 15 = .ok (.iload_n 1, 1) := by decide +kernel
theorem dX11_setV_16 : decode cX11_setV 16 = .ok (.iload_n 2, 1) := by decide +kernel
theorem dX11_setV_17 : decode cX11_setV 17 = .ok (.invokestatic 373, 3) := by decide +kernel
theorem dX11_setV_20 : decode cX11_setV 20 = .ok (.return_, 1) := by decide +kernel
theorem dX11_word_0 : decode cX11_word 0 = .ok (.aload_n 0, 1) := by decide +kernel
theorem dX11_word_1 : decode cX11_word 1 = .ok (.iload_n 1, 1) := by decide +kernel
theorem dX11_word_2 : decode cX11_word 2 = .ok (.sipush 255, 3) := by decide +kernel
theorem dX11_word_5 : decode cX11_word 5 = .ok (.invokevirtual 366, 3) := by decide +kernel
theorem dX11_word_8 : decode cX11_word 8 = .ok (.ifCond .eq 7, 3) := by decide +kernel
theorem dX11_word_11 : decode cX11_word 11 = .ok (.iconst 0, 1) := by decide +kernel
theorem dX11_word_12 : decode cX11_word 12 = .ok (.goto 11, 3) := by decide +kernel
theorem dX11_word_15 : decode cX11_word 15 = .ok (.aload_n 0, 1) := by decide +kernel
theorem dX11_word_16 : decode cX11_word 16 = .ok (.getfield 19, 3) := by decide +kernel
theorem dX11_word_19 : decode cX11_word 19 = .ok (.iload_n 1, 1) := by decide +kernel
theorem dX11_word_20 : decode cX11_word 20 = .ok (.invokestatic 369, 3) := by decide +kernel
theorem dX11_word_23 : decode cX11_word 23 = .ok (.ireturn, 1) := by decide +kernel
theorem dX11_setWord_0 : decode cX11_setWord 0 = .ok (.aload_n 0, 1) := by decide +kernel
theorem dX11_setWord_1 : decode cX11_setWord 1 = .ok (.iload_n 1, 1) := by decide +kernel
theorem dX11_setWord_2 : decode cX11_setWord 2 = .ok (.sipush 255, 3) := by decide +kernel
theorem dX11_setWord_5 : decode cX11_setWord 5 = .ok (.invokevirtual 366, 3) := by decide +kernel
theorem dX11_setWord_8 : decode cX11_setWord 8 = .ok (.ifCond .eq 4, 3) := by decide +kernel
theorem dX11_setWord_11 : decode cX11_setWord 11 = .ok (.return_, 1) := by decide +kernel
theorem dX11_setWord_12 : decode cX11_setWord 12 = .ok (.aload_n 0, 1) := by decide +kernel
theorem dX11_setWord_13 : decode cX11_setWord 13 = .ok (.getfield 19, 3) := by decide +kernel
theorem dX11_setWord_16 : decode cX11_setWord 16 = .ok (.iload_n 1, 1) := by decide +kernel
theorem dX11_setWord_17 : decode cX11_setWord 17 = .ok (.iload_n 2, 1) := by decide +kernel
theorem dX11_setWord_18 : decode cX11_setWord 18 = .ok (.invokestatic 373, 3) := by decide +kernel
theorem dX11_setWord_21 : decode cX11_setWord 21 = .ok (.return_, 1) := by decide +kernel
theorem dX11_shut_0 : decode cX11_shut 0 = .ok (.aload_n 0, 1) := by decide +kernel
theorem dX11_shut_1 : decode cX11_shut 1 = .ok (.iload_n 1, 1) := by decide +kernel
theorem dX11_shut_2 : decode cX11_shut 2 = .ok (.bipush 15, 2) := by decide +kernel
theorem dX11_shut_4 : decode cX11_shut 4 = .ok (.invokevirtual 366, 3) := by decide +kernel
theorem dX11_shut_7 : decode cX11_shut 7 = .ok (.ifCond .eq 4, 3) := by decide +kernel
theorem dX11_shut_10 : decode cX11_shut 10 = .ok (.return_, 1) := by decide +kernel
theorem dX11_shut_11 : decode cX11_shut 11 = .ok (.aload_n 0, 1) := by decide +kernel
theorem dX11_shut_12 : decode cX11_shut 12 = .ok (.getfield 22, 3) := by decide +kernel
theorem dX11_shut_15 : decode cX11_shut 15 = .ok (.iload_n 1, 1) := by decide +kernel
theorem dX11_shut_16 : decode cX11_shut 16 = .ok (.iload_n 2, 1) := by decide +kernel
theorem dX11_shut_17 : decode cX11_shut 17 = .ok (.bastore, 1) := by decide +kernel
theorem dX11_shut_18 : decode cX11_shut 18 = .ok (.return_, 1) := by decide +kernel
theorem dX11_state_0 : decode cX11_state 0 = .ok (.aload_n 0, 1) := by decide +kernel
theorem dX11_state_1 : decode cX11_state 1 = .ok (.iconst 0, 1) := by decide +kernel
theorem dX11_state_2 : decode cX11_state 2 = .ok (.putfield 33, 3) := by decide +kernel
theorem dX11_state_5 : decode cX11_state 5 = .ok (.iload_n 1, 1) := by decide +kernel
theorem dX11_state_6 : decode cX11_state 6 = .ok (.tableswitch 107 0 9 #[54, 59, 64, 69, 74, 79, 87, 92, 97, 102], 54) := by decide +kernel
theorem dX11_state_60 : decode cX11_state 60 = .ok (.aload_n 0, 1) := by decide +kernel
theorem dX11_state_61 : decode cX11_state 61 = .ok (.getfield 88, 3) := by decide +kernel
theorem dX11_state_64 : decode cX11_state 64 = .ok (.ireturn, 1) := by decide +kernel
theorem dX11_state_65 : decode cX11_state 65 = .ok (.aload_n 0, 1) := by decide +kernel
theorem dX11_state_66 : decode cX11_state 66 = .ok (.getfield 29, 3) := by decide +kernel
theorem dX11_state_69 : decode cX11_state 69 = .ok (.ireturn, 1) := by decide +kernel
theorem dX11_state_70 : decode cX11_state 70 = .ok (.aload_n 0, 1) := by decide +kernel
theorem dX11_state_71 : decode cX11_state 71 = .ok (.getfield 176, 3) := by decide +kernel
theorem dX11_state_74 : decode cX11_state 74 = .ok (.ireturn, 1) := by decide +kernel
theorem dX11_state_75 : decode cX11_state 75 = .ok (.aload_n 0, 1) := by decide +kernel
theorem dX11_state_76 : decode cX11_state 76 = .ok (.getfield 224, 3) := by decide +kernel
theorem dX11_state_79 : decode cX11_state 79 = .ok (.ireturn, 1) := by decide +kernel
theorem dX11_state_80 : decode cX11_state 80 = .ok (.aload_n 0, 1) := by decide +kernel
theorem dX11_state_81 : decode cX11_state 81 = .ok (.getfield 203, 3) := by decide +kernel
theorem dX11_state_84 : decode cX11_state 84 = .ok (.ireturn, 1) := by decide +kernel
theorem dX11_state_85 : decode cX11_state 85 = .ok (.aload_n 0, 1) := by decide +kernel
theorem dX11_state_86 : decode cX11_state 86 = .ok (.getfield 29, 3) := by decide +kernel
theorem dX11_state_89 : decode cX11_state 89 = .ok (.invokestatic 188, 3) := by decide +kernel
theorem dX11_state_92 : decode cX11_state 92 = .ok (.ireturn, 1) := by decide +kernel
theorem dX11_state_93 : decode cX11_state 93 = .ok (.aload_n 0, 1) := by decide +kernel
theorem dX11_state_94 : decode cX11_state 94 = .ok (.getfield 167, 3) := by decide +kernel
theorem dX11_state_97 : decode cX11_state 97 = .ok (.ireturn, 1) := by decide +kernel
theorem dX11_state_98 : decode cX11_state 98 = .ok (.aload_n 0, 1) := by decide +kernel
theorem dX11_state_99 : decode cX11_state 99 = .ok (.getfield 170, 3) := by decide +kernel
theorem dX11_state_102 : decode cX11_state 102 = .ok (.ireturn, 1) := by decide +kernel
theorem dX11_state_103 : decode cX11_state 103 = .ok (.aload_n 0, 1) := by decide +kernel
theorem dX11_state_104 : decode cX11_state 104 = .ok (.getfield 173, 3) := by decide +kernel
theorem dX11_state_107 : decode cX11_state 107 = .ok (.ireturn, 1) := by decide +kernel
theorem dX11_state_108 : decode cX11_state 108 = .ok (.aload_n 0, 1) := by decide +kernel
theorem dX11_state_109 : decode cX11_state 109 = .ok (.getfield 351, 3) := by decide +kernel
theorem dX11_state_112 : decode cX11_state 112 = .ok (.ireturn, 1) := by decide +kernel
theorem dX11_state_113 : decode cX11_state 113 = .ok (.iconst (-1), 1) := by decide +kernel
theorem dX11_state_114 : decode cX11_state 114 = .ok (.ireturn, 1) := by decide +kernel
theorem dX11_setState_0 : decode cX11_setState 0 = .ok (.aload_n 0, 1) := by decide +kernel
theorem dX11_setState_1 : decode cX11_setState 1 = .ok (.iconst 0, 1) := by decide +kernel
theorem dX11_setState_2 : decode cX11_setState 2 = .ok (.putfield 33, 3) := by decide +kernel
theorem dX11_setState_5 : decode cX11_setState 5 = .ok (.iload_n 1, 1) := by decide +kernel
theorem dX11_setState_6 : decode cX11_setState 6 = .ok (.tableswitch 54 2 4 #[26, 36, 45], 26) := by decide +kernel
theorem dX11_setState_32 : decode cX11_setState 32 = .ok (.aload_n 0, 1) := by decide +kernel
theorem dX11_setState_33 : decode cX11_setState 33 = .ok (.iload_n 2, 1) := by decide +kernel
theorem dX11_setState_34 : decode cX11_setState 34 = .ok (.bipush 127, 2) := by decide +kernel
theorem dX11_setState_36 : decode cX11_setState 36 = .ok (.iand, 1) := by decide +kernel
theorem dX11_setState_37 : decode cX11_setState 37 = .ok (.putfield 176, 3) := by decide +kernel
theorem dX11_setState_40 : decode cX11_setState 40 = .ok (.iconst 1, 1) := by decide +kernel
theorem dX11_setState_41 : decode cX11_setState 41 = .ok (.ireturn, 1) := by decide +kernel
theorem dX11_setState_42 : decode cX11_setState 42 = .ok (.aload_n 0, 1) := by decide +kernel
theorem dX11_setState_43 : decode cX11_setState 43 = .ok (.iload_n 2, 1) := by decide +kernel
theorem dX11_setState_44 : decode cX11_setState 44 = .ok (.iconst 3, 1) := by decide +kernel
theorem dX11_setState_45 : decode cX11_setState 45 = .ok (.iand, 1) := by decide +kernel
theorem dX11_setState_46 : decode cX11_setState 46 = .ok (.putfield 224, 3) := by decide +kernel
theorem dX11_setState_49 : decode cX11_setState 49 = .ok (.iconst 1, 1) := by decide +kernel
theorem dX11_setState_50 : decode cX11_setState 50 = .ok (.ireturn, 1) := by decide +kernel
theorem dX11_setState_51 : decode cX11_setState 51 = .ok (.aload_n 0, 1) := by decide +kernel
theorem dX11_setState_52 : decode cX11_setState 52 = .ok (.iload_n 2, 1) := by decide +kernel
theorem dX11_setState_53 : decode cX11_setState 53 = .ok (.iconst 1, 1) := by decide +kernel
theorem dX11_setState_54 : decode cX11_setState 54 = .ok (.iand, 1) := by decide +kernel
theorem dX11_setState_55 : decode cX11_setState 55 = .ok (.putfield 203, 3) := by decide +kernel
theorem dX11_setState_58 : decode cX11_setState 58 = .ok (.iconst 1, 1) := by decide +kernel
theorem dX11_setState_59 : decode cX11_setState 59 = .ok (.ireturn, 1) := by decide +kernel
theorem dX11_setState_60 : decode cX11_setState 60 = .ok (.iconst 0, 1) := by decide +kernel
theorem dX11_setState_61 : decode cX11_setState 61 = .ok (.ireturn, 1) := by decide +kernel
theorem dX11_sum_0 : decode cX11_sum 0 = .ok (.aload_n 0, 1) := by decide +kernel
theorem dX11_sum_1 : decode cX11_sum 1 = .ok (.iconst 0, 1) := by decide +kernel
theorem dX11_sum_2 : decode cX11_sum 2 = .ok (.putfield 33, 3) := by decide +kernel
theorem dX11_sum_5 : decode cX11_sum 5 = .ok (.iconst 0, 1) := by decide +kernel
theorem dX11_sum_6 : decode cX11_sum 6 = .ok (.istore_n 1, 1) := by decide +kernel
theorem dX11_sum_7 : decode cX11_sum 7 = .ok (.iconst 0, 1) := by decide +kernel
theorem dX11_sum_8 : decode cX11_sum 8 = .ok (.istore_n 2, 1) := by decide +kernel
theorem dX11_sum_9 : decode cX11_sum 9 = .ok (.iload_n 2, 1) := by decide +kernel
theorem dX11_sum_10 : decode cX11_sum 10 = .ok (.sipush 128, 3) := by decide +kernel
theorem dX11_sum_13 : decode cX11_sum 13 = .ok (.if_icmp .ge 23, 3) := by decide +kernel
theorem dX11_sum_16 : decode cX11_sum 16 = .ok (.bipush 31, 2) := by decide +kernel
theorem dX11_sum_18 : decode cX11_sum 18 = .ok (.iload_n 1, 1) := by decide +kernel
theorem dX11_sum_19 : decode cX11_sum 19 = .ok (.imul, 1) := by decide +kernel
theorem dX11_sum_20 : decode cX11_sum 20 = .ok (.aload_n 0, 1) := by decide +kernel
theorem dX11_sum_21 : decode cX11_sum 21 = .ok (.getfield 13, 3) := by decide +kernel
theorem dX11_sum_24 : decode cX11_sum 24 = .ok (.iload_n 2, 1) := by decide +kernel
theorem dX11_sum_25 : decode cX11_sum 25 = .ok (.invokestatic 369, 3) := by decide +kernel
theorem dX11_sum_28 : decode cX11_sum 28 = .ok (.iadd, 1) := by decide +kernel
theorem dX11_sum_29 : decode cX11_sum 29 = .ok (.istore_n 1, 1) := by decide +kernel
theorem dX11_sum_30 : decode cX11_sum 30 = .ok (.iinc 2 1, 3) := by decide +kernel
theorem dX11_sum_33 : decode cX11_sum 33 = .ok (.goto (-24), 3) := by decide +kernel
theorem dX11_sum_36 : decode cX11_sum 36 = .ok (.iload_n 1, 1) := by decide +kernel
theorem dX11_sum_37 : decode cX11_sum 37 = .ok (.ireturn, 1) := by decide +kernel
theorem dJ13_remainderUnsigned_f86c9_0 : decode cJ13_remainderUnsigned_f86c9 0 = .ok (.lload_n 2, 1) := by decide +kernel
theorem dJ13_remainderUnsigned_f86c9_1 : decode cJ13_remainderUnsigned_f86c9 1 = .ok (.lconst 0, 1) := by decide +kernel
theorem dJ13_remainderUnsigned_f86c9_2 : decode cJ13_remainderUnsigned_f86c9 2 = .ok (.lcmp, 1) := by decide +kernel
theorem dJ13_remainderUnsigned_f86c9_3 : decode cJ13_remainderUnsigned_f86c9 3 = .ok (.ifCond .lt 37, 3) := by decide +kernel
theorem dJ13_remainderUnsigned_f86c9_6 : decode cJ13_remainderUnsigned_f86c9 6 = .ok (.lload_n 0, 1) := by decide +kernel
theorem dJ13_remainderUnsigned_f86c9_7 : decode cJ13_remainderUnsigned_f86c9 7 = .ok (.iconst 1, 1) := by decide +kernel
theorem dJ13_remainderUnsigned_f86c9_8 : decode cJ13_remainderUnsigned_f86c9 8 = .ok (.lushr, 1) := by decide +kernel
theorem dJ13_remainderUnsigned_f86c9_9 : decode cJ13_remainderUnsigned_f86c9 9 = .ok (.lload_n 2, 1) := by decide +kernel
theorem dJ13_remainderUnsigned_f86c9_10 : decode cJ13_remainderUnsigned_f86c9 10 = .ok (.ldiv, 1) := by decide +kernel
theorem dJ13_remainderUnsigned_f86c9_11 : decode cJ13_remainderUnsigned_f86c9 11 = .ok (.iconst 1, 1) := by decide +kernel
theorem dJ13_remainderUnsigned_f86c9_12 : decode cJ13_remainderUnsigned_f86c9 12 = .ok (.lshl, 1) := by decide +kernel
theorem dJ13_remainderUnsigned_f86c9_13 : decode cJ13_remainderUnsigned_f86c9 13 = .ok (.lstore 4, 2) := by decide +kernel
theorem dJ13_remainderUnsigned_f86c9_15 : decode cJ13_remainderUnsigned_f86c9 15 = .ok (.lload_n 0, 1) := by decide +kernel
theorem dJ13_remainderUnsigned_f86c9_16 : decode cJ13_remainderUnsigned_f86c9 16 = .ok (.lload 4, 2) := by decide +kernel
theorem dJ13_remainderUnsigned_f86c9_18 : decode cJ13_remainderUnsigned_f86c9 18 = .ok (.lload_n 2, 1) := by decide +kernel
theorem dJ13_remainderUnsigned_f86c9_19 : decode cJ13_remainderUnsigned_f86c9 19 = .ok (.lmul, 1) := by decide +kernel
theorem dJ13_remainderUnsigned_f86c9_20 : decode cJ13_remainderUnsigned_f86c9 20 = .ok (.lsub, 1) := by decide +kernel
theorem dJ13_remainderUnsigned_f86c9_21 : decode cJ13_remainderUnsigned_f86c9 21 = .ok (.lstore 6, 2) := by decide +kernel
theorem dJ13_remainderUnsigned_f86c9_23 : decode cJ13_remainderUnsigned_f86c9 23 = .ok (.lload 6, 2) := by decide +kernel
theorem dJ13_remainderUnsigned_f86c9_25 : decode cJ13_remainderUnsigned_f86c9 25 = .ok (.lload 6, 2) := by decide +kernel
theorem dJ13_remainderUnsigned_f86c9_27 : decode cJ13_remainderUnsigned_f86c9 27 = .ok (.lload_n 2, 1) := by decide +kernel
theorem dJ13_remainderUnsigned_f86c9_28 : decode cJ13_remainderUnsigned_f86c9 28 = .ok (.lsub, 1) := by decide +kernel
theorem dJ13_remainderUnsigned_f86c9_29 : decode cJ13_remainderUnsigned_f86c9 29 = .ok (.ldc2_w 306, 3) := by decide +kernel
theorem dJ13_remainderUnsigned_f86c9_32 : decode cJ13_remainderUnsigned_f86c9 32 = .ok (.lxor, 1) := by decide +kernel
theorem dJ13_remainderUnsigned_f86c9_33 : decode cJ13_remainderUnsigned_f86c9 33 = .ok (.bipush 63, 2) := by decide +kernel
theorem dJ13_remainderUnsigned_f86c9_35 : decode cJ13_remainderUnsigned_f86c9 35 = .ok (.lshr, 1) := by decide +kernel
theorem dJ13_remainderUnsigned_f86c9_36 : decode cJ13_remainderUnsigned_f86c9 36 = .ok (.lload_n 2, 1) := by decide +kernel
theorem dJ13_remainderUnsigned_f86c9_37 : decode cJ13_remainderUnsigned_f86c9 37 = .ok (.land, 1) := by decide +kernel
theorem dJ13_remainderUnsigned_f86c9_38 : decode cJ13_remainderUnsigned_f86c9 38 = .ok (.lsub, 1) := by decide +kernel
theorem dJ13_remainderUnsigned_f86c9_39 : decode cJ13_remainderUnsigned_f86c9 39 = .ok (.lreturn, 1) := by decide +kernel
theorem dJ13_remainderUnsigned_f86c9_40 : decode cJ13_remainderUnsigned_f86c9 40 = .ok (.lload_n 0, 1) := by decide +kernel
theorem dJ13_remainderUnsigned_f86c9_41 : decode cJ13_remainderUnsigned_f86c9 41 = .ok (.lload_n 0, 1) := by decide +kernel
theorem dJ13_remainderUnsigned_f86c9_42 : decode cJ13_remainderUnsigned_f86c9 42 = .ok (.lload_n 0, 1) := by decide +kernel
theorem dJ13_remainderUnsigned_f86c9_43 : decode cJ13_remainderUnsigned_f86c9 43 = .ok (.lload_n 2, 1) := by decide +kernel
theorem dJ13_remainderUnsigned_f86c9_44 : decode cJ13_remainderUnsigned_f86c9 44 = .ok (.lsub, 1) := by decide +kernel
theorem dJ13_remainderUnsigned_f86c9_45 : decode cJ13_remainderUnsigned_f86c9 45 = .ok (.ldc2_w 306, 3) := by decide +kernel
theorem dJ13_remainderUnsigned_f86c9_48 : decode cJ13_remainderUnsigned_f86c9 48 = .ok (.lxor, 1) := by decide +kernel
theorem dJ13_remainderUnsigned_f86c9_49 : decode cJ13_remainderUnsigned_f86c9 49 = .ok (.land, 1) := by decide +kernel
theorem dJ13_remainderUnsigned_f86c9_50 : decode cJ13_remainderUnsigned_f86c9 50 = .ok (.bipush 63, 2) := by decide +kernel
theorem dJ13_remainderUnsigned_f86c9_52 : decode cJ13_remainderUnsigned_f86c9 52 = .ok (.lshr, 1) := by decide +kernel
theorem dJ13_remainderUnsigned_f86c9_53 : decode cJ13_remainderUnsigned_f86c9 53 = .ok (.lload_n 2, 1) := by decide +kernel
theorem dJ13_remainderUnsigned_f86c9_54 : decode cJ13_remainderUnsigned_f86c9 54 = .ok (.land, 1) := by decide +kernel
theorem dJ13_remainderUnsigned_f86c9_55 : decode cJ13_remainderUnsigned_f86c9 55 = .ok (.lsub, 1) := by decide +kernel
theorem dJ13_remainderUnsigned_f86c9_56 : decode cJ13_remainderUnsigned_f86c9 56 = .ok (.lreturn, 1) := by decide +kernel
theorem dJ9_max_f86c9_0 : decode cJ9_max_f86c9 0 = .ok (.lload_n 0, 1) := by decide +kernel
theorem dJ9_max_f86c9_1 : decode cJ9_max_f86c9 1 = .ok (.lload_n 2, 1) := by decide +kernel
theorem dJ9_max_f86c9_2 : decode cJ9_max_f86c9 2 = .ok (.lcmp, 1) := by decide +kernel
theorem dJ9_max_f86c9_3 : decode cJ9_max_f86c9 3 = .ok (.ifCond .lt 7, 3) := by decide +kernel
theorem dJ9_max_f86c9_6 : decode cJ9_max_f86c9 6 = .ok (.lload_n 0, 1) := by decide +kernel
theorem dJ9_max_f86c9_7 : decode cJ9_max_f86c9 7 = .ok (.goto 4, 3) := by decide +kernel
theorem dJ9_max_f86c9_10 : decode cJ9_max_f86c9 10 = .ok (.lload_n 2, 1) := by decide +kernel
theorem dJ9_max_f86c9_11 : decode cJ9_max_f86c9 11 = .ok (.lreturn, 1) := by decide +kernel
theorem dJ9_min_f86c9_0 : decode cJ9_min_f86c9 0 = .ok (.lload_n 0, 1) := by decide +kernel
theorem dJ9_min_f86c9_1 : decode cJ9_min_f86c9 1 = .ok (.lload_n 2, 1) := by decide +kernel
theorem dJ9_min_f86c9_2 : decode cJ9_min_f86c9 2 = .ok (.lcmp, 1) := by decide +kernel
theorem dJ9_min_f86c9_3 : decode cJ9_min_f86c9 3 = .ok (.ifCond .gt 7, 3) := by decide +kernel
theorem dJ9_min_f86c9_6 : decode cJ9_min_f86c9 6 = .ok (.lload_n 0, 1) := by decide +kernel
theorem dJ9_min_f86c9_7 : decode cJ9_min_f86c9 7 = .ok (.goto 4, 3) := by decide +kernel
theorem dJ9_min_f86c9_10 : decode cJ9_min_f86c9 10 = .ok (.lload_n 2, 1) := by decide +kernel
theorem dJ9_min_f86c9_11 : decode cJ9_min_f86c9 11 = .ok (.lreturn, 1) := by decide +kernel
theorem dL_x_0 : decode cL_x 0 = .ok (.aload_n 2, 1) := by decide +kernel
theorem dL_x_1 : decode cL_x 1 = .ok (.iconst 0, 1) := by decide +kernel
theorem dL_x_2 : decode cL_x 2 = .ok (.aload_n 0, 1) := by decide +kernel
theorem dL_x_3 : decode cL_x 3 = .ok (.iload_n 1, 1) := by decide +kernel
theorem dL_x_4 : decode cL_x 4 = .ok (.invokevirtual 7, 3) := by decide +kernel
theorem dL_x_7 : decode cL_x 7 = .ok (.i2l, 1) := by decide +kernel
theorem dL_x_8 : decode cL_x 8 = .ok (.lastore, 1) := by decide +kernel
theorem dL_x_9 : decode cL_x 9 = .ok (.goto 6, 3) := by decide +kernel
theorem dL_x_12 : decode cL_x 12 = .ok (.astore_n 3, 1) := by decide +kernel
theorem dL_x_13 : decode cL_x 13 = .ok (.iconst 1, 1) := by decide +kernel
theorem dL_x_14 : decode cL_x 14 = .ok (.ireturn, 1) := by decide +kernel
theorem dL_x_15 : decode cL_x 15 = .ok (.iconst 0, 1) := by decide +kernel
theorem dL_x_16 : decode cL_x 16 = .ok (.ireturn, 1) := by decide +kernel
theorem dL_setX_0 : decode cL_setX 0 = .ok (.aload_n 0, 1) := by decide +kernel
theorem dL_setX_1 : decode cL_setX 1 = .ok (.iload_n 1, 1) := by decide +kernel
theorem dL_setX_2 : decode cL_setX 2 = .ok (.iload_n 2, 1) := by decide +kernel
theorem dL_setX_3 : decode cL_setX 3 = .ok (.invokevirtual 15, 3) := by decide +kernel
theorem dL_setX_6 : decode cL_setX 6 = .ok (.goto 6, 3) := by decide +kernel
theorem dL_setX_9 : decode cL_setX 9 = .ok (.astore_n 3, 1) := by decide +kernel
theorem dL_setX_10 : decode cL_setX 10 = .ok (.iconst 1, 1) := by decide +kernel
theorem dL_setX_11 : decode cL_setX 11 = .ok (.ireturn, 1) := by decide +kernel
theorem dL_setX_12 : decode cL_setX 12 = .ok (.iconst 0, 1) := by decide +kernel
theorem dL_setX_13 : decode cL_setX 13 = .ok (.ireturn, 1) := by decide +kernel
theorem dL_v_0 : decode cL_v 0 = .ok (.aload_n 2, 1) := by decide +kernel
theorem dL_v_1 : decode cL_v 1 = .ok (.iconst 0, 1) := by decide +kernel
theorem dL_v_2 : decode cL_v 2 = .ok (.aload_n 0, 1) := by decide +kernel
theorem dL_v_3 : decode cL_v 3 = .ok (.iload_n 1, 1) := by decide +kernel
theorem dL_v_4 : decode cL_v 4 = .ok (.invokevirtual 19, 3) := by decide +kernel
theorem dL_v_7 : decode cL_v 7 = .ok (.i2l, 1) := by decide +kernel
theorem dL_v_8 : decode cL_v 8 = .ok (.lastore, 1) := by decide +kernel
theorem dL_v_9 : decode cL_v 9 = .ok (.goto 6, 3) := by decide +kernel
theorem dL_v_12 : decode cL_v 12 = .ok (.astore_n 3, 1) := by decide +kernel
theorem dL_v_13 : decode cL_v 13 = .ok (.iconst 1, 1) := by decide +kernel
theorem dL_v_14 : decode cL_v 14 = .ok (.ireturn, 1) := by decide +kernel
theorem dL_v_15 : decode cL_v 15 = .ok (.iconst 0, 1) := by decide +kernel
theorem dL_v_16 : decode cL_v 16 = .ok (.ireturn, 1) := by decide +kernel
theorem dL_setV_0 : decode cL_setV 0 = .ok (.aload_n 0, 1) := by decide +kernel
theorem dL_setV_1 : decode cL_setV 1 = .ok (.iload_n 1, 1) := by decide +kernel
theorem dL_setV_2 : decode cL_setV 2 = .ok (.iload_n 2, 1) := by decide +kernel
theorem dL_setV_3 : decode cL_setV 3 = .ok (.invokevirtual 22, 3) := by decide +kernel
theorem dL_setV_6 : decode cL_setV 6 = .ok (.goto 6, 3) := by decide +kernel
theorem dL_setV_9 : decode cL_setV 9 = .ok (.astore_n 3, 1) := by decide +kernel
theorem dL_setV_10 : decode cL_setV 10 = .ok (.iconst 1, 1) := by decide +kernel
theorem dL_setV_11 : decode cL_setV 11 = .ok (.ireturn, 1) := by decide +kernel
theorem dL_setV_12 : decode cL_setV 12 = .ok (.iconst 0, 1) := by decide +kernel
theorem dL_setV_13 : decode cL_setV 13 = .ok (.ireturn, 1) := by decide +kernel
theorem dL_word_0 : decode cL_word 0 = .ok (.aload_n 2, 1) := by decide +kernel
theorem dL_word_1 : decode cL_word 1 = .ok (.iconst 0, 1) := by decide +kernel
theorem dL_word_2 : decode cL_word 2 = .ok (.aload_n 0, 1) := by decide +kernel
theorem dL_word_3 : decode cL_word 3 = .ok (.iload_n 1, 1) := by decide +kernel
theorem dL_word_4 : decode cL_word 4 = .ok (.invokevirtual 25, 3) := by decide +kernel
theorem dL_word_7 : decode cL_word 7 = .ok (.i2l, 1) := by decide +kernel
theorem dL_word_8 : decode cL_word 8 = .ok (.lastore, 1) := by decide +kernel
theorem dL_word_9 : decode cL_word 9 = .ok (.goto 6, 3) := by decide +kernel
theorem dL_word_12 : decode cL_word 12 = .ok (.astore_n 3, 1) := by decide +kernel
theorem dL_word_13 : decode cL_word 13 = .ok (.iconst 1, 1) := by decide +kernel
theorem dL_word_14 : decode cL_word 14 = .ok (.ireturn, 1) := by decide +kernel
theorem dL_word_15 : decode cL_word 15 = .ok (.iconst 0, 1) := by decide +kernel
theorem dL_word_16 : decode cL_word 16 = .ok (.ireturn, 1) := by decide +kernel
theorem dL_setWord_0 : decode cL_setWord 0 = .ok (.aload_n 0, 1) := by decide +kernel
theorem dL_setWord_1 : decode cL_setWord 1 = .ok (.iload_n 1, 1) := by decide +kernel
theorem dL_setWord_2 : decode cL_setWord 2 = .ok (.iload_n 2, 1) := by decide +kernel
theorem dL_setWord_3 : decode cL_setWord 3 = .ok (.invokevirtual 28, 3) := by decide +kernel
theorem dL_setWord_6 : decode cL_setWord 6 = .ok (.goto 6, 3) := by decide +kernel
theorem dL_setWord_9 : decode cL_setWord 9 = .ok (.astore_n 3, 1) := by decide +kernel
theorem dL_setWord_10 : decode cL_setWord 10 = .ok (.iconst 1, 1) := by decide +kernel
theorem dL_setWord_11 : decode cL_setWord 11 = .ok (.ireturn, 1) := by decide +kernel
theorem dL_setWord_12 : decode cL_setWord 12 = .ok (.iconst 0, 1) := by decide +kernel
theorem dL_setWord_13 : decode cL_setWord 13 = .ok (.ireturn, 1) := by decide +kernel
theorem dL_shut_0 : decode cL_shut 0 = .ok (.aload_n 0, 1) := by decide +kernel
theorem dL_shut_1 : decode cL_shut 1 = .ok (.iload_n 1, 1) := by decide +kernel
theorem dL_shut_2 : decode cL_shut 2 = .ok (.iload_n 2, 1) := by decide +kernel
theorem dL_shut_3 : decode cL_shut 3 = .ok (.invokevirtual 31, 3) := by decide +kernel
theorem dL_shut_6 : decode cL_shut 6 = .ok (.goto 6, 3) := by decide +kernel
theorem dL_shut_9 : decode cL_shut 9 = .ok (.astore_n 3, 1) := by decide +kernel
theorem dL_shut_10 : decode cL_shut 10 = .ok (.iconst 1, 1) := by decide +kernel
theorem dL_shut_11 : decode cL_shut 11 = .ok (.ireturn, 1) := by decide +kernel
theorem dL_shut_12 : decode cL_shut 12 = .ok (.iconst 0, 1) := by decide +kernel
theorem dL_shut_13 : decode cL_shut 13 = .ok (.ireturn, 1) := by decide +kernel
theorem dL_law_0 : decode cL_law 0 = .ok (.new 8, 3) := by decide +kernel
theorem dL_law_3 : decode cL_law 3 = .ok (.dup, 1) := by decide +kernel
theorem dL_law_4 : decode cL_law 4 = .ok (.invokespecial 35, 3) := by decide +kernel
theorem dL_law_7 : decode cL_law 7 = .ok (.astore_n 1, 1) := by decide +kernel
theorem dL_law_8 : decode cL_law 8 = .ok (.new 36, 3) := by decide +kernel
theorem dL_law_11 : decode cL_law 11 = .ok (.dup, 1) := by decide +kernel
theorem dL_law_12 : decode cL_law 12 = .ok (.invokespecial 38, 3) := by decide +kernel
theorem dL_law_15 : decode cL_law 15 = .ok (.astore_n 2, 1) := by decide +kernel
theorem dL_law_16 : decode cL_law 16 = .ok (.iconst 1, 1) := by decide +kernel
theorem dL_law_17 : decode cL_law 17 = .ok (.newarray .long, 2) := by decide +kernel
theorem dL_law_19 : decode cL_law 19 = .ok (.astore_n 3, 1) := by decide +kernel
theorem dL_law_20 : decode cL_law 20 = .ok (.iconst 0, 1) := by decide +kernel
theorem dL_law_21 : decode cL_law 21 = .ok (.istore 4, 2) := by decide +kernel
theorem dL_law_23 : decode cL_law 23 = .ok (.iload 4, 2) := by decide +kernel
theorem dL_law_25 : decode cL_law 25 = .ok (.aload_n 0, 1) := by decide +kernel
theorem dL_law_26 : decode cL_law 26 = .ok (.arraylength, 1) := by decide +kernel
theorem dL_law_27 : decode cL_law 27 = .ok (.iconst 3, 1) := by decide +kernel
theorem dL_law_28 : decode cL_law 28 = .ok (.isub, 1) := by decide +kernel
theorem dL_law_29 : decode cL_law 29 = .ok (.if_icmp .gt 608, 3) := by decide +kernel
theorem dL_law_32 : decode cL_law 32 = .ok (.aload_n 0, 1) := by decide +kernel
theorem dL_law_33 : decode cL_law 33 = .ok (.iload 4, 2) := by decide +kernel
theorem dL_law_35 : decode cL_law 35 = .ok (.iaload, 1) := by decide +kernel
theorem dL_law_36 : decode cL_law 36 = .ok (.bipush 15, 2) := by decide +kernel
theorem dL_law_38 : decode cL_law 38 = .ok (.iand, 1) := by decide +kernel
theorem dL_law_39 : decode cL_law 39 = .ok (.tableswitch 592 0 11 #[61, 86, 141, 197, 245, 301, 349, 405, 453, 517, 542, 579], 61) := by decide +kernel
theorem dL_law_100 : decode cL_law 100 = .ok (.aload_n 1, 1) := by decide +kernel
theorem dL_law_101 : decode cL_law 101 = .ok (.aload_n 0, 1) := by decide +kernel
theorem dL_law_102 : decode cL_law 102 = .ok (.iload 4, 2) := by decide +kernel
theorem dL_law_104 : decode cL_law 104 = .ok (.iconst 1, 1) := by decide +kernel
theorem dL_law_105 : decode cL_law 105 = .ok (.iadd, 1) := by decide +kernel
theorem dL_law_106 : decode cL_law 106 = .ok (.iaload, 1) := by decide +kernel
theorem dL_law_107 : decode cL_law 107 = .ok (.invokevirtual 39, 3) := by decide +kernel
theorem dL_law_110 : decode cL_law 110 = .ok (.aload_n 2, 1) := by decide +kernel
theorem dL_law_111 : decode cL_law 111 = .ok (.aload_n 0, 1) := by decide +kernel
theorem dL_law_112 : decode cL_law 112 = .ok (.iload 4, 2) := by decide +kernel
theorem dL_law_114 : decode cL_law 114 = .ok (.iconst 1, 1) := by decide +kernel
theorem dL_law_115 : decode cL_law 115 = .ok (.iadd, 1) := by decide +kernel
theorem dL_law_116 : decode cL_law 116 = .ok (.iaload, 1) := by decide +kernel
theorem dL_law_117 : decode cL_law 117 = .ok (.invokevirtual 42, 3) := by decide +kernel
theorem dL_law_120 : decode cL_law 120 = .ok (.if_icmp .eq 511, 3) := by decide +kernel
theorem dL_law_123 : decode cL_law 123 = .ok (.iconst 0, 1) := by decide +kernel
theorem dL_law_124 : decode cL_law 124 = .ok (.ireturn, 1) := by decide +kernel
theorem dL_law_125 : decode cL_law 125 = .ok (.aload_n 1, 1) := by decide +kernel
theorem dL_law_126 : decode cL_law 126 = .ok (.aload_n 0, 1) := by decide +kernel
theorem dL_law_127 : decode cL_law 127 = .ok (.iload 4, 2) := by decide +kernel
theorem dL_law_129 : decode cL_law 129 = .ok (.iconst 1, 1) := by decide +kernel
theorem dL_law_130 : decode cL_law 130 = .ok (.iadd, 1) := by decide +kernel
theorem dL_law_131 : decode cL_law 131 = .ok (.iaload, 1) := by decide +kernel
theorem dL_law_132 : decode cL_law 132 = .ok (.i2l, 1) := by decide +kernel
theorem dL_law_133 : decode cL_law 133 = .ok (.bipush 32, 2) := by decide +kernel
theorem dL_law_135 : decode cL_law 135 = .ok (.lshl, 1) := by decide +kernel
theorem dL_law_136 : decode cL_law 136 = .ok (.aload_n 0, 1) := by decide +kernel
theorem dL_law_137 : decode cL_law 137 = .ok (.iload 4, 2) := by decide +kernel
theorem dL_law_139 : decode cL_law 139 = .ok (.iconst 2, 1) := by decide +kernel
theorem dL_law_140 : decode cL_law 140 = .ok (.iadd, 1) := by decide +kernel
theorem dL_law_141 : decode cL_law 141 = .ok (.iaload, 1) := by decide +kernel
theorem dL_law_142 : decode cL_law 142 = .ok (.i2l, 1) := by decide +kernel
theorem dL_law_143 : decode cL_law 143 = .ok (.ldc2_w 43, 3) := by decide +kernel
theorem dL_law_146 : decode cL_law 146 = .ok (.land, 1) := by decide +kernel
theorem dL_law_147 : decode cL_law 147 = .ok (.lor, 1) := by decide +kernel
theorem dL_law_148 : decode cL_law 148 = .ok (.invokevirtual 45, 3) := by decide +kernel
theorem dL_law_151 : decode cL_law 151 = .ok (.aload_n 2, 1) := by decide +kernel
theorem dL_law_152 : decode cL_law 152 = .ok (.aload_n 0, 1) := by decide +kernel
theorem dL_law_153 : decode cL_law 153 = .ok (.iload 4, 2) := by decide +kernel
theorem dL_law_155 : decode cL_law 155 = .ok (.iconst 1, 1) := by decide +kernel
theorem dL_law_156 : decode cL_law 156 = .ok (.iadd, 1) := by decide +kernel
theorem dL_law_157 : decode cL_law 157 = .ok (.iaload, 1) := by decide +kernel
theorem dL_law_158 : decode cL_law 158 = .ok (.i2l, 1) := by decide +kernel
theorem dL_law_159 : decode cL_law 159 = .ok (.bipush 32, 2) := by decide +kernel
theorem dL_law_161 : decode cL_law 161 = .ok (.lshl, 1) := by decide +kernel
theorem dL_law_162 : decode cL_law 162 = .ok (.aload_n 0, 1) := by decide +kernel
theorem dL_law_163 : decode cL_law 163 = .ok (.iload 4, 2) := by decide +kernel
theorem dL_law_165 : decode cL_law 165 = .ok (.iconst 2, 1) := by decide +kernel
theorem dL_law_166 : decode cL_law 166 = .ok (.iadd, 1) := by decide +kernel
theorem dL_law_167 : decode cL_law 167 = .ok (.iaload, 1) := by decide +kernel
theorem dL_law_168 : decode cL_law 168 = .ok (.i2l, 1) := by decide +kernel
theorem dL_law_169 : decode cL_law 169 = .ok (.ldc2_w 43, 3) := by decide +kernel
theorem dL_law_172 : decode cL_law 172 = .ok (.land, 1) := by decide +kernel
theorem dL_law_173 : decode cL_law 173 = .ok (.lor, 1) := by decide +kernel
theorem dL_law_174 : decode cL_law 174 = .ok (.invokevirtual 49, 3) := by decide +kernel
theorem dL_law_177 : decode cL_law 177 = .ok (.goto 454, 3) := by decide +kernel
theorem dL_law_180 : decode cL_law 180 = .ok (.aload_n 1, 1) := by decide +kernel
theorem dL_law_181 : decode cL_law 181 = .ok (.aload_n 0, 1) := by decide +kernel
theorem dL_law_182 : decode cL_law 182 = .ok (.iload 4, 2) := by decide +kernel
theorem dL_law_184 : decode cL_law 184 = .ok (.iconst 1, 1) := by decide +kernel
theorem dL_law_185 : decode cL_law 185 = .ok (.iadd, 1) := by decide +kernel
theorem dL_law_186 : decode cL_law 186 = .ok (.iaload, 1) := by decide +kernel
theorem dL_law_187 : decode cL_law 187 = .ok (.aload_n 3, 1) := by decide +kernel
theorem dL_law_188 : decode cL_law 188 = .ok (.invokestatic 50, 3) := by decide +kernel
theorem dL_law_191 : decode cL_law 191 = .ok (.istore 5, 2) := by decide +kernel
theorem dL_law_193 : decode cL_law 193 = .ok (.aload_n 2, 1) := by decide +kernel
theorem dL_law_194 : decode cL_law 194 = .ok (.aload_n 0, 1) := by decide +kernel
theorem dL_law_195 : decode cL_law 195 = .ok (.iload 4, 2) := by decide +kernel
theorem dL_law_197 : decode cL_law 197 = .ok (.iconst 1, 1) := by decide +kernel
theorem dL_law_198 : decode cL_law 198 = .ok (.iadd, 1) := by decide +kernel
theorem dL_law_199 : decode cL_law 199 = .ok (.iaload, 1) := by decide +kernel
theorem dL_law_200 : decode cL_law 200 = .ok (.invokevirtual 55, 3) := by decide +kernel
theorem dL_law_203 : decode cL_law 203 = .ok (.istore 6, 2) := by decide +kernel
theorem dL_law_205 : decode cL_law 205 = .ok (.aload_n 2, 1) := by decide +kernel
theorem dL_law_206 : decode cL_law 206 = .ok (.invokevirtual 56, 3) := by decide +kernel
theorem dL_law_209 : decode cL_law 209 = .ok (.iload 5, 2) := by decide +kernel
theorem dL_law_211 : decode cL_law 211 = .ok (.if_icmp .eq 5, 3) := by decide +kernel
theorem dL_law_214 : decode cL_law 214 = .ok (.iconst 0, 1) := by decide +kernel
theorem dL_law_215 : decode cL_law 215 = .ok (.ireturn, 1) := by decide +kernel
theorem dL_law_216 : decode cL_law 216 = .ok (.iload 5, 2) := by decide +kernel
theorem dL_law_218 : decode cL_law 218 = .ok (.ifCond .ne 15, 3) := by decide +kernel
theorem dL_law_221 : decode cL_law 221 = .ok (.aload_n 3, 1) := by decide +kernel
theorem dL_law_222 : decode cL_law 222 = .ok (.iconst 0, 1) := by decide +kernel
theorem dL_law_223 : decode cL_law 223 = .ok (.laload, 1) := by decide +kernel
theorem dL_law_224 : decode cL_law 224 = .ok (.iload 6, 2) := by decide +kernel
theorem dL_law_226 : decode cL_law 226 = .ok (.i2l, 1) := by decide +kernel
theorem dL_law_227 : decode cL_law 227 = .ok (.lcmp, 1) := by decide +kernel
theorem dL_law_228 : decode cL_law 228 = .ok (.ifCond .eq 5, 3) := by decide +kernel
theorem dL_law_231 : decode cL_law 231 = .ok (.iconst 0, 1) := by decide +kernel
theorem dL_law_232 : decode cL_law 232 = .ok (.ireturn, 1) := by decide +kernel
theorem dL_law_233 : decode cL_law 233 = .ok (.goto 398, 3) := by decide +kernel
theorem dL_law_236 : decode cL_law 236 = .ok (.aload_n 1, 1) := by decide +kernel
theorem dL_law_237 : decode cL_law 237 = .ok (.aload_n 0, 1) := by decide +kernel
theorem dL_law_238 : decode cL_law 238 = .ok (.iload 4, 2) := by decide +kernel
theorem dL_law_240 : decode cL_law 240 = .ok (.iconst 1, 1) := by decide +kernel
theorem dL_law_241 : decode cL_law 241 = .ok (.iadd, 1) := by decide +kernel
theorem dL_law_242 : decode cL_law 242 = .ok (.iaload, 1) := by decide +kernel
theorem dL_law_243 : decode cL_law 243 = .ok (.aload_n 0, 1) := by decide +kernel
theorem dL_law_244 : decode cL_law 244 = .ok (.iload 4, 2) := by decide +kernel
theorem dL_law_246 : decode cL_law 246 = .ok (.iconst 2, 1) := by decide +kernel
theorem dL_law_247 : decode cL_law 247 = .ok (.iadd, 1) := by decide +kernel
theorem dL_law_248 : decode cL_law 248 = .ok (.iaload, 1) := by decide +kernel
theorem dL_law_249 : decode cL_law 249 = .ok (.invokestatic 60, 3) := by decide +kernel
theorem dL_law_252 : decode cL_law 252 = .ok (.istore 5, 2) := by decide +kernel
theorem dL_law_254 : decode cL_law 254 = .ok (.aload_n 2, 1) := by decide +kernel
theorem dL_law_255 : decode cL_law 255 = .ok (.aload_n 0, 1) := by decide +kernel
theorem dL_law_256 : decode cL_law 256 = .ok (.iload 4, 2) := by decide +kernel
theorem dL_law_258 : decode cL_law 258 = .ok (.iconst 1, 1) := by decide +kernel
theorem dL_law_259 : decode cL_law 259 = .ok (.iadd, 1) := by decide +kernel
theorem dL_law_260 : decode cL_law 260 = .ok (.iaload, 1) := by decide +kernel
theorem dL_law_261 : decode cL_law 261 = .ok (.aload_n 0, 1) := by decide +kernel
theorem dL_law_262 : decode cL_law 262 = .ok (.iload 4, 2) := by decide +kernel
theorem dL_law_264 : decode cL_law 264 = .ok (.iconst 2, 1) := by decide +kernel
theorem dL_law_265 : decode cL_law 265 = .ok (.iadd, 1) := by decide +kernel
theorem dL_law_266 : decode cL_law 266 = .ok (.iaload, 1) := by decide +kernel
theorem dL_law_267 : decode cL_law 267 = .ok (.invokevirtual 63, 3) := by decide +kernel
theorem dL_law_270 : decode cL_law 270 = .ok (.aload_n 2, 1) := by decide +kernel
theorem dL_law_271 : decode cL_law 271 = .ok (.invokevirtual 56, 3) := by decide +kernel
theorem dL_law_274 : decode cL_law 274 = .ok (.iload 5, 2) := by decide +kernel
theorem dL_law_276 : decode cL_law 276 = .ok (.if_icmp .eq 5, 3) := by decide +kernel
theorem dL_law_279 : decode cL_law 279 = .ok (.iconst 0, 1) := by decide +kernel
theorem dL_law_280 : decode cL_law 280 = .ok (.ireturn, 1) := by decide +kernel
theorem dL_law_281 : decode cL_law 281 = .ok (.goto 350, 3) := by decide +kernel
theorem dL_law_284 : decode cL_law 284 = .ok (.aload_n 1, 1) := by decide +kernel
theorem dL_law_285 : decode cL_law 285 = .ok (.aload_n 0, 1) := by decide +kernel
theorem dL_law_286 : decode cL_law 286 = .ok (.iload 4, 2) := by decide +kernel
theorem dL_law_288 : decode cL_law 288 = .ok (.iconst 1, 1) := by decide +kernel
theorem dL_law_289 : decode cL_law 289 = .ok (.iadd, 1) := by decide +kernel
theorem dL_law_290 : decode cL_law 290 = .ok (.iaload, 1) := by decide +kernel
theorem dL_law_291 : decode cL_law 291 = .ok (.aload_n 3, 1) := by decide +kernel
theorem dL_law_292 : decode cL_law 292 = .ok (.invokestatic 64, 3) := by decide +kernel
theorem dL_law_295 : decode cL_law 295 = .ok (.istore 5, 2) := by decide +kernel
theorem dL_law_297 : decode cL_law 297 = .ok (.aload_n 2, 1) := by decide +kernel
theorem dL_law_298 : decode cL_law 298 = .ok (.aload_n 0, 1) := by decide +kernel
theorem dL_law_299 : decode cL_law 299 = .ok (.iload 4, 2) := by decide +kernel
theorem dL_law_301 : decode cL_law 301 = .ok (.iconst 1, 1) := by decide +kernel
theorem dL_law_302 : decode cL_law 302 = .ok (.iadd, 1) := by decide +kernel
theorem dL_law_303 : decode cL_law 303 = .ok (.iaload, 1) := by decide +kernel
theorem dL_law_304 : decode cL_law 304 = .ok (.invokevirtual 66, 3) := by decide +kernel
theorem dL_law_307 : decode cL_law 307 = .ok (.istore 6, 2) := by decide +kernel
theorem dL_law_309 : decode cL_law 309 = .ok (.aload_n 2, 1) := by decide +kernel
theorem dL_law_310 : decode cL_law 310 = .ok (.invokevirtual 56, 3) := by decide +kernel
theorem dL_law_313 : decode cL_law 313 = .ok (.iload 5, 2) := by decide +kernel
theorem dL_law_315 : decode cL_law 315 = .ok (.if_icmp .eq 5, 3) := by decide +kernel
theorem dL_law_318 : decode cL_law 318 = .ok (.iconst 0, 1) := by decide +kernel
theorem dL_law_319 : decode cL_law 319 = .ok (.ireturn, 1) := by decide +kernel
theorem dL_law_320 : decode cL_law 320 = .ok (.iload 5, 2) := by decide +kernel
theorem dL_law_322 : decode cL_law 322 = .ok (.ifCond .ne 15, 3) := by decide +kernel
theorem dL_law_325 : decode cL_law 325 = .ok (.aload_n 3, 1) := by decide +kernel
theorem dL_law_326 : decode cL_law 326 = .ok (.iconst 0, 1) := by decide +kernel
theorem dL_law_327 : decode cL_law 327 = .ok (.laload, 1) := by decide +kernel
theorem dL_law_328 : decode cL_law 328 = .ok (.iload 6, 2) := by decide +kernel
theorem dL_law_330 : decode cL_law 330 = .ok (.i2l, 1) := by decide +kernel
theorem dL_law_331 : decode cL_law 331 = .ok (.lcmp, 1) := by decide +kernel
theorem dL_law_332 : decode cL_law 332 = .ok (.ifCond .eq 5, 3) := by decide +kernel
theorem dL_law_335 : decode cL_law 335 = .ok (.iconst 0, 1) := by decide +kernel
theorem dL_law_336 : decode cL_law 336 = .ok (.ireturn, 1) := by decide +kernel
theorem dL_law_337 : decode cL_law 337 = .ok (.goto 294, 3) := by decide +kernel
theorem dL_law_340 : decode cL_law 340 = .ok (.aload_n 1, 1) := by decide +kernel
theorem dL_law_341 : decode cL_law 341 = .ok (.aload_n 0, 1) := by decide +kernel
theorem dL_law_342 : decode cL_law 342 = .ok (.iload 4, 2) := by decide +kernel
theorem dL_law_344 : decode cL_law 344 = .ok (.iconst 1, 1) := by decide +kernel
theorem dL_law_345 : decode cL_law 345 = .ok (.iadd, 1) := by decide +kernel
theorem dL_law_346 : decode cL_law 346 = .ok (.iaload, 1) := by decide +kernel
theorem dL_law_347 : decode cL_law 347 = .ok (.aload_n 0, 1) := by decide +kernel
theorem dL_law_348 : decode cL_law 348 = .ok (.iload 4, 2) := by decide +kernel
theorem dL_law_350 : decode cL_law 350 = .ok (.iconst 2, 1) := by decide +kernel
theorem dL_law_351 : decode cL_law 351 = .ok (.iadd, 1) := by decide +kernel
theorem dL_law_352 : decode cL_law 352 = .ok (.iaload, 1) := by decide +kernel
theorem dL_law_353 : decode cL_law 353 = .ok (.invokestatic 67, 3) := by decide +kernel
theorem dL_law_356 : decode cL_law 356 = .ok (.istore 5, 2) := by decide +kernel
theorem dL_law_358 : decode cL_law 358 = .ok (.aload_n 2, 1) := by decide +kernel
theorem dL_law_359 : decode cL_law 359 = .ok (.aload_n 0, 1) := by decide +kernel
theorem dL_law_360 : decode cL_law 360 = .ok (.iload 4, 2) := by decide +kernel
theorem dL_law_362 : decode cL_law 362 = .ok (.iconst 1, 1) := by decide +kernel
theorem dL_law_363 : decode cL_law 363 = .ok (.iadd, 1) := by decide +kernel
theorem dL_law_364 : decode cL_law 364 = .ok (.iaload, 1) := by decide +kernel
theorem dL_law_365 : decode cL_law 365 = .ok (.aload_n 0, 1) := by decide +kernel
theorem dL_law_366 : decode cL_law 366 = .ok (.iload 4, 2) := by decide +kernel
theorem dL_law_368 : decode cL_law 368 = .ok (.iconst 2, 1) := by decide +kernel
theorem dL_law_369 : decode cL_law 369 = .ok (.iadd, 1) := by decide +kernel
theorem dL_law_370 : decode cL_law 370 = .ok (.iaload, 1) := by decide +kernel
theorem dL_law_371 : decode cL_law 371 = .ok (.invokevirtual 69, 3) := by decide +kernel
theorem dL_law_374 : decode cL_law 374 = .ok (.aload_n 2, 1) := by decide +kernel
theorem dL_law_375 : decode cL_law 375 = .ok (.invokevirtual 56, 3) := by decide +kernel
theorem dL_law_378 : decode cL_law 378 = .ok (.iload 5, 2) := by decide +kernel
theorem dL_law_380 : decode cL_law 380 = .ok (.if_icmp .eq 5, 3) := by decide +kernel
theorem dL_law_383 : decode cL_law 383 = .ok (.iconst 0, 1) := by decide +kernel
theorem dL_law_384 : decode cL_law 384 = .ok (.ireturn, 1) := by decide +kernel
theorem dL_law_385 : decode cL_law 385 = .ok (.goto 246, 3) := by decide +kernel
theorem dL_law_388 : decode cL_law 388 = .ok (.aload_n 1, 1) := by decide +kernel
theorem dL_law_389 : decode cL_law 389 = .ok (.aload_n 0, 1) := by decide +kernel
theorem dL_law_390 : decode cL_law 390 = .ok (.iload 4, 2) := by decide +kernel
theorem dL_law_392 : decode cL_law 392 = .ok (.iconst 1, 1) := by decide +kernel
theorem dL_law_393 : decode cL_law 393 = .ok (.iadd, 1) := by decide +kernel
theorem dL_law_394 : decode cL_law 394 = .ok (.iaload, 1) := by decide +kernel
theorem dL_law_395 : decode cL_law 395 = .ok (.aload_n 3, 1) := by decide +kernel
theorem dL_law_396 : decode cL_law 396 = .ok (.invokestatic 70, 3) := by decide +kernel
theorem dL_law_399 : decode cL_law 399 = .ok (.istore 5, 2) := by decide +kernel
theorem dL_law_401 : decode cL_law 401 = .ok (.aload_n 2, 1) := by decide +kernel
theorem dL_law_402 : decode cL_law 402 = .ok (.aload_n 0, 1) := by decide +kernel
theorem dL_law_403 : decode cL_law 403 = .ok (.iload 4, 2) := by decide +kernel
theorem dL_law_405 : decode cL_law 405 = .ok (.iconst 1, 1) := by decide +kernel
theorem dL_law_406 : decode cL_law 406 = .ok (.iadd, 1) := by decide +kernel
theorem dL_law_407 : decode cL_law 407 = .ok (.iaload, 1) := by decide +kernel
theorem dL_law_408 : decode cL_law 408 = .ok (.invokevirtual 72, 3) := by decide +kernel
theorem dL_law_411 : decode cL_law 411 = .ok (.istore 6, 2) := by decide +kernel
theorem dL_law_413 : decode cL_law 413 = .ok (.aload_n 2, 1) := by decide +kernel
theorem dL_law_414 : decode cL_law 414 = .ok (.invokevirtual 56, 3) := by decide +kernel
theorem dL_law_417 : decode cL_law 417 = .ok (.iload 5, 2) := by decide +kernel
theorem dL_law_419 : decode cL_law 419 = .ok (.if_icmp .eq 5, 3) := by decide +kernel
theorem dL_law_422 : decode cL_law 422 = .ok (.iconst 0, 1) := by decide +kernel
theorem dL_law_423 : decode cL_law 423 = .ok (.ireturn, 1) := by decide +kernel
theorem dL_law_424 : decode cL_law 424 = .ok (.iload 5, 2) := by decide +kernel
theorem dL_law_426 : decode cL_law 426 = .ok (.ifCond .ne 15, 3) := by decide +kernel
theorem dL_law_429 : decode cL_law 429 = .ok (.aload_n 3, 1) := by decide +kernel
theorem dL_law_430 : decode cL_law 430 = .ok (.iconst 0, 1) := by decide +kernel
theorem dL_law_431 : decode cL_law 431 = .ok (.laload, 1) := by decide +kernel
theorem dL_law_432 : decode cL_law 432 = .ok (.iload 6, 2) := by decide +kernel
theorem dL_law_434 : decode cL_law 434 = .ok (.i2l, 1) := by decide +kernel
theorem dL_law_435 : decode cL_law 435 = .ok (.lcmp, 1) := by decide +kernel
theorem dL_law_436 : decode cL_law 436 = .ok (.ifCond .eq 5, 3) := by decide +kernel
theorem dL_law_439 : decode cL_law 439 = .ok (.iconst 0, 1) := by decide +kernel
theorem dL_law_440 : decode cL_law 440 = .ok (.ireturn, 1) := by decide +kernel
theorem dL_law_441 : decode cL_law 441 = .ok (.goto 190, 3) := by decide +kernel
theorem dL_law_444 : decode cL_law 444 = .ok (.aload_n 1, 1) := by decide +kernel
theorem dL_law_445 : decode cL_law 445 = .ok (.aload_n 0, 1) := by decide +kernel
theorem dL_law_446 : decode cL_law 446 = .ok (.iload 4, 2) := by decide +kernel
theorem dL_law_448 : decode cL_law 448 = .ok (.iconst 1, 1) := by decide +kernel
theorem dL_law_449 : decode cL_law 449 = .ok (.iadd, 1) := by decide +kernel
theorem dL_law_450 : decode cL_law 450 = .ok (.iaload, 1) := by decide +kernel
theorem dL_law_451 : decode cL_law 451 = .ok (.aload_n 0, 1) := by decide +kernel
theorem dL_law_452 : decode cL_law 452 = .ok (.iload 4, 2) := by decide +kernel
theorem dL_law_454 : decode cL_law 454 = .ok (.iconst 2, 1) := by decide +kernel
theorem dL_law_455 : decode cL_law 455 = .ok (.iadd, 1) := by decide +kernel
theorem dL_law_456 : decode cL_law 456 = .ok (.iaload, 1) := by decide +kernel
theorem dL_law_457 : decode cL_law 457 = .ok (.invokestatic 73, 3) := by decide +kernel
theorem dL_law_460 : decode cL_law 460 = .ok (.istore 5, 2) := by decide +kernel
theorem dL_law_462 : decode cL_law 462 = .ok (.aload_n 2, 1) := by decide +kernel
theorem dL_law_463 : decode cL_law 463 = .ok (.aload_n 0, 1) := by decide +kernel
theorem dL_law_464 : decode cL_law 464 = .ok (.iload 4, 2) := by decide +kernel
theorem dL_law_466 : decode cL_law 466 = .ok (.iconst 1, 1) := by decide +kernel
theorem dL_law_467 : decode cL_law 467 = .ok (.iadd, 1) := by decide +kernel
theorem dL_law_468 : decode cL_law 468 = .ok (.iaload, 1) := by decide +kernel
theorem dL_law_469 : decode cL_law 469 = .ok (.aload_n 0, 1) := by decide +kernel
theorem dL_law_470 : decode cL_law 470 = .ok (.iload 4, 2) := by decide +kernel
theorem dL_law_472 : decode cL_law 472 = .ok (.iconst 2, 1) := by decide +kernel
theorem dL_law_473 : decode cL_law 473 = .ok (.iadd, 1) := by decide +kernel
theorem dL_law_474 : decode cL_law 474 = .ok (.iaload, 1) := by decide +kernel
theorem dL_law_475 : decode cL_law 475 = .ok (.invokevirtual 75, 3) := by decide +kernel
theorem dL_law_478 : decode cL_law 478 = .ok (.aload_n 2, 1) := by decide +kernel
theorem dL_law_479 : decode cL_law 479 = .ok (.invokevirtual 56, 3) := by decide +kernel
theorem dL_law_482 : decode cL_law 482 = .ok (.iload 5, 2) := by decide +kernel
theorem dL_law_484 : decode cL_law 484 = .ok (.if_icmp .eq 5, 3) := by decide +kernel
theorem dL_law_487 : decode cL_law 487 = .ok (.iconst 0, 1) := by decide +kernel
theorem dL_law_488 : decode cL_law 488 = .ok (.ireturn, 1) := by decide +kernel
theorem dL_law_489 : decode cL_law 489 = .ok (.goto 142, 3) := by decide +kernel
theorem dL_law_492 : decode cL_law 492 = .ok (.aload_n 1, 1) := by decide +kernel
theorem dL_law_493 : decode cL_law 493 = .ok (.aload_n 0, 1) := by decide +kernel
theorem dL_law_494 : decode cL_law 494 = .ok (.iload 4, 2) := by decide +kernel
theorem dL_law_496 : decode cL_law 496 = .ok (.iconst 1, 1) := by decide +kernel
theorem dL_law_497 : decode cL_law 497 = .ok (.iadd, 1) := by decide +kernel
theorem dL_law_498 : decode cL_law 498 = .ok (.iaload, 1) := by decide +kernel
theorem dL_law_499 : decode cL_law 499 = .ok (.aload_n 0, 1) := by decide +kernel
theorem dL_law_500 : decode cL_law 500 = .ok (.iload 4, 2) := by decide +kernel
theorem dL_law_502 : decode cL_law 502 = .ok (.iconst 2, 1) := by decide +kernel
theorem dL_law_503 : decode cL_law 503 = .ok (.iadd, 1) := by decide +kernel
theorem dL_law_504 : decode cL_law 504 = .ok (.iaload, 1) := by decide +kernel
theorem dL_law_505 : decode cL_law 505 = .ok (.ifCond .eq 7, 3) := by decide +kernel
theorem dL_law_508 : decode cL_law 508 = .ok (.iconst 1, 1) := by decide +kernel
theorem dL_law_509 : decode cL_law 509 = .ok (.goto 4, 3) := by decide +kernel
theorem dL_law_512 : decode cL_law 512 = .ok (.iconst 0, 1) := by decide +kernel
theorem dL_law_513 : decode cL_law 513 = .ok (.invokestatic 76, 3) := by decide +kernel
theorem dL_law_516 : decode cL_law 516 = .ok (.istore 5, 2) := by decide +kernel
theorem dL_law_518 : decode cL_law 518 = .ok (.aload_n 2, 1) := by decide +kernel
theorem dL_law_519 : decode cL_law 519 = .ok (.aload_n 0, 1) := by decide +kernel
theorem dL_law_520 : decode cL_law 520 = .ok (.iload 4, 2) := by decide +kernel
theorem dL_law_522 : decode cL_law 522 = .ok (.iconst 1, 1) := by decide +kernel
theorem dL_law_523 : decode cL_law 523 = .ok (.iadd, 1) := by decide +kernel
theorem dL_law_524 : decode cL_law 524 = .ok (.iaload, 1) := by decide +kernel
theorem dL_law_525 : decode cL_law 525 = .ok (.aload_n 0, 1) := by decide +kernel
theorem dL_law_526 : decode cL_law 526 = .ok (.iload 4, 2) := by decide +kernel
theorem dL_law_528 : decode cL_law 528 = .ok (.iconst 2, 1) := by decide +kernel
theorem dL_law_529 : decode cL_law 529 = .ok (.iadd, 1) := by decide +kernel
theorem dL_law_530 : decode cL_law 530 = .ok (.iaload, 1) := by decide +kernel
theorem dL_law_531 : decode cL_law 531 = .ok (.ifCond .eq 7, 3) := by decide +kernel
theorem dL_law_534 : decode cL_law 534 = .ok (.iconst 1, 1) := by decide +kernel
theorem dL_law_535 : decode cL_law 535 = .ok (.goto 4, 3) := by decide +kernel
theorem dL_law_538 : decode cL_law 538 = .ok (.iconst 0, 1) := by decide +kernel
theorem dL_law_539 : decode cL_law 539 = .ok (.invokevirtual 79, 3) := by decide +kernel
theorem dL_law_542 : decode cL_law 542 = .ok (.aload_n 2, 1) := by decide +kernel
theorem dL_law_543 : decode cL_law 543 = .ok (.invokevirtual 56, 3) := by decide +kernel
theorem dL_law_546 : decode cL_law 546 = .ok (.iload 5, 2) := by decide +kernel
theorem dL_law_548 : decode cL_law 548 = .ok (.if_icmp .eq 5, 3) := by decide +kernel
theorem dL_law_551 : decode cL_law 551 = .ok (.iconst 0, 1) := by decide +kernel
theorem dL_law_552 : decode cL_law 552 = .ok (.ireturn, 1) := by decide +kernel
theorem dL_law_553 : decode cL_law 553 = .ok (.goto 78, 3) := by decide +kernel
theorem dL_law_556 : decode cL_law 556 = .ok (.aload_n 1, 1) := by decide +kernel
theorem dL_law_557 : decode cL_law 557 = .ok (.aload_n 0, 1) := by decide +kernel
theorem dL_law_558 : decode cL_law 558 = .ok (.iload 4, 2) := by decide +kernel
theorem dL_law_560 : decode cL_law 560 = .ok (.iconst 1, 1) := by decide +kernel
theorem dL_law_561 : decode cL_law 561 = .ok (.iadd, 1) := by decide +kernel
theorem dL_law_562 : decode cL_law 562 = .ok (.iaload, 1) := by decide +kernel
theorem dL_law_563 : decode cL_law 563 = .ok (.invokevirtual 80, 3) := by decide +kernel
theorem dL_law_566 : decode cL_law 566 = .ok (.aload_n 2, 1) := by decide +kernel
theorem dL_law_567 : decode cL_law 567 = .ok (.aload_n 0, 1) := by decide +kernel
theorem dL_law_568 : decode cL_law 568 = .ok (.iload 4, 2) := by decide +kernel
theorem dL_law_570 : decode cL_law 570 = .ok (.iconst 1, 1) := by decide +kernel
theorem dL_law_571 : decode cL_law 571 = .ok (.iadd, 1) := by decide +kernel
theorem dL_law_572 : decode cL_law 572 = .ok (.iaload, 1) := by decide +kernel
theorem dL_law_573 : decode cL_law 573 = .ok (.invokevirtual 83, 3) := by decide +kernel
theorem dL_law_576 : decode cL_law 576 = .ok (.if_icmp .eq 55, 3) := by decide +kernel
theorem dL_law_579 : decode cL_law 579 = .ok (.iconst 0, 1) := by decide +kernel
theorem dL_law_580 : decode cL_law 580 = .ok (.ireturn, 1) := by decide +kernel
theorem dL_law_581 : decode cL_law 581 = .ok (.aload_n 1, 1) := by decide +kernel
theorem dL_law_582 : decode cL_law 582 = .ok (.aload_n 0, 1) := by decide +kernel
theorem dL_law_583 : decode cL_law 583 = .ok (.iload 4, 2) := by decide +kernel
theorem dL_law_585 : decode cL_law 585 = .ok (.iconst 1, 1) := by decide +kernel
theorem dL_law_586 : decode cL_law 586 = .ok (.iadd, 1) := by decide +kernel
theorem dL_law_587 : decode cL_law 587 = .ok (.iaload, 1) := by decide +kernel
theorem dL_law_588 : decode cL_law 588 = .ok (.aload_n 0, 1) := by decide +kernel
theorem dL_law_589 : decode cL_law 589 = .ok (.iload 4, 2) := by decide +kernel
theorem dL_law_591 : decode cL_law 591 = .ok (.iconst 2, 1) := by decide +kernel
theorem dL_law_592 : decode cL_law 592 = .ok (.iadd, 1) := by decide +kernel
theorem dL_law_593 : decode cL_law 593 = .ok (.iaload, 1) := by decide +kernel
theorem dL_law_594 : decode cL_law 594 = .ok (.invokevirtual 84, 3) := by decide +kernel
theorem dL_law_597 : decode cL_law 597 = .ok (.aload_n 2, 1) := by decide +kernel
theorem dL_law_598 : decode cL_law 598 = .ok (.aload_n 0, 1) := by decide +kernel
theorem dL_law_599 : decode cL_law 599 = .ok (.iload 4, 2) := by decide +kernel
theorem dL_law_601 : decode cL_law 601 = .ok (.iconst 1, 1) := by decide +kernel
theorem dL_law_602 : decode cL_law 602 = .ok (.iadd, 1) := by decide +kernel
theorem dL_law_603 : decode cL_law 603 = .ok (.iaload, 1) := by decide +kernel
theorem dL_law_604 : decode cL_law 604 = .ok (.aload_n 0, 1) := by decide +kernel
theorem dL_law_605 : decode cL_law 605 = .ok (.iload 4, 2) := by decide +kernel
theorem dL_law_607 : decode cL_law 607 = .ok (.iconst 2, 1) := by decide +kernel
theorem dL_law_608 : decode cL_law 608 = .ok (.iadd, 1) := by decide +kernel
theorem dL_law_609 : decode cL_law 609 = .ok (.iaload, 1) := by decide +kernel
theorem dL_law_610 : decode cL_law 610 = .ok (.invokevirtual 88, 3) := by decide +kernel
theorem dL_law_613 : decode cL_law 613 = .ok (.if_icmp .eq 18, 3) := by decide +kernel
theorem dL_law_616 : decode cL_law 616 = .ok (.iconst 0, 1) := by decide +kernel
theorem dL_law_617 : decode cL_law 617 = .ok (.ireturn, 1) := by decide +kernel
theorem dL_law_618 : decode cL_law 618 = .ok (.aload_n 1, 1) := by decide +kernel
theorem dL_law_619 : decode cL_law 619 = .ok (.invokevirtual 89, 3) := by decide +kernel
theorem dL_law_622 : decode cL_law 622 = .ok (.aload_n 2, 1) := by decide +kernel
theorem dL_law_623 : decode cL_law 623 = .ok (.invokevirtual 92, 3) := by decide +kernel
theorem dL_law_626 : decode cL_law 626 = .ok (.if_icmp .eq 5, 3) := by decide +kernel
theorem dL_law_629 : decode cL_law 629 = .ok (.iconst 0, 1) := by decide +kernel
theorem dL_law_630 : decode cL_law 630 = .ok (.ireturn, 1) := by decide +kernel
theorem dL_law_631 : decode cL_law 631 = .ok (.iinc 4 3, 3) := by decide +kernel
theorem dL_law_634 : decode cL_law 634 = .ok (.goto (-611), 3) := by decide +kernel
theorem dL_law_637 : decode cL_law 637 = .ok (.iconst 1, 1) := by decide +kernel
theorem dL_law_638 : decode cL_law 638 = .ok (.ireturn, 1) := by decide +kernel
