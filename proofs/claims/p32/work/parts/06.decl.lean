theorem dL_cell_0 : decode cL_cell 0 = .ok (.iload_n 1, 1) := by decide +kernel
theorem dL_cell_1 : decode cL_cell 1 = .ok (.aload_n 0, 1) := by decide +kernel
theorem dL_cell_2 : decode cL_cell 2 = .ok (.arraylength, 1) := by decide +kernel
theorem dL_cell_3 : decode cL_cell 3 = .ok (.if_icmp .ge 9, 3) := by decide +kernel
theorem dL_cell_6 : decode cL_cell 6 = .ok (.aload_n 0, 1) := by decide +kernel
theorem dL_cell_7 : decode cL_cell 7 = .ok (.iload_n 1, 1) := by decide +kernel
theorem dL_cell_8 : decode cL_cell 8 = .ok (.iaload, 1) := by decide +kernel
theorem dL_cell_9 : decode cL_cell 9 = .ok (.goto 11, 3) := by decide +kernel
theorem dL_cell_12 : decode cL_cell 12 = .ok (.ldc 7, 2) := by decide +kernel
theorem dL_cell_14 : decode cL_cell 14 = .ok (.iload_n 1, 1) := by decide +kernel
theorem dL_cell_15 : decode cL_cell 15 = .ok (.sipush 233, 3) := by decide +kernel
theorem dL_cell_18 : decode cL_cell 18 = .ok (.iadd, 1) := by decide +kernel
theorem dL_cell_19 : decode cL_cell 19 = .ok (.imul, 1) := by decide +kernel
theorem dL_cell_20 : decode cL_cell 20 = .ok (.ireturn, 1) := by decide +kernel
theorem dL_up_0 : decode cL_up 0 = .ok (.iload_n 0, 1) := by decide +kernel
theorem dL_up_1 : decode cL_up 1 = .ok (.ldc 8, 2) := by decide +kernel
theorem dL_up_3 : decode cL_up 3 = .ok (.iand, 1) := by decide +kernel
theorem dL_up_4 : decode cL_up 4 = .ok (.iload_n 1, 1) := by decide +kernel
theorem dL_up_5 : decode cL_up 5 = .ok (.irem, 1) := by decide +kernel
theorem dL_up_6 : decode cL_up 6 = .ok (.ireturn, 1) := by decide +kernel
theorem dL_looks_0 : decode cL_looks 0 = .ok (.ldc2_w 9, 3) := by decide +kernel
theorem dL_looks_3 : decode cL_looks 3 = .ok (.lstore_n 1, 1) := by decide +kernel
theorem dL_looks_4 : decode cL_looks 4 = .ok (.iconst 0, 1) := by decide +kernel
theorem dL_looks_5 : decode cL_looks 5 = .ok (.istore_n 3, 1) := by decide +kernel
theorem dL_looks_6 : decode cL_looks 6 = .ok (.iload_n 3, 1) := by decide +kernel
theorem dL_looks_7 : decode cL_looks 7 = .ok (.bipush 7, 2) := by decide +kernel
theorem dL_looks_9 : decode cL_looks 9 = .ok (.if_icmp .ge 22, 3) := by decide +kernel
theorem dL_looks_12 : decode cL_looks 12 = .ok (.ldc2_w 11, 3) := by decide +kernel
theorem dL_looks_15 : decode cL_looks 15 = .ok (.lload_n 1, 1) := by decide +kernel
theorem dL_looks_16 : decode cL_looks 16 = .ok (.lmul, 1) := by decide +kernel
theorem dL_looks_17 : decode cL_looks 17 = .ok (.aload_n 0, 1) := by decide +kernel
theorem dL_looks_18 : decode cL_looks 18 = .ok (.iload_n 3, 1) := by decide +kernel
theorem dL_looks_19 : decode cL_looks 19 = .ok (.invokevirtual 13, 3) := by decide +kernel
theorem dL_looks_22 : decode cL_looks 22 = .ok (.i2l, 1) := by decide +kernel
theorem dL_looks_23 : decode cL_looks 23 = .ok (.ladd, 1) := by decide +kernel
theorem dL_looks_24 : decode cL_looks 24 = .ok (.lstore_n 1, 1) := by decide +kernel
theorem dL_looks_25 : decode cL_looks 25 = .ok (.iinc 3 1, 3) := by decide +kernel
theorem dL_looks_28 : decode cL_looks 28 = .ok (.goto (-22), 3) := by decide +kernel
theorem dL_looks_31 : decode cL_looks 31 = .ok (.iconst 0, 1) := by decide +kernel
theorem dL_looks_32 : decode cL_looks 32 = .ok (.istore_n 3, 1) := by decide +kernel
theorem dL_looks_33 : decode cL_looks 33 = .ok (.iload_n 3, 1) := by decide +kernel
theorem dL_looks_34 : decode cL_looks 34 = .ok (.bipush 112, 2) := by decide +kernel
theorem dL_looks_36 : decode cL_looks 36 = .ok (.if_icmp .ge 29, 3) := by decide +kernel
theorem dL_looks_39 : decode cL_looks 39 = .ok (.ldc2_w 11, 3) := by decide +kernel
theorem dL_looks_42 : decode cL_looks 42 = .ok (.lload_n 1, 1) := by decide +kernel
theorem dL_looks_43 : decode cL_looks 43 = .ok (.lmul, 1) := by decide +kernel
theorem dL_looks_44 : decode cL_looks 44 = .ok (.aload_n 0, 1) := by decide +kernel
theorem dL_looks_45 : decode cL_looks 45 = .ok (.iload_n 3, 1) := by decide +kernel
theorem dL_looks_46 : decode cL_looks 46 = .ok (.bipush 7, 2) := by decide +kernel
theorem dL_looks_48 : decode cL_looks 48 = .ok (.idiv, 1) := by decide +kernel
theorem dL_looks_49 : decode cL_looks 49 = .ok (.iload_n 3, 1) := by decide +kernel
theorem dL_looks_50 : decode cL_looks 50 = .ok (.bipush 7, 2) := by decide +kernel
theorem dL_looks_52 : decode cL_looks 52 = .ok (.irem, 1) := by decide +kernel
theorem dL_looks_53 : decode cL_looks 53 = .ok (.invokevirtual 19, 3) := by decide +kernel
theorem dL_looks_56 : decode cL_looks 56 = .ok (.i2l, 1) := by decide +kernel
theorem dL_looks_57 : decode cL_looks 57 = .ok (.ladd, 1) := by decide +kernel
theorem dL_looks_58 : decode cL_looks 58 = .ok (.lstore_n 1, 1) := by decide +kernel
theorem dL_looks_59 : decode cL_looks 59 = .ok (.iinc 3 1, 3) := by decide +kernel
theorem dL_looks_62 : decode cL_looks 62 = .ok (.goto (-29), 3) := by decide +kernel
theorem dL_looks_65 : decode cL_looks 65 = .ok (.iconst 0, 1) := by decide +kernel
theorem dL_looks_66 : decode cL_looks 66 = .ok (.istore_n 3, 1) := by decide +kernel
theorem dL_looks_67 : decode cL_looks 67 = .ok (.iload_n 3, 1) := by decide +kernel
theorem dL_looks_68 : decode cL_looks 68 = .ok (.aload_n 0, 1) := by decide +kernel
theorem dL_looks_69 : decode cL_looks 69 = .ok (.iconst 1, 1) := by decide +kernel
theorem dL_looks_70 : decode cL_looks 70 = .ok (.invokevirtual 13, 3) := by decide +kernel
theorem dL_looks_73 : decode cL_looks 73 = .ok (.if_icmp .ge 92, 3) := by decide +kernel
theorem dL_looks_76 : decode cL_looks 76 = .ok (.ldc2_w 11, 3) := by decide +kernel
theorem dL_looks_79 : decode cL_looks 79 = .ok (.lload_n 1, 1) := by decide +kernel
theorem dL_looks_80 : decode cL_looks 80 = .ok (.lmul, 1) := by decide +kernel
theorem dL_looks_81 : decode cL_looks 81 = .ok (.aload_n 0, 1) := by decide +kernel
theorem dL_looks_82 : decode cL_looks 82 = .ok (.iload_n 3, 1) := by decide +kernel
theorem dL_looks_83 : decode cL_looks 83 = .ok (.iconst 0, 1) := by decide +kernel
theorem dL_looks_84 : decode cL_looks 84 = .ok (.invokevirtual 23, 3) := by decide +kernel
theorem dL_looks_87 : decode cL_looks 87 = .ok (.i2l, 1) := by decide +kernel
theorem dL_looks_88 : decode cL_looks 88 = .ok (.ladd, 1) := by decide +kernel
theorem dL_looks_89 : decode cL_looks 89 = .ok (.lstore_n 1, 1) := by decide +kernel
theorem dL_looks_90 : decode cL_looks 90 = .ok (.iconst 0, 1) := by decide +kernel
theorem dL_looks_91 : decode cL_looks 91 = .ok (.istore 4, 2) := by decide +kernel
theorem dL_looks_93 : decode cL_looks 93 = .ok (.iload 4, 2) := by decide +kernel
theorem dL_looks_95 : decode cL_looks 95 = .ok (.bipush 96, 2) := by decide +kernel
theorem dL_looks_97 : decode cL_looks 97 = .ok (.if_icmp .ge 62, 3) := by decide +kernel
theorem dL_looks_100 : decode cL_looks 100 = .ok (.ldc2_w 11, 3) := by decide +kernel
theorem dL_looks_103 : decode cL_looks 103 = .ok (.lload_n 1, 1) := by decide +kernel
theorem dL_looks_104 : decode cL_looks 104 = .ok (.lmul, 1) := by decide +kernel
theorem dL_looks_105 : decode cL_looks 105 = .ok (.aload_n 0, 1) := by decide +kernel
theorem dL_looks_106 : decode cL_looks 106 = .ok (.iload_n 3, 1) := by decide +kernel
theorem dL_looks_107 : decode cL_looks 107 = .ok (.iload 4, 2) := by decide +kernel
theorem dL_looks_109 : decode cL_looks 109 = .ok (.bipush 6, 2) := by decide +kernel
theorem dL_looks_111 : decode cL_looks 111 = .ok (.idiv, 1) := by decide +kernel
theorem dL_looks_112 : decode cL_looks 112 = .ok (.iload 4, 2) := by decide +kernel
theorem dL_looks_114 : decode cL_looks 114 = .ok (.iconst 3, 1) := by decide +kernel
theorem dL_looks_115 : decode cL_looks 115 = .ok (.idiv, 1) := by decide +kernel
theorem dL_looks_116 : decode cL_looks 116 = .ok (.iconst 2, 1) := by decide +kernel
theorem dL_looks_117 : decode cL_looks 117 = .ok (.irem, 1) := by decide +kernel
theorem dL_looks_118 : decode cL_looks 118 = .ok (.iconst 2, 1) := by decide +kernel
theorem dL_looks_119 : decode cL_looks 119 = .ok (.iload 4, 2) := by decide +kernel
theorem dL_looks_121 : decode cL_looks 121 = .ok (.iconst 3, 1) := by decide +kernel
theorem dL_looks_122 : decode cL_looks 122 = .ok (.irem, 1) := by decide +kernel
theorem dL_looks_123 : decode cL_looks 123 = .ok (.imul, 1) := by decide +kernel
theorem dL_looks_124 : decode cL_looks 124 = .ok (.invokevirtual 26, 3) := by decide +kernel
theorem dL_looks_127 : decode cL_looks 127 = .ok (.i2l, 1) := by decide +kernel
theorem dL_looks_128 : decode cL_looks 128 = .ok (.ladd, 1) := by decide +kernel
theorem dL_looks_129 : decode cL_looks 129 = .ok (.ldc2_w 30, 3) := by decide +kernel
theorem dL_looks_132 : decode cL_looks 132 = .ok (.aload_n 0, 1) := by decide +kernel
theorem dL_looks_133 : decode cL_looks 133 = .ok (.iload_n 3, 1) := by decide +kernel
theorem dL_looks_134 : decode cL_looks 134 = .ok (.iload 4, 2) := by decide +kernel
theorem dL_looks_136 : decode cL_looks 136 = .ok (.bipush 6, 2) := by decide +kernel
theorem dL_looks_138 : decode cL_looks 138 = .ok (.idiv, 1) := by decide +kernel
theorem dL_looks_139 : decode cL_looks 139 = .ok (.iload 4, 2) := by decide +kernel
theorem dL_looks_141 : decode cL_looks 141 = .ok (.iconst 3, 1) := by decide +kernel
theorem dL_looks_142 : decode cL_looks 142 = .ok (.idiv, 1) := by decide +kernel
theorem dL_looks_143 : decode cL_looks 143 = .ok (.iconst 2, 1) := by decide +kernel
theorem dL_looks_144 : decode cL_looks 144 = .ok (.irem, 1) := by decide +kernel
theorem dL_looks_145 : decode cL_looks 145 = .ok (.iconst 0, 1) := by decide +kernel
theorem dL_looks_146 : decode cL_looks 146 = .ok (.invokevirtual 26, 3) := by decide +kernel
theorem dL_looks_149 : decode cL_looks 149 = .ok (.i2l, 1) := by decide +kernel
theorem dL_looks_150 : decode cL_looks 150 = .ok (.lmul, 1) := by decide +kernel
theorem dL_looks_151 : decode cL_looks 151 = .ok (.ladd, 1) := by decide +kernel
theorem dL_looks_152 : decode cL_looks 152 = .ok (.lstore_n 1, 1) := by decide +kernel
theorem dL_looks_153 : decode cL_looks 153 = .ok (.iinc 4 1, 3) := by decide +kernel
theorem dL_looks_156 : decode cL_looks 156 = .ok (.goto (-63), 3) := by decide +kernel
theorem dL_looks_159 : decode cL_looks 159 = .ok (.iinc 3 1, 3) := by decide +kernel
theorem dL_looks_162 : decode cL_looks 162 = .ok (.goto (-95), 3) := by decide +kernel
theorem dL_looks_165 : decode cL_looks 165 = .ok (.ldc2_w 11, 3) := by decide +kernel
theorem dL_looks_168 : decode cL_looks 168 = .ok (.ldc2_w 11, 3) := by decide +kernel
theorem dL_looks_171 : decode cL_looks 171 = .ok (.ldc2_w 11, 3) := by decide +kernel
theorem dL_looks_174 : decode cL_looks 174 = .ok (.lload_n 1, 1) := by decide +kernel
theorem dL_looks_175 : decode cL_looks 175 = .ok (.lmul, 1) := by decide +kernel
theorem dL_looks_176 : decode cL_looks 176 = .ok (.aload_n 0, 1) := by decide +kernel
theorem dL_looks_177 : decode cL_looks 177 = .ok (.iconst 0, 1) := by decide +kernel
theorem dL_looks_178 : decode cL_looks 178 = .ok (.invokevirtual 32, 3) := by decide +kernel
theorem dL_looks_181 : decode cL_looks 181 = .ok (.i2l, 1) := by decide +kernel
theorem dL_looks_182 : decode cL_looks 182 = .ok (.ladd, 1) := by decide +kernel
theorem dL_looks_183 : decode cL_looks 183 = .ok (.lmul, 1) := by decide +kernel
theorem dL_looks_184 : decode cL_looks 184 = .ok (.aload_n 0, 1) := by decide +kernel
theorem dL_looks_185 : decode cL_looks 185 = .ok (.iconst 1, 1) := by decide +kernel
theorem dL_looks_186 : decode cL_looks 186 = .ok (.invokevirtual 32, 3) := by decide +kernel
theorem dL_looks_189 : decode cL_looks 189 = .ok (.i2l, 1) := by decide +kernel
theorem dL_looks_190 : decode cL_looks 190 = .ok (.ladd, 1) := by decide +kernel
theorem dL_looks_191 : decode cL_looks 191 = .ok (.lmul, 1) := by decide +kernel
theorem dL_looks_192 : decode cL_looks 192 = .ok (.aload_n 0, 1) := by decide +kernel
theorem dL_looks_193 : decode cL_looks 193 = .ok (.iconst 2, 1) := by decide +kernel
theorem dL_looks_194 : decode cL_looks 194 = .ok (.invokevirtual 32, 3) := by decide +kernel
theorem dL_looks_197 : decode cL_looks 197 = .ok (.i2l, 1) := by decide +kernel
theorem dL_looks_198 : decode cL_looks 198 = .ok (.ladd, 1) := by decide +kernel
theorem dL_looks_199 : decode cL_looks 199 = .ok (.lreturn, 1) := by decide +kernel
theorem dL_act_0 : decode cL_act 0 = .ok (.iload_n 2, 1) := by decide +kernel
theorem dL_act_1 : decode cL_act 1 = .ok (.bipush 16, 2) := by decide +kernel
theorem dL_act_3 : decode cL_act 3 = .ok (.invokestatic 35, 3) := by decide +kernel
theorem dL_act_6 : decode cL_act 6 = .ok (.istore_n 3, 1) := by decide +kernel
theorem dL_act_7 : decode cL_act 7 = .ok (.iload_n 2, 1) := by decide +kernel
theorem dL_act_8 : decode cL_act 8 = .ok (.iconst 4, 1) := by decide +kernel
theorem dL_act_9 : decode cL_act 9 = .ok (.ishr, 1) := by decide +kernel
theorem dL_act_10 : decode cL_act 10 = .ok (.iconst 1, 1) := by decide +kernel
theorem dL_act_11 : decode cL_act 11 = .ok (.iand, 1) := by decide +kernel
theorem dL_act_12 : decode cL_act 12 = .ok (.istore 4, 2) := by decide +kernel
theorem dL_act_14 : decode cL_act 14 = .ok (.iload_n 2, 1) := by decide +kernel
theorem dL_act_15 : decode cL_act 15 = .ok (.iconst 5, 1) := by decide +kernel
theorem dL_act_16 : decode cL_act 16 = .ok (.ishr, 1) := by decide +kernel
theorem dL_act_17 : decode cL_act 17 = .ok (.sipush 199, 3) := by decide +kernel
theorem dL_act_20 : decode cL_act 20 = .ok (.invokestatic 35, 3) := by decide +kernel
theorem dL_act_23 : decode cL_act 23 = .ok (.bipush 99, 2) := by decide +kernel
theorem dL_act_25 : decode cL_act 25 = .ok (.isub, 1) := by decide +kernel
theorem dL_act_26 : decode cL_act 26 = .ok (.istore 5, 2) := by decide +kernel
theorem dL_act_28 : decode cL_act 28 = .ok (.iload_n 1, 1) := by decide +kernel
theorem dL_act_29 : decode cL_act 29 = .ok (.bipush 16, 2) := by decide +kernel
theorem dL_act_31 : decode cL_act 31 = .ok (.invokestatic 35, 3) := by decide +kernel
theorem dL_act_34 : decode cL_act 34 = .ok (.tableswitch 264 0 13 #[70, 70, 70, 84, 84, 98, 111, 133, 159, 174, 187, 187, 209, 243], 70) := by decide +kernel
theorem dL_act_104 : decode cL_act 104 = .ok (.sipush 200, 3) := by decide +kernel
theorem dL_act_107 : decode cL_act 107 = .ok (.aload_n 0, 1) := by decide +kernel
theorem dL_act_108 : decode cL_act 108 = .ok (.iload_n 3, 1) := by decide +kernel
theorem dL_act_109 : decode cL_act 109 = .ok (.iload 4, 2) := by decide +kernel
theorem dL_act_111 : decode cL_act 111 = .ok (.iload 5, 2) := by decide +kernel
theorem dL_act_113 : decode cL_act 113 = .ok (.invokevirtual 40, 3) := by decide +kernel
theorem dL_act_116 : decode cL_act 116 = .ok (.iadd, 1) := by decide +kernel
theorem dL_act_117 : decode cL_act 117 = .ok (.ireturn, 1) := by decide +kernel
theorem dL_act_118 : decode cL_act 118 = .ok (.sipush 200, 3) := by decide +kernel
theorem dL_act_121 : decode cL_act 121 = .ok (.aload_n 0, 1) := by decide +kernel
theorem dL_act_122 : decode cL_act 122 = .ok (.iload_n 3, 1) := by decide +kernel
theorem dL_act_123 : decode cL_act 123 = .ok (.iload 4, 2) := by decide +kernel
theorem dL_act_125 : decode cL_act 125 = .ok (.iload 5, 2) := by decide +kernel
theorem dL_act_127 : decode cL_act 127 = .ok (.invokevirtual 44, 3) := by decide +kernel
theorem dL_act_130 : decode cL_act 130 = .ok (.iadd, 1) := by decide +kernel
theorem dL_act_131 : decode cL_act 131 = .ok (.ireturn, 1) := by decide +kernel
theorem dL_act_132 : decode cL_act 132 = .ok (.aload_n 0, 1) := by decide +kernel
theorem dL_act_133 : decode cL_act 133 = .ok (.iload_n 3, 1) := by decide +kernel
theorem dL_act_134 : decode cL_act 134 = .ok (.iload_n 2, 1) := by decide +kernel
theorem dL_act_135 : decode cL_act 135 = .ok (.iconst 5, 1) := by decide +kernel
theorem dL_act_136 : decode cL_act 136 = .ok (.ishr, 1) := by decide +kernel
theorem dL_act_137 : decode cL_act 137 = .ok (.iconst 4, 1) := by decide +kernel
theorem dL_act_138 : decode cL_act 138 = .ok (.invokestatic 35, 3) := by decide +kernel
theorem dL_act_141 : decode cL_act 141 = .ok (.invokevirtual 47, 3) := by decide +kernel
theorem dL_act_144 : decode cL_act 144 = .ok (.ireturn, 1) := by decide +kernel
theorem dL_act_145 : decode cL_act 145 = .ok (.sipush 200, 3) := by decide +kernel
theorem dL_act_148 : decode cL_act 148 = .ok (.aload_n 0, 1) := by decide +kernel
theorem dL_act_149 : decode cL_act 149 = .ok (.iload 4, 2) := by decide +kernel
theorem dL_act_151 : decode cL_act 151 = .ok (.iload_n 2, 1) := by decide +kernel
theorem dL_act_152 : decode cL_act 152 = .ok (.iconst 5, 1) := by decide +kernel
theorem dL_act_153 : decode cL_act 153 = .ok (.ishr, 1) := by decide +kernel
theorem dL_act_154 : decode cL_act 154 = .ok (.bipush 101, 2) := by decide +kernel
theorem dL_act_156 : decode cL_act 156 = .ok (.invokestatic 35, 3) := by decide +kernel
theorem dL_act_159 : decode cL_act 159 = .ok (.bipush 50, 2) := by decide +kernel
theorem dL_act_161 : decode cL_act 161 = .ok (.isub, 1) := by decide +kernel
theorem dL_act_162 : decode cL_act 162 = .ok (.invokevirtual 50, 3) := by decide +kernel
theorem dL_act_165 : decode cL_act 165 = .ok (.iadd, 1) := by decide +kernel
theorem dL_act_166 : decode cL_act 166 = .ok (.ireturn, 1) := by decide +kernel
theorem dL_act_167 : decode cL_act 167 = .ok (.aload_n 0, 1) := by decide +kernel
theorem dL_act_168 : decode cL_act 168 = .ok (.iconst 0, 1) := by decide +kernel
theorem dL_act_169 : decode cL_act 169 = .ok (.iload_n 2, 1) := by decide +kernel
theorem dL_act_170 : decode cL_act 170 = .ok (.iload_n 2, 1) := by decide +kernel
theorem dL_act_171 : decode cL_act 171 = .ok (.bipush 8, 2) := by decide +kernel
theorem dL_act_173 : decode cL_act 173 = .ok (.ishr, 1) := by decide +kernel
theorem dL_act_174 : decode cL_act 174 = .ok (.iconst 1, 1) := by decide +kernel
theorem dL_act_175 : decode cL_act 175 = .ok (.iand, 1) := by decide +kernel
theorem dL_act_176 : decode cL_act 176 = .ok (.ifCond .ne 8, 3) := by decide +kernel
theorem dL_act_179 : decode cL_act 179 = .ok (.bipush 100, 2) := by decide +kernel
theorem dL_act_181 : decode cL_act 181 = .ok (.goto 5, 3) := by decide +kernel
theorem dL_act_184 : decode cL_act 184 = .ok (.bipush 9, 2) := by decide +kernel
theorem dL_act_186 : decode cL_act 186 = .ok (.invokestatic 35, 3) := by decide +kernel
theorem dL_act_189 : decode cL_act 189 = .ok (.invokevirtual 53, 3) := by decide +kernel
theorem dL_act_192 : decode cL_act 192 = .ok (.ireturn, 1) := by decide +kernel
theorem dL_act_193 : decode cL_act 193 = .ok (.aload_n 0, 1) := by decide +kernel
theorem dL_act_194 : decode cL_act 194 = .ok (.iconst 1, 1) := by decide +kernel
theorem dL_act_195 : decode cL_act 195 = .ok (.iload_n 2, 1) := by decide +kernel
theorem dL_act_196 : decode cL_act 196 = .ok (.iconst 1, 1) := by decide +kernel
theorem dL_act_197 : decode cL_act 197 = .ok (.iand, 1) := by decide +kernel
theorem dL_act_198 : decode cL_act 198 = .ok (.iadd, 1) := by decide +kernel
theorem dL_act_199 : decode cL_act 199 = .ok (.iload_n 2, 1) := by decide +kernel
theorem dL_act_200 : decode cL_act 200 = .ok (.iconst 1, 1) := by decide +kernel
theorem dL_act_201 : decode cL_act 201 = .ok (.ishr, 1) := by decide +kernel
theorem dL_act_202 : decode cL_act 202 = .ok (.iconst 1, 1) := by decide +kernel
theorem dL_act_203 : decode cL_act 203 = .ok (.iand, 1) := by decide +kernel
theorem dL_act_204 : decode cL_act 204 = .ok (.invokevirtual 53, 3) := by decide +kernel
theorem dL_act_207 : decode cL_act 207 = .ok (.ireturn, 1) := by decide +kernel
theorem dL_act_208 : decode cL_act 208 = .ok (.aload_n 0, 1) := by decide +kernel
theorem dL_act_209 : decode cL_act 209 = .ok (.iconst 1, 1) := by decide +kernel
theorem dL_act_210 : decode cL_act 210 = .ok (.iload_n 2, 1) := by decide +kernel
theorem dL_act_211 : decode cL_act 211 = .ok (.bipush 30, 2) := by decide +kernel
theorem dL_act_213 : decode cL_act 213 = .ok (.invokestatic 35, 3) := by decide +kernel
theorem dL_act_216 : decode cL_act 216 = .ok (.iadd, 1) := by decide +kernel
theorem dL_act_217 : decode cL_act 217 = .ok (.invokevirtual 56, 3) := by decide +kernel
theorem dL_act_220 : decode cL_act 220 = .ok (.ireturn, 1) := by decide +kernel
theorem dL_act_221 : decode cL_act 221 = .ok (.aload_n 0, 1) := by decide +kernel
theorem dL_act_222 : decode cL_act 222 = .ok (.iconst 1, 1) := by decide +kernel
theorem dL_act_223 : decode cL_act 223 = .ok (.invokevirtual 13, 3) := by decide +kernel
theorem dL_act_226 : decode cL_act 226 = .ok (.bipush 6, 2) := by decide +kernel
theorem dL_act_228 : decode cL_act 228 = .ok (.if_icmp .ne 10, 3) := by decide +kernel
theorem dL_act_231 : decode cL_act 231 = .ok (.aload_n 0, 1) := by decide +kernel
theorem dL_act_232 : decode cL_act 232 = .ok (.invokevirtual 59, 3) := by decide +kernel
theorem dL_act_235 : decode cL_act 235 = .ok (.goto 7, 3) := by decide +kernel
theorem dL_act_238 : decode cL_act 238 = .ok (.aload_n 0, 1) := by decide +kernel
theorem dL_act_239 : decode cL_act 239 = .ok (.invokevirtual 63, 3) := by decide +kernel
theorem dL_act_242 : decode cL_act 242 = .ok (.ireturn, 1) := by decide +kernel
theorem dL_act_243 : decode cL_act 243 = .ok (.aload_n 0, 1) := by decide +kernel
theorem dL_act_244 : decode cL_act 244 = .ok (.iconst 1, 1) := by decide +kernel
theorem dL_act_245 : decode cL_act 245 = .ok (.invokevirtual 13, 3) := by decide +kernel
theorem dL_act_248 : decode cL_act 248 = .ok (.ifCond .ne 10, 3) := by decide +kernel
theorem dL_act_251 : decode cL_act 251 = .ok (.aload_n 0, 1) := by decide +kernel
theorem dL_act_252 : decode cL_act 252 = .ok (.invokevirtual 63, 3) := by decide +kernel
theorem dL_act_255 : decode cL_act 255 = .ok (.goto 21, 3) := by decide +kernel
theorem dL_act_258 : decode cL_act 258 = .ok (.iload_n 2, 1) := by decide +kernel
theorem dL_act_259 : decode cL_act 259 = .ok (.iconst 3, 1) := by decide +kernel
theorem dL_act_260 : decode cL_act 260 = .ok (.iand, 1) := by decide +kernel
theorem dL_act_261 : decode cL_act 261 = .ok (.ifCond .ne 10, 3) := by decide +kernel
theorem dL_act_264 : decode cL_act 264 = .ok (.aload_n 0, 1) := by decide +kernel
theorem dL_act_265 : decode cL_act 265 = .ok (.invokevirtual 59, 3) := by decide +kernel
theorem dL_act_268 : decode cL_act 268 = .ok (.goto 8, 3) := by decide +kernel
theorem dL_act_271 : decode cL_act 271 = .ok (.aload_n 0, 1) := by decide +kernel
theorem dL_act_272 : decode cL_act 272 = .ok (.iconst 1, 1) := by decide +kernel
theorem dL_act_273 : decode cL_act 273 = .ok (.invokevirtual 56, 3) := by decide +kernel
theorem dL_act_276 : decode cL_act 276 = .ok (.ireturn, 1) := by decide +kernel
theorem dL_act_277 : decode cL_act 277 = .ok (.iload_n 2, 1) := by decide +kernel
theorem dL_act_278 : decode cL_act 278 = .ok (.bipush 7, 2) := by decide +kernel
theorem dL_act_280 : decode cL_act 280 = .ok (.iand, 1) := by decide +kernel
theorem dL_act_281 : decode cL_act 281 = .ok (.ifCond .ne 11, 3) := by decide +kernel
theorem dL_act_284 : decode cL_act 284 = .ok (.aload_n 0, 1) := by decide +kernel
theorem dL_act_285 : decode cL_act 285 = .ok (.iconst 0, 1) := by decide +kernel
theorem dL_act_286 : decode cL_act 286 = .ok (.invokevirtual 66, 3) := by decide +kernel
theorem dL_act_289 : decode cL_act 289 = .ok (.goto 8, 3) := by decide +kernel
theorem dL_act_292 : decode cL_act 292 = .ok (.aload_n 0, 1) := by decide +kernel
theorem dL_act_293 : decode cL_act 293 = .ok (.iconst 2, 1) := by decide +kernel
theorem dL_act_294 : decode cL_act 294 = .ok (.invokevirtual 56, 3) := by decide +kernel
theorem dL_act_297 : decode cL_act 297 = .ok (.ireturn, 1) := by decide +kernel
theorem dL_act_298 : decode cL_act 298 = .ok (.iload_n 2, 1) := by decide +kernel
theorem dL_act_299 : decode cL_act 299 = .ok (.bipush 13, 2) := by decide +kernel
theorem dL_act_301 : decode cL_act 301 = .ok (.ishr, 1) := by decide +kernel
theorem dL_act_302 : decode cL_act 302 = .ok (.iconst 1, 1) := by decide +kernel
theorem dL_act_303 : decode cL_act 303 = .ok (.iand, 1) := by decide +kernel
theorem dL_act_304 : decode cL_act 304 = .ok (.istore 6, 2) := by decide +kernel
theorem dL_act_306 : decode cL_act 306 = .ok (.aload_n 0, 1) := by decide +kernel
theorem dL_act_307 : decode cL_act 307 = .ok (.iconst 1, 1) := by decide +kernel
theorem dL_act_308 : decode cL_act 308 = .ok (.invokevirtual 13, 3) := by decide +kernel
theorem dL_act_311 : decode cL_act 311 = .ok (.iconst 1, 1) := by decide +kernel
theorem dL_act_312 : decode cL_act 312 = .ok (.isub, 1) := by decide +kernel
theorem dL_act_313 : decode cL_act 313 = .ok (.istore 7, 2) := by decide +kernel
theorem dL_act_315 : decode cL_act 315 = .ok (.iload 7, 2) := by decide +kernel
theorem dL_act_317 : decode cL_act 317 = .ok (.ifCond .lt 47, 3) := by decide +kernel
theorem dL_act_320 : decode cL_act 320 = .ok (.aload_n 0, 1) := by decide +kernel
theorem dL_act_321 : decode cL_act 321 = .ok (.iload 7, 2) := by decide +kernel
theorem dL_act_323 : decode cL_act 323 = .ok (.iload_n 3, 1) := by decide +kernel
theorem dL_act_324 : decode cL_act 324 = .ok (.iload 4, 2) := by decide +kernel
theorem dL_act_326 : decode cL_act 326 = .ok (.iload 6, 2) := by decide +kernel
theorem dL_act_328 : decode cL_act 328 = .ok (.invokevirtual 26, 3) := by decide +kernel
theorem dL_act_331 : decode cL_act 331 = .ok (.iload 5, 2) := by decide +kernel
theorem dL_act_333 : decode cL_act 333 = .ok (.iadd, 1) := by decide +kernel
theorem dL_act_334 : decode cL_act 334 = .ok (.sipush 900, 3) := by decide +kernel
theorem dL_act_337 : decode cL_act 337 = .ok (.if_icmp .gt 27, 3) := by decide +kernel
theorem dL_act_340 : decode cL_act 340 = .ok (.aload_n 0, 1) := by decide +kernel
theorem dL_act_341 : decode cL_act 341 = .ok (.iload 7, 2) := by decide +kernel
theorem dL_act_343 : decode cL_act 343 = .ok (.iload_n 3, 1) := by decide +kernel
theorem dL_act_344 : decode cL_act 344 = .ok (.iload 4, 2) := by decide +kernel
theorem dL_act_346 : decode cL_act 346 = .ok (.iload 6, 2) := by decide +kernel
theorem dL_act_348 : decode cL_act 348 = .ok (.invokevirtual 26, 3) := by decide +kernel
theorem dL_act_351 : decode cL_act 351 = .ok (.iload 5, 2) := by decide +kernel
theorem dL_act_353 : decode cL_act 353 = .ok (.iadd, 1) := by decide +kernel
theorem dL_act_354 : decode cL_act 354 = .ok (.sipush (-900), 3) := by decide +kernel
theorem dL_act_357 : decode cL_act 357 = .ok (.if_icmp .lt 7, 3) := by decide +kernel
theorem dL_act_360 : decode cL_act 360 = .ok (.iconst 1, 1) := by decide +kernel
theorem dL_act_361 : decode cL_act 361 = .ok (.goto 4, 3) := by decide +kernel
theorem dL_act_364 : decode cL_act 364 = .ok (.iconst 0, 1) := by decide +kernel
theorem dL_act_365 : decode cL_act 365 = .ok (.istore 8, 2) := by decide +kernel
theorem dL_act_367 : decode cL_act 367 = .ok (.iload 8, 2) := by decide +kernel
theorem dL_act_369 : decode cL_act 369 = .ok (.ifCond .eq 21, 3) := by decide +kernel
theorem dL_act_372 : decode cL_act 372 = .ok (.sipush 2000, 3) := by decide +kernel
theorem dL_act_375 : decode cL_act 375 = .ok (.aload_n 0, 1) := by decide +kernel
theorem dL_act_376 : decode cL_act 376 = .ok (.iload_n 3, 1) := by decide +kernel
theorem dL_act_377 : decode cL_act 377 = .ok (.iload 4, 2) := by decide +kernel
theorem dL_act_379 : decode cL_act 379 = .ok (.iload 6, 2) := by decide +kernel
theorem dL_act_381 : decode cL_act 381 = .ok (.iload 5, 2) := by decide +kernel
theorem dL_act_383 : decode cL_act 383 = .ok (.invokevirtual 69, 3) := by decide +kernel
theorem dL_act_386 : decode cL_act 386 = .ok (.iadd, 1) := by decide +kernel
theorem dL_act_387 : decode cL_act 387 = .ok (.goto 8, 3) := by decide +kernel
theorem dL_act_390 : decode cL_act 390 = .ok (.aload_n 0, 1) := by decide +kernel
theorem dL_act_391 : decode cL_act 391 = .ok (.iconst 1, 1) := by decide +kernel
theorem dL_act_392 : decode cL_act 392 = .ok (.invokevirtual 56, 3) := by decide +kernel
theorem dL_act_395 : decode cL_act 395 = .ok (.ireturn, 1) := by decide +kernel
theorem dL_isLevel_0 : decode cL_isLevel 0 = .ok (.aload_n 0, 1) := by decide +kernel
theorem dL_isLevel_1 : decode cL_isLevel 1 = .ok (.iload_n 1, 1) := by decide +kernel
theorem dL_isLevel_2 : decode cL_isLevel 2 = .ok (.iconst 3, 1) := by decide +kernel
theorem dL_isLevel_3 : decode cL_isLevel 3 = .ok (.invokevirtual 19, 3) := by decide +kernel
theorem dL_isLevel_6 : decode cL_isLevel 6 = .ok (.aload_n 0, 1) := by decide +kernel
theorem dL_isLevel_7 : decode cL_isLevel 7 = .ok (.iload_n 1, 1) := by decide +kernel
theorem dL_isLevel_8 : decode cL_isLevel 8 = .ok (.iconst 4, 1) := by decide +kernel
theorem dL_isLevel_9 : decode cL_isLevel 9 = .ok (.invokevirtual 19, 3) := by decide +kernel
theorem dL_isLevel_12 : decode cL_isLevel 12 = .ok (.iadd, 1) := by decide +kernel
theorem dL_isLevel_13 : decode cL_isLevel 13 = .ok (.iconst 2, 1) := by decide +kernel
theorem dL_isLevel_14 : decode cL_isLevel 14 = .ok (.aload_n 0, 1) := by decide +kernel
theorem dL_isLevel_15 : decode cL_isLevel 15 = .ok (.iconst 2, 1) := by decide +kernel
theorem dL_isLevel_16 : decode cL_isLevel 16 = .ok (.invokevirtual 13, 3) := by decide +kernel
theorem dL_isLevel_19 : decode cL_isLevel 19 = .ok (.imul, 1) := by decide +kernel
theorem dL_isLevel_20 : decode cL_isLevel 20 = .ok (.if_icmp .ne 31, 3) := by decide +kernel
theorem dL_isLevel_23 : decode cL_isLevel 23 = .ok (.aload_n 0, 1) := by decide +kernel
theorem dL_isLevel_24 : decode cL_isLevel 24 = .ok (.iload_n 1, 1) := by decide +kernel
theorem dL_isLevel_25 : decode cL_isLevel 25 = .ok (.iconst 5, 1) := by decide +kernel
theorem dL_isLevel_26 : decode cL_isLevel 26 = .ok (.invokevirtual 19, 3) := by decide +kernel
theorem dL_isLevel_29 : decode cL_isLevel 29 = .ok (.aload_n 0, 1) := by decide +kernel
theorem dL_isLevel_30 : decode cL_isLevel 30 = .ok (.iload_n 1, 1) := by decide +kernel
theorem dL_isLevel_31 : decode cL_isLevel 31 = .ok (.bipush 6, 2) := by decide +kernel
theorem dL_isLevel_33 : decode cL_isLevel 33 = .ok (.invokevirtual 19, 3) := by decide +kernel
theorem dL_isLevel_36 : decode cL_isLevel 36 = .ok (.iadd, 1) := by decide +kernel
theorem dL_isLevel_37 : decode cL_isLevel 37 = .ok (.iconst 2, 1) := by decide +kernel
theorem dL_isLevel_38 : decode cL_isLevel 38 = .ok (.aload_n 0, 1) := by decide +kernel
theorem dL_isLevel_39 : decode cL_isLevel 39 = .ok (.iconst 3, 1) := by decide +kernel
theorem dL_isLevel_40 : decode cL_isLevel 40 = .ok (.invokevirtual 13, 3) := by decide +kernel
theorem dL_isLevel_43 : decode cL_isLevel 43 = .ok (.imul, 1) := by decide +kernel
theorem dL_isLevel_44 : decode cL_isLevel 44 = .ok (.if_icmp .ne 7, 3) := by decide +kernel
theorem dL_isLevel_47 : decode cL_isLevel 47 = .ok (.iconst 1, 1) := by decide +kernel
theorem dL_isLevel_48 : decode cL_isLevel 48 = .ok (.goto 4, 3) := by decide +kernel
theorem dL_isLevel_51 : decode cL_isLevel 51 = .ok (.iconst 0, 1) := by decide +kernel
theorem dL_isLevel_52 : decode cL_isLevel 52 = .ok (.istore_n 2, 1) := by decide +kernel
theorem dL_isLevel_53 : decode cL_isLevel 53 = .ok (.aload_n 0, 1) := by decide +kernel
theorem dL_isLevel_54 : decode cL_isLevel 54 = .ok (.iload_n 1, 1) := by decide +kernel
theorem dL_isLevel_55 : decode cL_isLevel 55 = .ok (.iconst 3, 1) := by decide +kernel
theorem dL_isLevel_56 : decode cL_isLevel 56 = .ok (.invokevirtual 19, 3) := by decide +kernel
theorem dL_isLevel_59 : decode cL_isLevel 59 = .ok (.aload_n 0, 1) := by decide +kernel
theorem dL_isLevel_60 : decode cL_isLevel 60 = .ok (.iload_n 1, 1) := by decide +kernel
theorem dL_isLevel_61 : decode cL_isLevel 61 = .ok (.iconst 4, 1) := by decide +kernel
theorem dL_isLevel_62 : decode cL_isLevel 62 = .ok (.invokevirtual 19, 3) := by decide +kernel
theorem dL_isLevel_65 : decode cL_isLevel 65 = .ok (.isub, 1) := by decide +kernel
theorem dL_isLevel_66 : decode cL_isLevel 66 = .ok (.iconst 2, 1) := by decide +kernel
theorem dL_isLevel_67 : decode cL_isLevel 67 = .ok (.idiv, 1) := by decide +kernel
theorem dL_isLevel_68 : decode cL_isLevel 68 = .ok (.istore_n 3, 1) := by decide +kernel
theorem dL_isLevel_69 : decode cL_isLevel 69 = .ok (.aload_n 0, 1) := by decide +kernel
theorem dL_isLevel_70 : decode cL_isLevel 70 = .ok (.iload_n 1, 1) := by decide +kernel
theorem dL_isLevel_71 : decode cL_isLevel 71 = .ok (.iconst 5, 1) := by decide +kernel
theorem dL_isLevel_72 : decode cL_isLevel 72 = .ok (.invokevirtual 19, 3) := by decide +kernel
theorem dL_isLevel_75 : decode cL_isLevel 75 = .ok (.aload_n 0, 1) := by decide +kernel
theorem dL_isLevel_76 : decode cL_isLevel 76 = .ok (.iload_n 1, 1) := by decide +kernel
theorem dL_isLevel_77 : decode cL_isLevel 77 = .ok (.bipush 6, 2) := by decide +kernel
theorem dL_isLevel_79 : decode cL_isLevel 79 = .ok (.invokevirtual 19, 3) := by decide +kernel
theorem dL_isLevel_82 : decode cL_isLevel 82 = .ok (.isub, 1) := by decide +kernel
theorem dL_isLevel_83 : decode cL_isLevel 83 = .ok (.iconst 2, 1) := by decide +kernel
theorem dL_isLevel_84 : decode cL_isLevel 84 = .ok (.idiv, 1) := by decide +kernel
theorem dL_isLevel_85 : decode cL_isLevel 85 = .ok (.istore 4, 2) := by decide +kernel
theorem dL_isLevel_87 : decode cL_isLevel 87 = .ok (.aload_n 0, 1) := by decide +kernel
theorem dL_isLevel_88 : decode cL_isLevel 88 = .ok (.iload_n 1, 1) := by decide +kernel
theorem dL_isLevel_89 : decode cL_isLevel 89 = .ok (.iconst 0, 1) := by decide +kernel
theorem dL_isLevel_90 : decode cL_isLevel 90 = .ok (.invokevirtual 19, 3) := by decide +kernel
theorem dL_isLevel_93 : decode cL_isLevel 93 = .ok (.istore 5, 2) := by decide +kernel
theorem dL_isLevel_95 : decode cL_isLevel 95 = .ok (.aload_n 0, 1) := by decide +kernel
theorem dL_isLevel_96 : decode cL_isLevel 96 = .ok (.iload_n 1, 1) := by decide +kernel
theorem dL_isLevel_97 : decode cL_isLevel 97 = .ok (.iconst 1, 1) := by decide +kernel
theorem dL_isLevel_98 : decode cL_isLevel 98 = .ok (.invokevirtual 19, 3) := by decide +kernel
theorem dL_isLevel_101 : decode cL_isLevel 101 = .ok (.istore 6, 2) := by decide +kernel
theorem dL_isLevel_103 : decode cL_isLevel 103 = .ok (.aload_n 0, 1) := by decide +kernel
theorem dL_isLevel_104 : decode cL_isLevel 104 = .ok (.iload_n 1, 1) := by decide +kernel
theorem dL_isLevel_105 : decode cL_isLevel 105 = .ok (.iconst 2, 1) := by decide +kernel
theorem dL_isLevel_106 : decode cL_isLevel 106 = .ok (.invokevirtual 19, 3) := by decide +kernel
theorem dL_isLevel_109 : decode cL_isLevel 109 = .ok (.istore 7, 2) := by decide +kernel
theorem dL_isLevel_111 : decode cL_isLevel 111 = .ok (.iload 7, 2) := by decide +kernel
theorem dL_isLevel_113 : decode cL_isLevel 113 = .ok (.ifCond .le 22, 3) := by decide +kernel
theorem dL_isLevel_116 : decode cL_isLevel 116 = .ok (.iload 6, 2) := by decide +kernel
theorem dL_isLevel_118 : decode cL_isLevel 118 = .ok (.istore 8, 2) := by decide +kernel
theorem dL_isLevel_120 : decode cL_isLevel 120 = .ok (.iload 5, 2) := by decide +kernel
theorem dL_isLevel_122 : decode cL_isLevel 122 = .ok (.ineg, 1) := by decide +kernel
theorem dL_isLevel_123 : decode cL_isLevel 123 = .ok (.istore 6, 2) := by decide +kernel
theorem dL_isLevel_125 : decode cL_isLevel 125 = .ok (.iload 8, 2) := by decide +kernel
theorem dL_isLevel_127 : decode cL_isLevel 127 = .ok (.istore 5, 2) := by decide +kernel
theorem dL_isLevel_129 : decode cL_isLevel 129 = .ok (.iinc 7 (-1), 3) := by decide +kernel
theorem dL_isLevel_132 : decode cL_isLevel 132 = .ok (.goto (-21), 3) := by decide +kernel
theorem dL_isLevel_135 : decode cL_isLevel 135 = .ok (.iload_n 2, 1) := by decide +kernel
theorem dL_isLevel_136 : decode cL_isLevel 136 = .ok (.ifCond .eq 20, 3) := by decide +kernel
theorem dL_isLevel_139 : decode cL_isLevel 139 = .ok (.iload_n 3, 1) := by decide +kernel
theorem dL_isLevel_140 : decode cL_isLevel 140 = .ok (.iload 5, 2) := by decide +kernel
theorem dL_isLevel_142 : decode cL_isLevel 142 = .ok (.if_icmp .ne 14, 3) := by decide +kernel
theorem dL_isLevel_145 : decode cL_isLevel 145 = .ok (.iload 4, 2) := by decide +kernel
theorem dL_isLevel_147 : decode cL_isLevel 147 = .ok (.iload 6, 2) := by decide +kernel
theorem dL_isLevel_149 : decode cL_isLevel 149 = .ok (.if_icmp .ne 7, 3) := by decide +kernel
theorem dL_isLevel_152 : decode cL_isLevel 152 = .ok (.iconst 1, 1) := by decide +kernel
theorem dL_isLevel_153 : decode cL_isLevel 153 = .ok (.goto 4, 3) := by decide +kernel
theorem dL_isLevel_156 : decode cL_isLevel 156 = .ok (.iconst 0, 1) := by decide +kernel
theorem dL_isLevel_157 : decode cL_isLevel 157 = .ok (.ireturn, 1) := by decide +kernel
theorem dL_isSurvey_0 : decode cL_isSurvey 0 = .ok (.iconst 0, 1) := by decide +kernel
theorem dL_isSurvey_1 : decode cL_isSurvey 1 = .ok (.istore_n 2, 1) := by decide +kernel
theorem dL_isSurvey_2 : decode cL_isSurvey 2 = .ok (.iconst 1, 1) := by decide +kernel
theorem dL_isSurvey_3 : decode cL_isSurvey 3 = .ok (.istore_n 3, 1) := by decide +kernel
theorem dL_isSurvey_4 : decode cL_isSurvey 4 = .ok (.iconst 0, 1) := by decide +kernel
theorem dL_isSurvey_5 : decode cL_isSurvey 5 = .ok (.istore 4, 2) := by decide +kernel
theorem dL_isSurvey_7 : decode cL_isSurvey 7 = .ok (.iload 4, 2) := by decide +kernel
theorem dL_isSurvey_9 : decode cL_isSurvey 9 = .ok (.iconst 2, 1) := by decide +kernel
theorem dL_isSurvey_10 : decode cL_isSurvey 10 = .ok (.if_icmp .ge 333, 3) := by decide +kernel
theorem dL_isSurvey_13 : decode cL_isSurvey 13 = .ok (.aload_n 0, 1) := by decide +kernel
theorem dL_isSurvey_14 : decode cL_isSurvey 14 = .ok (.iload_n 1, 1) := by decide +kernel
theorem dL_isSurvey_15 : decode cL_isSurvey 15 = .ok (.iconst 1, 1) := by decide +kernel
theorem dL_isSurvey_16 : decode cL_isSurvey 16 = .ok (.iload 4, 2) := by decide +kernel
theorem dL_isSurvey_18 : decode cL_isSurvey 18 = .ok (.iadd, 1) := by decide +kernel
theorem dL_isSurvey_19 : decode cL_isSurvey 19 = .ok (.invokevirtual 23, 3) := by decide +kernel
theorem dL_isSurvey_22 : decode cL_isSurvey 22 = .ok (.istore 5, 2) := by decide +kernel
theorem dL_isSurvey_24 : decode cL_isSurvey 24 = .ok (.iconst 0, 1) := by decide +kernel
theorem dL_isSurvey_25 : decode cL_isSurvey 25 = .ok (.istore 6, 2) := by decide +kernel
theorem dL_isSurvey_27 : decode cL_isSurvey 27 = .ok (.iconst 0, 1) := by decide +kernel
theorem dL_isSurvey_28 : decode cL_isSurvey 28 = .ok (.istore 7, 2) := by decide +kernel
theorem dL_isSurvey_30 : decode cL_isSurvey 30 = .ok (.iconst 0, 1) := by decide +kernel
theorem dL_isSurvey_31 : decode cL_isSurvey 31 = .ok (.istore 8, 2) := by decide +kernel
theorem dL_isSurvey_33 : decode cL_isSurvey 33 = .ok (.iload 8, 2) := by decide +kernel
theorem dL_isSurvey_35 : decode cL_isSurvey 35 = .ok (.bipush 16, 2) := by decide +kernel
theorem dL_isSurvey_37 : decode cL_isSurvey 37 = .ok (.if_icmp .ge 264, 3) := by decide +kernel
theorem dL_isSurvey_40 : decode cL_isSurvey 40 = .ok (.aload_n 0, 1) := by decide +kernel
theorem dL_isSurvey_41 : decode cL_isSurvey 41 = .ok (.iload_n 1, 1) := by decide +kernel
theorem dL_isSurvey_42 : decode cL_isSurvey 42 = .ok (.iload 8, 2) := by decide +kernel
theorem dL_isSurvey_44 : decode cL_isSurvey 44 = .ok (.iload 4, 2) := by decide +kernel
theorem dL_isSurvey_46 : decode cL_isSurvey 46 = .ok (.iconst 2, 1) := by decide +kernel
theorem dL_isSurvey_47 : decode cL_isSurvey 47 = .ok (.invokevirtual 26, 3) := by decide +kernel
theorem dL_isSurvey_50 : decode cL_isSurvey 50 = .ok (.istore 9, 2) := by decide +kernel
theorem dL_isSurvey_52 : decode cL_isSurvey 52 = .ok (.iload 9, 2) := by decide +kernel
theorem dL_isSurvey_54 : decode cL_isSurvey 54 = .ok (.iload 5, 2) := by decide +kernel
theorem dL_isSurvey_56 : decode cL_isSurvey 56 = .ok (.if_icmp .le 11, 3) := by decide +kernel
theorem dL_isSurvey_59 : decode cL_isSurvey 59 = .ok (.iload 9, 2) := by decide +kernel
theorem dL_isSurvey_61 : decode cL_isSurvey 61 = .ok (.iload 5, 2) := by decide +kernel
theorem dL_isSurvey_63 : decode cL_isSurvey 63 = .ok (.isub, 1) := by decide +kernel
theorem dL_isSurvey_64 : decode cL_isSurvey 64 = .ok (.goto 8, 3) := by decide +kernel
theorem dL_isSurvey_67 : decode cL_isSurvey 67 = .ok (.iload 5, 2) := by decide +kernel
theorem dL_isSurvey_69 : decode cL_isSurvey 69 = .ok (.iload 9, 2) := by decide +kernel
theorem dL_isSurvey_71 : decode cL_isSurvey 71 = .ok (.isub, 1) := by decide +kernel
theorem dL_isSurvey_72 : decode cL_isSurvey 72 = .ok (.istore 10, 2) := by decide +kernel
theorem dL_isSurvey_74 : decode cL_isSurvey 74 = .ok (.iload 6, 2) := by decide +kernel
theorem dL_isSurvey_76 : decode cL_isSurvey 76 = .ok (.iload 9, 2) := by decide +kernel
theorem dL_isSurvey_78 : decode cL_isSurvey 78 = .ok (.iload 5, 2) := by decide +kernel
theorem dL_isSurvey_80 : decode cL_isSurvey 80 = .ok (.if_icmp .gt 7, 3) := by decide +kernel
theorem dL_isSurvey_83 : decode cL_isSurvey 83 = .ok (.iconst 1, 1) := by decide +kernel
theorem dL_isSurvey_84 : decode cL_isSurvey 84 = .ok (.goto 4, 3) := by decide +kernel
theorem dL_isSurvey_87 : decode cL_isSurvey 87 = .ok (.iconst 0, 1) := by decide +kernel
theorem dL_isSurvey_88 : decode cL_isSurvey 88 = .ok (.iadd, 1) := by decide +kernel
theorem dL_isSurvey_89 : decode cL_isSurvey 89 = .ok (.istore 6, 2) := by decide +kernel
theorem dL_isSurvey_91 : decode cL_isSurvey 91 = .ok (.iload 7, 2) := by decide +kernel
theorem dL_isSurvey_93 : decode cL_isSurvey 93 = .ok (.iload 9, 2) := by decide +kernel
theorem dL_isSurvey_95 : decode cL_isSurvey 95 = .ok (.iload 5, 2) := by decide +kernel
theorem dL_isSurvey_97 : decode cL_isSurvey 97 = .ok (.if_icmp .lt 7, 3) := by decide +kernel
theorem dL_isSurvey_100 : decode cL_isSurvey 100 = .ok (.iconst 1, 1) := by decide +kernel
theorem dL_isSurvey_101 : decode cL_isSurvey 101 = .ok (.goto 4, 3) := by decide +kernel
theorem dL_isSurvey_104 : decode cL_isSurvey 104 = .ok (.iconst 0, 1) := by decide +kernel
theorem dL_isSurvey_105 : decode cL_isSurvey 105 = .ok (.iadd, 1) := by decide +kernel
theorem dL_isSurvey_106 : decode cL_isSurvey 106 = .ok (.istore 7, 2) := by decide +kernel
theorem dL_isSurvey_108 : decode cL_isSurvey 108 = .ok (.iload_n 2, 1) := by decide +kernel
theorem dL_isSurvey_109 : decode cL_isSurvey 109 = .ok (.aload_n 0, 1) := by decide +kernel
theorem dL_isSurvey_110 : decode cL_isSurvey 110 = .ok (.iload_n 1, 1) := by decide +kernel
theorem dL_isSurvey_111 : decode cL_isSurvey 111 = .ok (.iload 8, 2) := by decide +kernel
theorem dL_isSurvey_113 : decode cL_isSurvey 113 = .ok (.iload 4, 2) := by decide +kernel
theorem dL_isSurvey_115 : decode cL_isSurvey 115 = .ok (.iconst 3, 1) := by decide +kernel
theorem dL_isSurvey_116 : decode cL_isSurvey 116 = .ok (.invokevirtual 26, 3) := by decide +kernel
theorem dL_isSurvey_119 : decode cL_isSurvey 119 = .ok (.iadd, 1) := by decide +kernel
theorem dL_isSurvey_120 : decode cL_isSurvey 120 = .ok (.istore_n 2, 1) := by decide +kernel
theorem dL_isSurvey_121 : decode cL_isSurvey 121 = .ok (.aload_n 0, 1) := by decide +kernel
theorem dL_isSurvey_122 : decode cL_isSurvey 122 = .ok (.iload_n 1, 1) := by decide +kernel
theorem dL_isSurvey_123 : decode cL_isSurvey 123 = .ok (.iload 8, 2) := by decide +kernel
theorem dL_isSurvey_125 : decode cL_isSurvey 125 = .ok (.iload 4, 2) := by decide +kernel
theorem dL_isSurvey_127 : decode cL_isSurvey 127 = .ok (.iconst 5, 1) := by decide +kernel
theorem dL_isSurvey_128 : decode cL_isSurvey 128 = .ok (.invokevirtual 26, 3) := by decide +kernel
theorem dL_isSurvey_131 : decode cL_isSurvey 131 = .ok (.istore 11, 2) := by decide +kernel
theorem dL_isSurvey_133 : decode cL_isSurvey 133 = .ok (.iload 8, 2) := by decide +kernel
theorem dL_isSurvey_135 : decode cL_isSurvey 135 = .ok (.ifCond .ne 7, 3) := by decide +kernel
theorem dL_isSurvey_138 : decode cL_isSurvey 138 = .ok (.iconst 0, 1) := by decide +kernel
theorem dL_isSurvey_139 : decode cL_isSurvey 139 = .ok (.goto 15, 3) := by decide +kernel
theorem dL_isSurvey_142 : decode cL_isSurvey 142 = .ok (.aload_n 0, 1) := by decide +kernel
theorem dL_isSurvey_143 : decode cL_isSurvey 143 = .ok (.iload_n 1, 1) := by decide +kernel
theorem dL_isSurvey_144 : decode cL_isSurvey 144 = .ok (.iload 8, 2) := by decide +kernel
theorem dL_isSurvey_146 : decode cL_isSurvey 146 = .ok (.iconst 1, 1) := by decide +kernel
theorem dL_isSurvey_147 : decode cL_isSurvey 147 = .ok (.isub, 1) := by decide +kernel
theorem dL_isSurvey_148 : decode cL_isSurvey 148 = .ok (.iload 4, 2) := by decide +kernel
theorem dL_isSurvey_150 : decode cL_isSurvey 150 = .ok (.iconst 0, 1) := by decide +kernel
theorem dL_isSurvey_151 : decode cL_isSurvey 151 = .ok (.invokevirtual 72, 3) := by decide +kernel
theorem dL_isSurvey_154 : decode cL_isSurvey 154 = .ok (.istore 12, 2) := by decide +kernel
theorem dL_isSurvey_156 : decode cL_isSurvey 156 = .ok (.iload_n 3, 1) := by decide +kernel
theorem dL_isSurvey_157 : decode cL_isSurvey 157 = .ok (.ifCond .eq 102, 3) := by decide +kernel
theorem dL_isSurvey_160 : decode cL_isSurvey 160 = .ok (.iload 9, 2) := by decide +kernel
theorem dL_isSurvey_162 : decode cL_isSurvey 162 = .ok (.aload_n 0, 1) := by decide +kernel
theorem dL_isSurvey_163 : decode cL_isSurvey 163 = .ok (.iload_n 1, 1) := by decide +kernel
theorem dL_isSurvey_164 : decode cL_isSurvey 164 = .ok (.iload 8, 2) := by decide +kernel
theorem dL_isSurvey_166 : decode cL_isSurvey 166 = .ok (.iload 4, 2) := by decide +kernel
theorem dL_isSurvey_168 : decode cL_isSurvey 168 = .ok (.iconst 0, 1) := by decide +kernel
theorem dL_isSurvey_169 : decode cL_isSurvey 169 = .ok (.invokevirtual 26, 3) := by decide +kernel
theorem dL_isSurvey_172 : decode cL_isSurvey 172 = .ok (.aload_n 0, 1) := by decide +kernel
theorem dL_isSurvey_173 : decode cL_isSurvey 173 = .ok (.iload_n 1, 1) := by decide +kernel
theorem dL_isSurvey_174 : decode cL_isSurvey 174 = .ok (.iload 8, 2) := by decide +kernel
theorem dL_isSurvey_176 : decode cL_isSurvey 176 = .ok (.iload 4, 2) := by decide +kernel
theorem dL_isSurvey_178 : decode cL_isSurvey 178 = .ok (.iconst 1, 1) := by decide +kernel
theorem dL_isSurvey_179 : decode cL_isSurvey 179 = .ok (.invokevirtual 26, 3) := by decide +kernel
theorem dL_isSurvey_182 : decode cL_isSurvey 182 = .ok (.iadd, 1) := by decide +kernel
theorem dL_isSurvey_183 : decode cL_isSurvey 183 = .ok (.if_icmp .ne 76, 3) := by decide +kernel
theorem dL_isSurvey_186 : decode cL_isSurvey 186 = .ok (.aload_n 0, 1) := by decide +kernel
theorem dL_isSurvey_187 : decode cL_isSurvey 187 = .ok (.iload_n 1, 1) := by decide +kernel
theorem dL_isSurvey_188 : decode cL_isSurvey 188 = .ok (.iload 8, 2) := by decide +kernel
theorem dL_isSurvey_190 : decode cL_isSurvey 190 = .ok (.iload 4, 2) := by decide +kernel
theorem dL_isSurvey_192 : decode cL_isSurvey 192 = .ok (.iconst 3, 1) := by decide +kernel
theorem dL_isSurvey_193 : decode cL_isSurvey 193 = .ok (.invokevirtual 26, 3) := by decide +kernel
theorem dL_isSurvey_196 : decode cL_isSurvey 196 = .ok (.iload 10, 2) := by decide +kernel
theorem dL_isSurvey_198 : decode cL_isSurvey 198 = .ok (.aload_n 0, 1) := by decide +kernel
theorem dL_isSurvey_199 : decode cL_isSurvey 199 = .ok (.iconst 0, 1) := by decide +kernel
theorem dL_isSurvey_200 : decode cL_isSurvey 200 = .ok (.invokevirtual 32, 3) := by decide +kernel
theorem dL_isSurvey_203 : decode cL_isSurvey 203 = .ok (.if_icmp .le 7, 3) := by decide +kernel
theorem dL_isSurvey_206 : decode cL_isSurvey 206 = .ok (.iconst 1, 1) := by decide +kernel
theorem dL_isSurvey_207 : decode cL_isSurvey 207 = .ok (.goto 4, 3) := by decide +kernel
theorem dL_isSurvey_210 : decode cL_isSurvey 210 = .ok (.iconst 0, 1) := by decide +kernel
theorem dL_isSurvey_211 : decode cL_isSurvey 211 = .ok (.if_icmp .ne 48, 3) := by decide +kernel
theorem dL_isSurvey_214 : decode cL_isSurvey 214 = .ok (.aload_n 0, 1) := by decide +kernel
theorem dL_isSurvey_215 : decode cL_isSurvey 215 = .ok (.iload_n 1, 1) := by decide +kernel
theorem dL_isSurvey_216 : decode cL_isSurvey 216 = .ok (.iload 8, 2) := by decide +kernel
theorem dL_isSurvey_218 : decode cL_isSurvey 218 = .ok (.iload 4, 2) := by decide +kernel
theorem dL_isSurvey_220 : decode cL_isSurvey 220 = .ok (.iconst 0, 1) := by decide +kernel
theorem dL_isSurvey_221 : decode cL_isSurvey 221 = .ok (.invokevirtual 72, 3) := by decide +kernel
theorem dL_isSurvey_224 : decode cL_isSurvey 224 = .ok (.aload_n 0, 1) := by decide +kernel
theorem dL_isSurvey_225 : decode cL_isSurvey 225 = .ok (.iload_n 1, 1) := by decide +kernel
theorem dL_isSurvey_226 : decode cL_isSurvey 226 = .ok (.iload 8, 2) := by decide +kernel
theorem dL_isSurvey_228 : decode cL_isSurvey 228 = .ok (.iload 4, 2) := by decide +kernel
theorem dL_isSurvey_230 : decode cL_isSurvey 230 = .ok (.iconst 1, 1) := by decide +kernel
theorem dL_isSurvey_231 : decode cL_isSurvey 231 = .ok (.invokevirtual 72, 3) := by decide +kernel
theorem dL_isSurvey_234 : decode cL_isSurvey 234 = .ok (.if_icmp .ne 25, 3) := by decide +kernel
theorem dL_isSurvey_237 : decode cL_isSurvey 237 = .ok (.aload_n 0, 1) := by decide +kernel
theorem dL_isSurvey_238 : decode cL_isSurvey 238 = .ok (.iload_n 1, 1) := by decide +kernel
theorem dL_isSurvey_239 : decode cL_isSurvey 239 = .ok (.iload 8, 2) := by decide +kernel
theorem dL_isSurvey_241 : decode cL_isSurvey 241 = .ok (.iload 4, 2) := by decide +kernel
theorem dL_isSurvey_243 : decode cL_isSurvey 243 = .ok (.iconst 0, 1) := by decide +kernel
theorem dL_isSurvey_244 : decode cL_isSurvey 244 = .ok (.invokevirtual 72, 3) := by decide +kernel
theorem dL_isSurvey_247 : decode cL_isSurvey 247 = .ok (.iload 12, 2) := by decide +kernel
theorem dL_isSurvey_249 : decode cL_isSurvey 249 = .ok (.isub, 1) := by decide +kernel
theorem dL_isSurvey_250 : decode cL_isSurvey 250 = .ok (.iload 11, 2) := by decide +kernel
theorem dL_isSurvey_252 : decode cL_isSurvey 252 = .ok (.if_icmp .ne 7, 3) := by decide +kernel
theorem dL_isSurvey_255 : decode cL_isSurvey 255 = .ok (.iconst 1, 1) := by decide +kernel
theorem dL_isSurvey_256 : decode cL_isSurvey 256 = .ok (.goto 4, 3) := by decide +kernel
theorem dL_isSurvey_259 : decode cL_isSurvey 259 = .ok (.iconst 0, 1) := by decide +kernel
theorem dL_isSurvey_260 : decode cL_isSurvey 260 = .ok (.istore_n 3, 1) := by decide +kernel
theorem dL_isSurvey_261 : decode cL_isSurvey 261 = .ok (.iload_n 3, 1) := by decide +kernel
theorem dL_isSurvey_262 : decode cL_isSurvey 262 = .ok (.ifCond .eq 31, 3) := by decide +kernel
theorem dL_isSurvey_265 : decode cL_isSurvey 265 = .ok (.aload_n 0, 1) := by decide +kernel
theorem dL_isSurvey_266 : decode cL_isSurvey 266 = .ok (.iconst 2, 1) := by decide +kernel
theorem dL_isSurvey_267 : decode cL_isSurvey 267 = .ok (.invokevirtual 32, 3) := by decide +kernel
theorem dL_isSurvey_270 : decode cL_isSurvey 270 = .ok (.iconst 1, 1) := by decide +kernel
theorem dL_isSurvey_271 : decode cL_isSurvey 271 = .ok (.if_icmp .eq 18, 3) := by decide +kernel
theorem dL_isSurvey_274 : decode cL_isSurvey 274 = .ok (.iload 11, 2) := by decide +kernel
theorem dL_isSurvey_276 : decode cL_isSurvey 276 = .ok (.aload_n 0, 1) := by decide +kernel
theorem dL_isSurvey_277 : decode cL_isSurvey 277 = .ok (.iload_n 1, 1) := by decide +kernel
theorem dL_isSurvey_278 : decode cL_isSurvey 278 = .ok (.iload 8, 2) := by decide +kernel
theorem dL_isSurvey_280 : decode cL_isSurvey 280 = .ok (.iload 4, 2) := by decide +kernel
theorem dL_isSurvey_282 : decode cL_isSurvey 282 = .ok (.iconst 4, 1) := by decide +kernel
theorem dL_isSurvey_283 : decode cL_isSurvey 283 = .ok (.invokevirtual 26, 3) := by decide +kernel
theorem dL_isSurvey_286 : decode cL_isSurvey 286 = .ok (.if_icmp .ne 7, 3) := by decide +kernel
theorem dL_isSurvey_289 : decode cL_isSurvey 289 = .ok (.iconst 1, 1) := by decide +kernel
theorem dL_isSurvey_290 : decode cL_isSurvey 290 = .ok (.goto 4, 3) := by decide +kernel
theorem dL_isSurvey_293 : decode cL_isSurvey 293 = .ok (.iconst 0, 1) := by decide +kernel
theorem dL_isSurvey_294 : decode cL_isSurvey 294 = .ok (.istore_n 3, 1) := by decide +kernel
theorem dL_isSurvey_295 : decode cL_isSurvey 295 = .ok (.iinc 8 1, 3) := by decide +kernel
theorem dL_isSurvey_298 : decode cL_isSurvey 298 = .ok (.goto (-265), 3) := by decide +kernel
theorem dL_isSurvey_301 : decode cL_isSurvey 301 = .ok (.iload_n 3, 1) := by decide +kernel
theorem dL_isSurvey_302 : decode cL_isSurvey 302 = .ok (.ifCond .eq 33, 3) := by decide +kernel
theorem dL_isSurvey_305 : decode cL_isSurvey 305 = .ok (.iload 6, 2) := by decide +kernel
theorem dL_isSurvey_307 : decode cL_isSurvey 307 = .ok (.bipush 8, 2) := by decide +kernel
theorem dL_isSurvey_309 : decode cL_isSurvey 309 = .ok (.if_icmp .lt 26, 3) := by decide +kernel
theorem dL_isSurvey_312 : decode cL_isSurvey 312 = .ok (.iload 7, 2) := by decide +kernel
theorem dL_isSurvey_314 : decode cL_isSurvey 314 = .ok (.bipush 9, 2) := by decide +kernel
theorem dL_isSurvey_316 : decode cL_isSurvey 316 = .ok (.if_icmp .lt 19, 3) := by decide +kernel
theorem dL_isSurvey_319 : decode cL_isSurvey 319 = .ok (.aload_n 0, 1) := by decide +kernel
theorem dL_isSurvey_320 : decode cL_isSurvey 320 = .ok (.iload_n 1, 1) := by decide +kernel
theorem dL_isSurvey_321 : decode cL_isSurvey 321 = .ok (.iload 4, 2) := by decide +kernel
theorem dL_isSurvey_323 : decode cL_isSurvey 323 = .ok (.invokevirtual 75, 3) := by decide +kernel
theorem dL_isSurvey_326 : decode cL_isSurvey 326 = .ok (.dconst 0, 1) := by decide +kernel
theorem dL_isSurvey_327 : decode cL_isSurvey 327 = .ok (.dcmp .l, 1) := by decide +kernel
theorem dL_isSurvey_328 : decode cL_isSurvey 328 = .ok (.ifCond .lt 7, 3) := by decide +kernel
theorem dL_isSurvey_331 : decode cL_isSurvey 331 = .ok (.iconst 1, 1) := by decide +kernel
theorem dL_isSurvey_332 : decode cL_isSurvey 332 = .ok (.goto 4, 3) := by decide +kernel
theorem dL_isSurvey_335 : decode cL_isSurvey 335 = .ok (.iconst 0, 1) := by decide +kernel
theorem dL_isSurvey_336 : decode cL_isSurvey 336 = .ok (.istore_n 3, 1) := by decide +kernel
theorem dL_isSurvey_337 : decode cL_isSurvey 337 = .ok (.iinc 4 1, 3) := by decide +kernel
theorem dL_isSurvey_340 : decode cL_isSurvey 340 = .ok (.goto (-333), 3) := by decide +kernel
theorem dL_isSurvey_343 : decode cL_isSurvey 343 = .ok (.iload_n 3, 1) := by decide +kernel
theorem dL_isSurvey_344 : decode cL_isSurvey 344 = .ok (.ifCond .eq 52, 3) := by decide +kernel
theorem dL_isSurvey_347 : decode cL_isSurvey 347 = .ok (.aload_n 0, 1) := by decide +kernel
theorem dL_isSurvey_348 : decode cL_isSurvey 348 = .ok (.iload_n 1, 1) := by decide +kernel
theorem dL_isSurvey_349 : decode cL_isSurvey 349 = .ok (.iconst 3, 1) := by decide +kernel
theorem dL_isSurvey_350 : decode cL_isSurvey 350 = .ok (.invokevirtual 23, 3) := by decide +kernel
theorem dL_isSurvey_353 : decode cL_isSurvey 353 = .ok (.iload_n 2, 1) := by decide +kernel
theorem dL_isSurvey_354 : decode cL_isSurvey 354 = .ok (.if_icmp .ne 42, 3) := by decide +kernel
theorem dL_isSurvey_357 : decode cL_isSurvey 357 = .ok (.iload_n 1, 1) := by decide +kernel
theorem dL_isSurvey_358 : decode cL_isSurvey 358 = .ok (.ifCond .eq 20, 3) := by decide +kernel
theorem dL_isSurvey_361 : decode cL_isSurvey 361 = .ok (.aload_n 0, 1) := by decide +kernel
theorem dL_isSurvey_362 : decode cL_isSurvey 362 = .ok (.iload_n 1, 1) := by decide +kernel
theorem dL_isSurvey_363 : decode cL_isSurvey 363 = .ok (.iconst 0, 1) := by decide +kernel
theorem dL_isSurvey_364 : decode cL_isSurvey 364 = .ok (.invokevirtual 23, 3) := by decide +kernel
theorem dL_isSurvey_367 : decode cL_isSurvey 367 = .ok (.aload_n 0, 1) := by decide +kernel
theorem dL_isSurvey_368 : decode cL_isSurvey 368 = .ok (.iload_n 1, 1) := by decide +kernel
theorem dL_isSurvey_369 : decode cL_isSurvey 369 = .ok (.iconst 1, 1) := by decide +kernel
theorem dL_isSurvey_370 : decode cL_isSurvey 370 = .ok (.isub, 1) := by decide +kernel
theorem dL_isSurvey_371 : decode cL_isSurvey 371 = .ok (.iconst 0, 1) := by decide +kernel
theorem dL_isSurvey_372 : decode cL_isSurvey 372 = .ok (.invokevirtual 23, 3) := by decide +kernel
theorem dL_isSurvey_375 : decode cL_isSurvey 375 = .ok (.if_icmp .lt 21, 3) := by decide +kernel
theorem dL_isSurvey_378 : decode cL_isSurvey 378 = .ok (.aload_n 0, 1) := by decide +kernel
theorem dL_isSurvey_379 : decode cL_isSurvey 379 = .ok (.iload_n 1, 1) := by decide +kernel
theorem dL_isSurvey_380 : decode cL_isSurvey 380 = .ok (.iconst 0, 1) := by decide +kernel
theorem dL_isSurvey_381 : decode cL_isSurvey 381 = .ok (.invokevirtual 23, 3) := by decide +kernel
theorem dL_isSurvey_384 : decode cL_isSurvey 384 = .ok (.aload_n 0, 1) := by decide +kernel
theorem dL_isSurvey_385 : decode cL_isSurvey 385 = .ok (.iconst 0, 1) := by decide +kernel
theorem dL_isSurvey_386 : decode cL_isSurvey 386 = .ok (.invokevirtual 13, 3) := by decide +kernel
theorem dL_isSurvey_389 : decode cL_isSurvey 389 = .ok (.if_icmp .gt 7, 3) := by decide +kernel
theorem dL_isSurvey_392 : decode cL_isSurvey 392 = .ok (.iconst 1, 1) := by decide +kernel
theorem dL_isSurvey_393 : decode cL_isSurvey 393 = .ok (.goto 4, 3) := by decide +kernel
theorem dL_isSurvey_396 : decode cL_isSurvey 396 = .ok (.iconst 0, 1) := by decide +kernel
theorem dL_isSurvey_397 : decode cL_isSurvey 397 = .ok (.ireturn, 1) := by decide +kernel
theorem dL_isTaken_0 : decode cL_isTaken 0 = .ok (.aload_n 0, 1) := by decide +kernel
theorem dL_isTaken_1 : decode cL_isTaken 1 = .ok (.iconst 1, 1) := by decide +kernel
theorem dL_isTaken_2 : decode cL_isTaken 2 = .ok (.invokevirtual 79, 3) := by decide +kernel
theorem dL_isTaken_5 : decode cL_isTaken 5 = .ok (.aload_n 0, 1) := by decide +kernel
theorem dL_isTaken_6 : decode cL_isTaken 6 = .ok (.iconst 1, 1) := by decide +kernel
theorem dL_isTaken_7 : decode cL_isTaken 7 = .ok (.invokevirtual 13, 3) := by decide +kernel
theorem dL_isTaken_10 : decode cL_isTaken 10 = .ok (.if_icmp .ne 7, 3) := by decide +kernel
theorem dL_isTaken_13 : decode cL_isTaken 13 = .ok (.iconst 1, 1) := by decide +kernel
theorem dL_isTaken_14 : decode cL_isTaken 14 = .ok (.goto 4, 3) := by decide +kernel
theorem dL_isTaken_17 : decode cL_isTaken 17 = .ok (.iconst 0, 1) := by decide +kernel
theorem dL_isTaken_18 : decode cL_isTaken 18 = .ok (.istore_n 1, 1) := by decide +kernel
theorem dL_isTaken_19 : decode cL_isTaken 19 = .ok (.aload_n 0, 1) := by decide +kernel
theorem dL_isTaken_20 : decode cL_isTaken 20 = .ok (.iconst 1, 1) := by decide +kernel
theorem dL_isTaken_21 : decode cL_isTaken 21 = .ok (.invokevirtual 13, 3) := by decide +kernel
theorem dL_isTaken_24 : decode cL_isTaken 24 = .ok (.bipush 6, 2) := by decide +kernel
theorem dL_isTaken_26 : decode cL_isTaken 26 = .ok (.if_icmp .ne 21, 3) := by decide +kernel
theorem dL_isTaken_29 : decode cL_isTaken 29 = .ok (.iload_n 1, 1) := by decide +kernel
theorem dL_isTaken_30 : decode cL_isTaken 30 = .ok (.ifCond .eq 15, 3) := by decide +kernel
theorem dL_isTaken_33 : decode cL_isTaken 33 = .ok (.aload_n 0, 1) := by decide +kernel
theorem dL_isTaken_34 : decode cL_isTaken 34 = .ok (.invokevirtual 59, 3) := by decide +kernel
theorem dL_isTaken_37 : decode cL_isTaken 37 = .ok (.iconst 5, 1) := by decide +kernel
theorem dL_isTaken_38 : decode cL_isTaken 38 = .ok (.if_icmp .ne 7, 3) := by decide +kernel
theorem dL_isTaken_41 : decode cL_isTaken 41 = .ok (.iconst 1, 1) := by decide +kernel
theorem dL_isTaken_42 : decode cL_isTaken 42 = .ok (.goto 4, 3) := by decide +kernel
theorem dL_isTaken_45 : decode cL_isTaken 45 = .ok (.iconst 0, 1) := by decide +kernel
theorem dL_isTaken_46 : decode cL_isTaken 46 = .ok (.istore_n 1, 1) := by decide +kernel
theorem dL_isTaken_47 : decode cL_isTaken 47 = .ok (.aload_n 0, 1) := by decide +kernel
theorem dL_isTaken_48 : decode cL_isTaken 48 = .ok (.invokevirtual 63, 3) := by decide +kernel
theorem dL_isTaken_51 : decode cL_isTaken 51 = .ok (.istore_n 2, 1) := by decide +kernel
theorem dL_isTaken_52 : decode cL_isTaken 52 = .ok (.aload_n 0, 1) := by decide +kernel
theorem dL_isTaken_53 : decode cL_isTaken 53 = .ok (.iconst 2, 1) := by decide +kernel
theorem dL_isTaken_54 : decode cL_isTaken 54 = .ok (.iconst 1, 1) := by decide +kernel
theorem dL_isTaken_55 : decode cL_isTaken 55 = .ok (.invokevirtual 53, 3) := by decide +kernel
theorem dL_isTaken_58 : decode cL_isTaken 58 = .ok (.istore_n 3, 1) := by decide +kernel
theorem dL_isTaken_59 : decode cL_isTaken 59 = .ok (.iconst 0, 1) := by decide +kernel
theorem dL_isTaken_60 : decode cL_isTaken 60 = .ok (.istore 4, 2) := by decide +kernel
theorem dL_isTaken_62 : decode cL_isTaken 62 = .ok (.iload 4, 2) := by decide +kernel
theorem dL_isTaken_64 : decode cL_isTaken 64 = .ok (.bipush 16, 2) := by decide +kernel
theorem dL_isTaken_66 : decode cL_isTaken 66 = .ok (.if_icmp .ge 57, 3) := by decide +kernel
theorem dL_isTaken_69 : decode cL_isTaken 69 = .ok (.iload_n 1, 1) := by decide +kernel
theorem dL_isTaken_70 : decode cL_isTaken 70 = .ok (.ifCond .eq 45, 3) := by decide +kernel
theorem dL_isTaken_73 : decode cL_isTaken 73 = .ok (.aload_n 0, 1) := by decide +kernel
theorem dL_isTaken_74 : decode cL_isTaken 74 = .ok (.iload_n 2, 1) := by decide +kernel
theorem dL_isTaken_75 : decode cL_isTaken 75 = .ok (.iload 4, 2) := by decide +kernel
theorem dL_isTaken_77 : decode cL_isTaken 77 = .ok (.iconst 0, 1) := by decide +kernel
theorem dL_isTaken_78 : decode cL_isTaken 78 = .ok (.iconst 5, 1) := by decide +kernel
theorem dL_isTaken_79 : decode cL_isTaken 79 = .ok (.invokevirtual 26, 3) := by decide +kernel
theorem dL_isTaken_82 : decode cL_isTaken 82 = .ok (.aload_n 0, 1) := by decide +kernel
theorem dL_isTaken_83 : decode cL_isTaken 83 = .ok (.iload 4, 2) := by decide +kernel
theorem dL_isTaken_85 : decode cL_isTaken 85 = .ok (.iconst 0, 1) := by decide +kernel
theorem dL_isTaken_86 : decode cL_isTaken 86 = .ok (.invokevirtual 19, 3) := by decide +kernel
theorem dL_isTaken_89 : decode cL_isTaken 89 = .ok (.if_icmp .ne 26, 3) := by decide +kernel
theorem dL_isTaken_92 : decode cL_isTaken 92 = .ok (.aload_n 0, 1) := by decide +kernel
theorem dL_isTaken_93 : decode cL_isTaken 93 = .ok (.iload_n 2, 1) := by decide +kernel
theorem dL_isTaken_94 : decode cL_isTaken 94 = .ok (.iload 4, 2) := by decide +kernel
theorem dL_isTaken_96 : decode cL_isTaken 96 = .ok (.iconst 1, 1) := by decide +kernel
theorem dL_isTaken_97 : decode cL_isTaken 97 = .ok (.iconst 5, 1) := by decide +kernel
theorem dL_isTaken_98 : decode cL_isTaken 98 = .ok (.invokevirtual 26, 3) := by decide +kernel
theorem dL_isTaken_101 : decode cL_isTaken 101 = .ok (.aload_n 0, 1) := by decide +kernel
theorem dL_isTaken_102 : decode cL_isTaken 102 = .ok (.iload 4, 2) := by decide +kernel
theorem dL_isTaken_104 : decode cL_isTaken 104 = .ok (.iconst 1, 1) := by decide +kernel
theorem dL_isTaken_105 : decode cL_isTaken 105 = .ok (.invokevirtual 19, 3) := by decide +kernel
theorem dL_isTaken_108 : decode cL_isTaken 108 = .ok (.if_icmp .ne 7, 3) := by decide +kernel
theorem dL_isTaken_111 : decode cL_isTaken 111 = .ok (.iconst 1, 1) := by decide +kernel
theorem dL_isTaken_112 : decode cL_isTaken 112 = .ok (.goto 4, 3) := by decide +kernel
theorem dL_isTaken_115 : decode cL_isTaken 115 = .ok (.iconst 0, 1) := by decide +kernel
theorem dL_isTaken_116 : decode cL_isTaken 116 = .ok (.istore_n 1, 1) := by decide +kernel
theorem dL_isTaken_117 : decode cL_isTaken 117 = .ok (.iinc 4 1, 3) := by decide +kernel
theorem dL_isTaken_120 : decode cL_isTaken 120 = .ok (.goto (-58), 3) := by decide +kernel
theorem dL_isTaken_123 : decode cL_isTaken 123 = .ok (.iload_n 1, 1) := by decide +kernel
theorem dL_isTaken_124 : decode cL_isTaken 124 = .ok (.ifCond .eq 55, 3) := by decide +kernel
theorem dL_isTaken_127 : decode cL_isTaken 127 = .ok (.iload_n 3, 1) := by decide +kernel
theorem dL_isTaken_128 : decode cL_isTaken 128 = .ok (.ifCond .lt 51, 3) := by decide +kernel
theorem dL_isTaken_131 : decode cL_isTaken 131 = .ok (.aload_n 0, 1) := by decide +kernel
theorem dL_isTaken_132 : decode cL_isTaken 132 = .ok (.iload_n 2, 1) := by decide +kernel
theorem dL_isTaken_133 : decode cL_isTaken 133 = .ok (.iconst 3, 1) := by decide +kernel
theorem dL_isTaken_134 : decode cL_isTaken 134 = .ok (.invokevirtual 23, 3) := by decide +kernel
theorem dL_isTaken_137 : decode cL_isTaken 137 = .ok (.ifCond .ne 42, 3) := by decide +kernel
theorem dL_isTaken_140 : decode cL_isTaken 140 = .ok (.aload_n 0, 1) := by decide +kernel
theorem dL_isTaken_141 : decode cL_isTaken 141 = .ok (.iload_n 2, 1) := by decide +kernel
theorem dL_isTaken_142 : decode cL_isTaken 142 = .ok (.iconst 0, 1) := by decide +kernel
theorem dL_isTaken_143 : decode cL_isTaken 143 = .ok (.invokevirtual 75, 3) := by decide +kernel
theorem dL_isTaken_146 : decode cL_isTaken 146 = .ok (.dconst 0, 1) := by decide +kernel
theorem dL_isTaken_147 : decode cL_isTaken 147 = .ok (.dcmp .l, 1) := by decide +kernel
theorem dL_isTaken_148 : decode cL_isTaken 148 = .ok (.ifCond .ne 31, 3) := by decide +kernel
theorem dL_isTaken_151 : decode cL_isTaken 151 = .ok (.aload_n 0, 1) := by decide +kernel
theorem dL_isTaken_152 : decode cL_isTaken 152 = .ok (.iload_n 2, 1) := by decide +kernel
theorem dL_isTaken_153 : decode cL_isTaken 153 = .ok (.iconst 1, 1) := by decide +kernel
theorem dL_isTaken_154 : decode cL_isTaken 154 = .ok (.invokevirtual 75, 3) := by decide +kernel
theorem dL_isTaken_157 : decode cL_isTaken 157 = .ok (.dconst 0, 1) := by decide +kernel
theorem dL_isTaken_158 : decode cL_isTaken 158 = .ok (.dcmp .l, 1) := by decide +kernel
theorem dL_isTaken_159 : decode cL_isTaken 159 = .ok (.ifCond .ne 20, 3) := by decide +kernel
theorem dL_isTaken_162 : decode cL_isTaken 162 = .ok (.aload_n 0, 1) := by decide +kernel
theorem dL_isTaken_163 : decode cL_isTaken 163 = .ok (.iconst 1, 1) := by decide +kernel
theorem dL_isTaken_164 : decode cL_isTaken 164 = .ok (.invokevirtual 66, 3) := by decide +kernel
theorem dL_isTaken_167 : decode cL_isTaken 167 = .ok (.aload_n 0, 1) := by decide +kernel
theorem dL_isTaken_168 : decode cL_isTaken 168 = .ok (.iconst 1, 1) := by decide +kernel
theorem dL_isTaken_169 : decode cL_isTaken 169 = .ok (.invokevirtual 13, 3) := by decide +kernel
theorem dL_isTaken_172 : decode cL_isTaken 172 = .ok (.if_icmp .ne 7, 3) := by decide +kernel
theorem dL_isTaken_175 : decode cL_isTaken 175 = .ok (.iconst 1, 1) := by decide +kernel
theorem dL_isTaken_176 : decode cL_isTaken 176 = .ok (.goto 4, 3) := by decide +kernel
theorem dL_isTaken_179 : decode cL_isTaken 179 = .ok (.iconst 0, 1) := by decide +kernel
theorem dL_isTaken_180 : decode cL_isTaken 180 = .ok (.ireturn, 1) := by decide +kernel
theorem dL_areMoved_0 : decode cL_areMoved 0 = .ok (.iconst 0, 1) := by decide +kernel
theorem dL_areMoved_1 : decode cL_areMoved 1 = .ok (.istore 5, 2) := by decide +kernel
theorem dL_areMoved_3 : decode cL_areMoved 3 = .ok (.aload_n 0, 1) := by decide +kernel
theorem dL_areMoved_4 : decode cL_areMoved 4 = .ok (.iload_n 1, 1) := by decide +kernel
theorem dL_areMoved_5 : decode cL_areMoved 5 = .ok (.iload_n 2, 1) := by decide +kernel
theorem dL_areMoved_6 : decode cL_areMoved 6 = .ok (.iload_n 3, 1) := by decide +kernel
theorem dL_areMoved_7 : decode cL_areMoved 7 = .ok (.iload 4, 2) := by decide +kernel
theorem dL_areMoved_9 : decode cL_areMoved 9 = .ok (.invokevirtual 82, 3) := by decide +kernel
theorem dL_areMoved_12 : decode cL_areMoved 12 = .ok (.istore 6, 2) := by decide +kernel
theorem dL_areMoved_14 : decode cL_areMoved 14 = .ok (.aload_n 0, 1) := by decide +kernel
theorem dL_areMoved_15 : decode cL_areMoved 15 = .ok (.iload_n 1, 1) := by decide +kernel
theorem dL_areMoved_16 : decode cL_areMoved 16 = .ok (.iload_n 2, 1) := by decide +kernel
theorem dL_areMoved_17 : decode cL_areMoved 17 = .ok (.iload_n 3, 1) := by decide +kernel
theorem dL_areMoved_18 : decode cL_areMoved 18 = .ok (.iload 4, 2) := by decide +kernel
theorem dL_areMoved_20 : decode cL_areMoved 20 = .ok (.iconst 1, 1) := by decide +kernel
theorem dL_areMoved_21 : decode cL_areMoved 21 = .ok (.iadd, 1) := by decide +kernel
theorem dL_areMoved_22 : decode cL_areMoved 22 = .ok (.invokevirtual 82, 3) := by decide +kernel
theorem dL_areMoved_25 : decode cL_areMoved 25 = .ok (.istore 7, 2) := by decide +kernel
theorem dL_areMoved_27 : decode cL_areMoved 27 = .ok (.iload 7, 2) := by decide +kernel
theorem dL_areMoved_29 : decode cL_areMoved 29 = .ok (.ifCond .lt 15, 3) := by decide +kernel
theorem dL_areMoved_32 : decode cL_areMoved 32 = .ok (.iload 6, 2) := by decide +kernel
theorem dL_areMoved_34 : decode cL_areMoved 34 = .ok (.ifCond .lt 14, 3) := by decide +kernel
theorem dL_areMoved_37 : decode cL_areMoved 37 = .ok (.iload 6, 2) := by decide +kernel
theorem dL_areMoved_39 : decode cL_areMoved 39 = .ok (.iload 7, 2) := by decide +kernel
theorem dL_areMoved_41 : decode cL_areMoved 41 = .ok (.if_icmp .gt 7, 3) := by decide +kernel
theorem dL_areMoved_44 : decode cL_areMoved 44 = .ok (.iconst 1, 1) := by decide +kernel
theorem dL_areMoved_45 : decode cL_areMoved 45 = .ok (.goto 4, 3) := by decide +kernel
theorem dL_areMoved_48 : decode cL_areMoved 48 = .ok (.iconst 0, 1) := by decide +kernel
theorem dL_areMoved_49 : decode cL_areMoved 49 = .ok (.istore 8, 2) := by decide +kernel
theorem dL_areMoved_51 : decode cL_areMoved 51 = .ok (.iconst 0, 1) := by decide +kernel
theorem dL_areMoved_52 : decode cL_areMoved 52 = .ok (.istore 9, 2) := by decide +kernel
theorem dL_areMoved_54 : decode cL_areMoved 54 = .ok (.iload 9, 2) := by decide +kernel
theorem dL_areMoved_56 : decode cL_areMoved 56 = .ok (.bipush 16, 2) := by decide +kernel
theorem dL_areMoved_58 : decode cL_areMoved 58 = .ok (.if_icmp .ge 107, 3) := by decide +kernel
theorem dL_areMoved_61 : decode cL_areMoved 61 = .ok (.aload_n 0, 1) := by decide +kernel
theorem dL_areMoved_62 : decode cL_areMoved 62 = .ok (.iload_n 1, 1) := by decide +kernel
theorem dL_areMoved_63 : decode cL_areMoved 63 = .ok (.iload_n 2, 1) := by decide +kernel
theorem dL_areMoved_64 : decode cL_areMoved 64 = .ok (.iload 9, 2) := by decide +kernel
theorem dL_areMoved_66 : decode cL_areMoved 66 = .ok (.iload_n 3, 1) := by decide +kernel
theorem dL_areMoved_67 : decode cL_areMoved 67 = .ok (.invokevirtual 85, 3) := by decide +kernel
theorem dL_areMoved_70 : decode cL_areMoved 70 = .ok (.istore 10, 2) := by decide +kernel
theorem dL_areMoved_72 : decode cL_areMoved 72 = .ok (.iload 5, 2) := by decide +kernel
theorem dL_areMoved_74 : decode cL_areMoved 74 = .ok (.ifCond .ne 24, 3) := by decide +kernel
theorem dL_areMoved_77 : decode cL_areMoved 77 = .ok (.aload_n 0, 1) := by decide +kernel
theorem dL_areMoved_78 : decode cL_areMoved 78 = .ok (.iload_n 1, 1) := by decide +kernel
theorem dL_areMoved_79 : decode cL_areMoved 79 = .ok (.iload 9, 2) := by decide +kernel
theorem dL_areMoved_81 : decode cL_areMoved 81 = .ok (.iload_n 3, 1) := by decide +kernel
theorem dL_areMoved_82 : decode cL_areMoved 82 = .ok (.iconst 5, 1) := by decide +kernel
theorem dL_areMoved_83 : decode cL_areMoved 83 = .ok (.invokevirtual 26, 3) := by decide +kernel
theorem dL_areMoved_86 : decode cL_areMoved 86 = .ok (.aload_n 0, 1) := by decide +kernel
theorem dL_areMoved_87 : decode cL_areMoved 87 = .ok (.iload_n 2, 1) := by decide +kernel
theorem dL_areMoved_88 : decode cL_areMoved 88 = .ok (.iload 9, 2) := by decide +kernel
theorem dL_areMoved_90 : decode cL_areMoved 90 = .ok (.iload_n 3, 1) := by decide +kernel
theorem dL_areMoved_91 : decode cL_areMoved 91 = .ok (.iconst 5, 1) := by decide +kernel
theorem dL_areMoved_92 : decode cL_areMoved 92 = .ok (.invokevirtual 26, 3) := by decide +kernel
theorem dL_areMoved_95 : decode cL_areMoved 95 = .ok (.if_icmp .eq 7, 3) := by decide +kernel
theorem dL_areMoved_98 : decode cL_areMoved 98 = .ok (.iconst 1, 1) := by decide +kernel
theorem dL_areMoved_99 : decode cL_areMoved 99 = .ok (.goto 4, 3) := by decide +kernel
theorem dL_areMoved_102 : decode cL_areMoved 102 = .ok (.iconst 0, 1) := by decide +kernel
theorem dL_areMoved_103 : decode cL_areMoved 103 = .ok (.istore 5, 2) := by decide +kernel
theorem dL_areMoved_105 : decode cL_areMoved 105 = .ok (.iload 8, 2) := by decide +kernel
theorem dL_areMoved_107 : decode cL_areMoved 107 = .ok (.ifCond .eq 49, 3) := by decide +kernel
theorem dL_areMoved_110 : decode cL_areMoved 110 = .ok (.iload 10, 2) := by decide +kernel
theorem dL_areMoved_112 : decode cL_areMoved 112 = .ok (.aload_n 0, 1) := by decide +kernel
theorem dL_areMoved_113 : decode cL_areMoved 113 = .ok (.iload_n 2, 1) := by decide +kernel
theorem dL_areMoved_114 : decode cL_areMoved 114 = .ok (.iload_n 1, 1) := by decide +kernel
theorem dL_areMoved_115 : decode cL_areMoved 115 = .ok (.iload 9, 2) := by decide +kernel
theorem dL_areMoved_117 : decode cL_areMoved 117 = .ok (.iload_n 3, 1) := by decide +kernel
theorem dL_areMoved_118 : decode cL_areMoved 118 = .ok (.invokevirtual 85, 3) := by decide +kernel
theorem dL_areMoved_121 : decode cL_areMoved 121 = .ok (.ineg, 1) := by decide +kernel
theorem dL_areMoved_122 : decode cL_areMoved 122 = .ok (.if_icmp .ne 34, 3) := by decide +kernel
theorem dL_areMoved_125 : decode cL_areMoved 125 = .ok (.iload 10, 2) := by decide +kernel
theorem dL_areMoved_127 : decode cL_areMoved 127 = .ok (.iload 4, 2) := by decide +kernel
theorem dL_areMoved_129 : decode cL_areMoved 129 = .ok (.if_icmp .ge 11, 3) := by decide +kernel
theorem dL_areMoved_132 : decode cL_areMoved 132 = .ok (.iload 10, 2) := by decide +kernel
theorem dL_areMoved_134 : decode cL_areMoved 134 = .ok (.iload 4, 2) := by decide +kernel
theorem dL_areMoved_136 : decode cL_areMoved 136 = .ok (.ineg, 1) := by decide +kernel
theorem dL_areMoved_137 : decode cL_areMoved 137 = .ok (.if_icmp .gt 15, 3) := by decide +kernel
theorem dL_areMoved_140 : decode cL_areMoved 140 = .ok (.iload 6, 2) := by decide +kernel
theorem dL_areMoved_142 : decode cL_areMoved 142 = .ok (.ifCond .lt 14, 3) := by decide +kernel
theorem dL_areMoved_145 : decode cL_areMoved 145 = .ok (.iload 6, 2) := by decide +kernel
theorem dL_areMoved_147 : decode cL_areMoved 147 = .ok (.iload 9, 2) := by decide +kernel
theorem dL_areMoved_149 : decode cL_areMoved 149 = .ok (.if_icmp .gt 7, 3) := by decide +kernel
theorem dL_areMoved_152 : decode cL_areMoved 152 = .ok (.iconst 1, 1) := by decide +kernel
theorem dL_areMoved_153 : decode cL_areMoved 153 = .ok (.goto 4, 3) := by decide +kernel
theorem dL_areMoved_156 : decode cL_areMoved 156 = .ok (.iconst 0, 1) := by decide +kernel
theorem dL_areMoved_157 : decode cL_areMoved 157 = .ok (.istore 8, 2) := by decide +kernel
theorem dL_areMoved_159 : decode cL_areMoved 159 = .ok (.iinc 9 1, 3) := by decide +kernel
theorem dL_areMoved_162 : decode cL_areMoved 162 = .ok (.goto (-108), 3) := by decide +kernel
theorem dL_areMoved_165 : decode cL_areMoved 165 = .ok (.iload 8, 2) := by decide +kernel
theorem dL_areMoved_167 : decode cL_areMoved 167 = .ok (.ifCond .eq 44, 3) := by decide +kernel
theorem dL_areMoved_170 : decode cL_areMoved 170 = .ok (.aload_n 0, 1) := by decide +kernel
theorem dL_areMoved_171 : decode cL_areMoved 171 = .ok (.iload_n 1, 1) := by decide +kernel
theorem dL_areMoved_172 : decode cL_areMoved 172 = .ok (.iload_n 2, 1) := by decide +kernel
theorem dL_areMoved_173 : decode cL_areMoved 173 = .ok (.iload_n 3, 1) := by decide +kernel
theorem dL_areMoved_174 : decode cL_areMoved 174 = .ok (.invokevirtual 88, 3) := by decide +kernel
theorem dL_areMoved_177 : decode cL_areMoved 177 = .ok (.ifCond .lt 7, 3) := by decide +kernel
theorem dL_areMoved_180 : decode cL_areMoved 180 = .ok (.iconst 1, 1) := by decide +kernel
theorem dL_areMoved_181 : decode cL_areMoved 181 = .ok (.goto 4, 3) := by decide +kernel
theorem dL_areMoved_184 : decode cL_areMoved 184 = .ok (.iconst 0, 1) := by decide +kernel
theorem dL_areMoved_185 : decode cL_areMoved 185 = .ok (.iload 5, 2) := by decide +kernel
theorem dL_areMoved_187 : decode cL_areMoved 187 = .ok (.if_icmp .ne 24, 3) := by decide +kernel
theorem dL_areMoved_190 : decode cL_areMoved 190 = .ok (.aload_n 0, 1) := by decide +kernel
theorem dL_areMoved_191 : decode cL_areMoved 191 = .ok (.iload_n 1, 1) := by decide +kernel
theorem dL_areMoved_192 : decode cL_areMoved 192 = .ok (.iload_n 2, 1) := by decide +kernel
theorem dL_areMoved_193 : decode cL_areMoved 193 = .ok (.iload_n 3, 1) := by decide +kernel
theorem dL_areMoved_194 : decode cL_areMoved 194 = .ok (.invokevirtual 88, 3) := by decide +kernel
theorem dL_areMoved_197 : decode cL_areMoved 197 = .ok (.aload_n 0, 1) := by decide +kernel
theorem dL_areMoved_198 : decode cL_areMoved 198 = .ok (.iload_n 2, 1) := by decide +kernel
theorem dL_areMoved_199 : decode cL_areMoved 199 = .ok (.iload_n 1, 1) := by decide +kernel
theorem dL_areMoved_200 : decode cL_areMoved 200 = .ok (.iload_n 3, 1) := by decide +kernel
theorem dL_areMoved_201 : decode cL_areMoved 201 = .ok (.invokevirtual 88, 3) := by decide +kernel
theorem dL_areMoved_204 : decode cL_areMoved 204 = .ok (.if_icmp .ne 7, 3) := by decide +kernel
theorem dL_areMoved_207 : decode cL_areMoved 207 = .ok (.iconst 1, 1) := by decide +kernel
theorem dL_areMoved_208 : decode cL_areMoved 208 = .ok (.goto 4, 3) := by decide +kernel
theorem dL_areMoved_211 : decode cL_areMoved 211 = .ok (.iconst 0, 1) := by decide +kernel
theorem dL_areMoved_212 : decode cL_areMoved 212 = .ok (.ireturn, 1) := by decide +kernel
theorem dL_isStill_0 : decode cL_isStill 0 = .ok (.aload_n 0, 1) := by decide +kernel
theorem dL_isStill_1 : decode cL_isStill 1 = .ok (.iload_n 1, 1) := by decide +kernel
theorem dL_isStill_2 : decode cL_isStill 2 = .ok (.iload_n 2, 1) := by decide +kernel
theorem dL_isStill_3 : decode cL_isStill 3 = .ok (.iconst 0, 1) := by decide +kernel
theorem dL_isStill_4 : decode cL_isStill 4 = .ok (.iconst 4, 1) := by decide +kernel
theorem dL_isStill_5 : decode cL_isStill 5 = .ok (.invokevirtual 26, 3) := by decide +kernel
theorem dL_isStill_8 : decode cL_isStill 8 = .ok (.istore 4, 2) := by decide +kernel
theorem dL_isStill_10 : decode cL_isStill 10 = .ok (.aload_n 0, 1) := by decide +kernel
theorem dL_isStill_11 : decode cL_isStill 11 = .ok (.iload_n 1, 1) := by decide +kernel
theorem dL_isStill_12 : decode cL_isStill 12 = .ok (.iload_n 2, 1) := by decide +kernel
theorem dL_isStill_13 : decode cL_isStill 13 = .ok (.iconst 1, 1) := by decide +kernel
theorem dL_isStill_14 : decode cL_isStill 14 = .ok (.iconst 4, 1) := by decide +kernel
theorem dL_isStill_15 : decode cL_isStill 15 = .ok (.invokevirtual 26, 3) := by decide +kernel
theorem dL_isStill_18 : decode cL_isStill 18 = .ok (.istore 5, 2) := by decide +kernel
theorem dL_isStill_20 : decode cL_isStill 20 = .ok (.aload_n 0, 1) := by decide +kernel
theorem dL_isStill_21 : decode cL_isStill 21 = .ok (.iload_n 2, 1) := by decide +kernel
theorem dL_isStill_22 : decode cL_isStill 22 = .ok (.iload_n 3, 1) := by decide +kernel
theorem dL_isStill_23 : decode cL_isStill 23 = .ok (.invokevirtual 47, 3) := by decide +kernel
theorem dL_isStill_26 : decode cL_isStill 26 = .ok (.ifCond .lt 40, 3) := by decide +kernel
theorem dL_isStill_29 : decode cL_isStill 29 = .ok (.aload_n 0, 1) := by decide +kernel
theorem dL_isStill_30 : decode cL_isStill 30 = .ok (.iload_n 1, 1) := by decide +kernel
theorem dL_isStill_31 : decode cL_isStill 31 = .ok (.iload_n 2, 1) := by decide +kernel
theorem dL_isStill_32 : decode cL_isStill 32 = .ok (.iconst 0, 1) := by decide +kernel
theorem dL_isStill_33 : decode cL_isStill 33 = .ok (.iconst 4, 1) := by decide +kernel
theorem dL_isStill_34 : decode cL_isStill 34 = .ok (.invokevirtual 26, 3) := by decide +kernel
theorem dL_isStill_37 : decode cL_isStill 37 = .ok (.iload 4, 2) := by decide +kernel
theorem dL_isStill_39 : decode cL_isStill 39 = .ok (.if_icmp .ne 27, 3) := by decide +kernel
theorem dL_isStill_42 : decode cL_isStill 42 = .ok (.aload_n 0, 1) := by decide +kernel
theorem dL_isStill_43 : decode cL_isStill 43 = .ok (.iload_n 1, 1) := by decide +kernel
theorem dL_isStill_44 : decode cL_isStill 44 = .ok (.iload_n 2, 1) := by decide +kernel
theorem dL_isStill_45 : decode cL_isStill 45 = .ok (.iconst 1, 1) := by decide +kernel
theorem dL_isStill_46 : decode cL_isStill 46 = .ok (.iconst 4, 1) := by decide +kernel
theorem dL_isStill_47 : decode cL_isStill 47 = .ok (.invokevirtual 26, 3) := by decide +kernel
theorem dL_isStill_50 : decode cL_isStill 50 = .ok (.iload 5, 2) := by decide +kernel
theorem dL_isStill_52 : decode cL_isStill 52 = .ok (.if_icmp .ne 14, 3) := by decide +kernel
theorem dL_isStill_55 : decode cL_isStill 55 = .ok (.aload_n 0, 1) := by decide +kernel
theorem dL_isStill_56 : decode cL_isStill 56 = .ok (.invokevirtual 91, 3) := by decide +kernel
theorem dL_isStill_59 : decode cL_isStill 59 = .ok (.ifCond .lt 7, 3) := by decide +kernel
theorem dL_isStill_62 : decode cL_isStill 62 = .ok (.iconst 1, 1) := by decide +kernel
theorem dL_isStill_63 : decode cL_isStill 63 = .ok (.goto 4, 3) := by decide +kernel
theorem dL_isStill_66 : decode cL_isStill 66 = .ok (.iconst 0, 1) := by decide +kernel
theorem dL_isStill_67 : decode cL_isStill 67 = .ok (.istore 6, 2) := by decide +kernel
theorem dL_isStill_69 : decode cL_isStill 69 = .ok (.iload 6, 2) := by decide +kernel
theorem dL_isStill_71 : decode cL_isStill 71 = .ok (.ifCond .eq 42, 3) := by decide +kernel
theorem dL_isStill_74 : decode cL_isStill 74 = .ok (.aload_n 0, 1) := by decide +kernel
theorem dL_isStill_75 : decode cL_isStill 75 = .ok (.iconst 2, 1) := by decide +kernel
theorem dL_isStill_76 : decode cL_isStill 76 = .ok (.iconst 1, 1) := by decide +kernel
theorem dL_isStill_77 : decode cL_isStill 77 = .ok (.aload_n 0, 1) := by decide +kernel
theorem dL_isStill_78 : decode cL_isStill 78 = .ok (.iconst 2, 1) := by decide +kernel
theorem dL_isStill_79 : decode cL_isStill 79 = .ok (.invokevirtual 32, 3) := by decide +kernel
theorem dL_isStill_82 : decode cL_isStill 82 = .ok (.isub, 1) := by decide +kernel
theorem dL_isStill_83 : decode cL_isStill 83 = .ok (.invokevirtual 53, 3) := by decide +kernel
theorem dL_isStill_86 : decode cL_isStill 86 = .ok (.ifCond .lt 27, 3) := by decide +kernel
theorem dL_isStill_89 : decode cL_isStill 89 = .ok (.aload_n 0, 1) := by decide +kernel
theorem dL_isStill_90 : decode cL_isStill 90 = .ok (.iload_n 1, 1) := by decide +kernel
theorem dL_isStill_91 : decode cL_isStill 91 = .ok (.iload_n 2, 1) := by decide +kernel
theorem dL_isStill_92 : decode cL_isStill 92 = .ok (.iconst 0, 1) := by decide +kernel
theorem dL_isStill_93 : decode cL_isStill 93 = .ok (.iconst 4, 1) := by decide +kernel
theorem dL_isStill_94 : decode cL_isStill 94 = .ok (.invokevirtual 26, 3) := by decide +kernel
theorem dL_isStill_97 : decode cL_isStill 97 = .ok (.iload 4, 2) := by decide +kernel
theorem dL_isStill_99 : decode cL_isStill 99 = .ok (.if_icmp .ne 14, 3) := by decide +kernel
theorem dL_isStill_102 : decode cL_isStill 102 = .ok (.aload_n 0, 1) := by decide +kernel
theorem dL_isStill_103 : decode cL_isStill 103 = .ok (.invokevirtual 91, 3) := by decide +kernel
theorem dL_isStill_106 : decode cL_isStill 106 = .ok (.ifCond .lt 7, 3) := by decide +kernel
theorem dL_isStill_109 : decode cL_isStill 109 = .ok (.iconst 1, 1) := by decide +kernel
theorem dL_isStill_110 : decode cL_isStill 110 = .ok (.goto 4, 3) := by decide +kernel
theorem dL_isStill_113 : decode cL_isStill 113 = .ok (.iconst 0, 1) := by decide +kernel
theorem dL_isStill_114 : decode cL_isStill 114 = .ok (.ireturn, 1) := by decide +kernel
theorem dL_law_0 : decode cL_law 0 = .ok (.new 14, 3) := by decide +kernel
theorem dL_law_3 : decode cL_law 3 = .ok (.dup, 1) := by decide +kernel
theorem dL_law_4 : decode cL_law 4 = .ok (.invokespecial 94, 3) := by decide +kernel
theorem dL_law_7 : decode cL_law 7 = .ok (.astore_n 1, 1) := by decide +kernel
theorem dL_law_8 : decode cL_law 8 = .ok (.aload_n 1, 1) := by decide +kernel
theorem dL_law_9 : decode cL_law 9 = .ok (.iconst 0, 1) := by decide +kernel
theorem dL_law_10 : decode cL_law 10 = .ok (.invokevirtual 79, 3) := by decide +kernel
theorem dL_law_13 : decode cL_law 13 = .ok (.ifCond .ne 15, 3) := by decide +kernel
theorem dL_law_16 : decode cL_law 16 = .ok (.aload_n 1, 1) := by decide +kernel
theorem dL_law_17 : decode cL_law 17 = .ok (.iconst 1, 1) := by decide +kernel
theorem dL_law_18 : decode cL_law 18 = .ok (.invokevirtual 13, 3) := by decide +kernel
theorem dL_law_21 : decode cL_law 21 = .ok (.ifCond .ne 7, 3) := by decide +kernel
theorem dL_law_24 : decode cL_law 24 = .ok (.iconst 1, 1) := by decide +kernel
theorem dL_law_25 : decode cL_law 25 = .ok (.goto 4, 3) := by decide +kernel
theorem dL_law_28 : decode cL_law 28 = .ok (.iconst 0, 1) := by decide +kernel
theorem dL_law_29 : decode cL_law 29 = .ok (.istore_n 2, 1) := by decide +kernel
theorem dL_law_30 : decode cL_law 30 = .ok (.iconst 0, 1) := by decide +kernel
theorem dL_law_31 : decode cL_law 31 = .ok (.istore_n 3, 1) := by decide +kernel
theorem dL_law_32 : decode cL_law 32 = .ok (.iload_n 3, 1) := by decide +kernel
theorem dL_law_33 : decode cL_law 33 = .ok (.bipush 48, 2) := by decide +kernel
theorem dL_law_35 : decode cL_law 35 = .ok (.if_icmp .ge 367, 3) := by decide +kernel
theorem dL_law_38 : decode cL_law 38 = .ok (.iload_n 2, 1) := by decide +kernel
theorem dL_law_39 : decode cL_law 39 = .ok (.ifCond .eq 363, 3) := by decide +kernel
theorem dL_law_42 : decode cL_law 42 = .ok (.aload_n 0, 1) := by decide +kernel
theorem dL_law_43 : decode cL_law 43 = .ok (.iconst 2, 1) := by decide +kernel
theorem dL_law_44 : decode cL_law 44 = .ok (.iload_n 3, 1) := by decide +kernel
theorem dL_law_45 : decode cL_law 45 = .ok (.imul, 1) := by decide +kernel
theorem dL_law_46 : decode cL_law 46 = .ok (.invokestatic 95, 3) := by decide +kernel
theorem dL_law_49 : decode cL_law 49 = .ok (.istore 4, 2) := by decide +kernel
theorem dL_law_51 : decode cL_law 51 = .ok (.aload_n 0, 1) := by decide +kernel
theorem dL_law_52 : decode cL_law 52 = .ok (.iconst 2, 1) := by decide +kernel
theorem dL_law_53 : decode cL_law 53 = .ok (.iload_n 3, 1) := by decide +kernel
theorem dL_law_54 : decode cL_law 54 = .ok (.imul, 1) := by decide +kernel
theorem dL_law_55 : decode cL_law 55 = .ok (.iconst 1, 1) := by decide +kernel
theorem dL_law_56 : decode cL_law 56 = .ok (.iadd, 1) := by decide +kernel
theorem dL_law_57 : decode cL_law 57 = .ok (.invokestatic 95, 3) := by decide +kernel
theorem dL_law_60 : decode cL_law 60 = .ok (.istore 5, 2) := by decide +kernel
theorem dL_law_62 : decode cL_law 62 = .ok (.aload_n 1, 1) := by decide +kernel
theorem dL_law_63 : decode cL_law 63 = .ok (.invokestatic 99, 3) := by decide +kernel
theorem dL_law_66 : decode cL_law 66 = .ok (.lstore 6, 2) := by decide +kernel
theorem dL_law_68 : decode cL_law 68 = .ok (.aload_n 1, 1) := by decide +kernel
theorem dL_law_69 : decode cL_law 69 = .ok (.bipush 7, 2) := by decide +kernel
theorem dL_law_71 : decode cL_law 71 = .ok (.invokevirtual 13, 3) := by decide +kernel
theorem dL_law_74 : decode cL_law 74 = .ok (.istore 8, 2) := by decide +kernel
theorem dL_law_76 : decode cL_law 76 = .ok (.aload_n 1, 1) := by decide +kernel
theorem dL_law_77 : decode cL_law 77 = .ok (.iload 4, 2) := by decide +kernel
theorem dL_law_79 : decode cL_law 79 = .ok (.iload 5, 2) := by decide +kernel
theorem dL_law_81 : decode cL_law 81 = .ok (.invokestatic 103, 3) := by decide +kernel
theorem dL_law_84 : decode cL_law 84 = .ok (.istore 9, 2) := by decide +kernel
theorem dL_law_86 : decode cL_law 86 = .ok (.iload 9, 2) := by decide +kernel
theorem dL_law_88 : decode cL_law 88 = .ok (.ifCond .lt 32, 3) := by decide +kernel
theorem dL_law_91 : decode cL_law 91 = .ok (.aload_n 1, 1) := by decide +kernel
theorem dL_law_92 : decode cL_law 92 = .ok (.bipush 7, 2) := by decide +kernel
theorem dL_law_94 : decode cL_law 94 = .ok (.invokevirtual 13, 3) := by decide +kernel
theorem dL_law_97 : decode cL_law 97 = .ok (.iload 8, 2) := by decide +kernel
theorem dL_law_99 : decode cL_law 99 = .ok (.bipush 6, 2) := by decide +kernel
theorem dL_law_101 : decode cL_law 101 = .ok (.if_icmp .ge 10, 3) := by decide +kernel
theorem dL_law_104 : decode cL_law 104 = .ok (.iload 8, 2) := by decide +kernel
theorem dL_law_106 : decode cL_law 106 = .ok (.iconst 1, 1) := by decide +kernel
theorem dL_law_107 : decode cL_law 107 = .ok (.iadd, 1) := by decide +kernel
theorem dL_law_108 : decode cL_law 108 = .ok (.goto 5, 3) := by decide +kernel
theorem dL_law_111 : decode cL_law 111 = .ok (.bipush 6, 2) := by decide +kernel
theorem dL_law_113 : decode cL_law 113 = .ok (.if_icmp .ne 7, 3) := by decide +kernel
theorem dL_law_116 : decode cL_law 116 = .ok (.iconst 1, 1) := by decide +kernel
theorem dL_law_117 : decode cL_law 117 = .ok (.goto 4, 3) := by decide +kernel
theorem dL_law_120 : decode cL_law 120 = .ok (.iconst 0, 1) := by decide +kernel
theorem dL_law_121 : decode cL_law 121 = .ok (.istore_n 2, 1) := by decide +kernel
theorem dL_law_122 : decode cL_law 122 = .ok (.iload_n 2, 1) := by decide +kernel
theorem dL_law_123 : decode cL_law 123 = .ok (.ifCond .eq 77, 3) := by decide +kernel
theorem dL_law_126 : decode cL_law 126 = .ok (.iload 4, 2) := by decide +kernel
theorem dL_law_128 : decode cL_law 128 = .ok (.bipush 8, 2) := by decide +kernel
theorem dL_law_130 : decode cL_law 130 = .ok (.ishr, 1) := by decide +kernel
theorem dL_law_131 : decode cL_law 131 = .ok (.iconst 3, 1) := by decide +kernel
theorem dL_law_132 : decode cL_law 132 = .ok (.iand, 1) := by decide +kernel
theorem dL_law_133 : decode cL_law 133 = .ok (.ifCond .ne 67, 3) := by decide +kernel
theorem dL_law_136 : decode cL_law 136 = .ok (.aload_n 1, 1) := by decide +kernel
theorem dL_law_137 : decode cL_law 137 = .ok (.invokestatic 99, 3) := by decide +kernel
theorem dL_law_140 : decode cL_law 140 = .ok (.lstore 10, 2) := by decide +kernel
theorem dL_law_142 : decode cL_law 142 = .ok (.aload_n 1, 1) := by decide +kernel
theorem dL_law_143 : decode cL_law 143 = .ok (.bipush 7, 2) := by decide +kernel
theorem dL_law_145 : decode cL_law 145 = .ok (.invokevirtual 13, 3) := by decide +kernel
theorem dL_law_148 : decode cL_law 148 = .ok (.iconst 1, 1) := by decide +kernel
theorem dL_law_149 : decode cL_law 149 = .ok (.isub, 1) := by decide +kernel
theorem dL_law_150 : decode cL_law 150 = .ok (.istore 12, 2) := by decide +kernel
theorem dL_law_152 : decode cL_law 152 = .ok (.aload_n 1, 1) := by decide +kernel
theorem dL_law_153 : decode cL_law 153 = .ok (.invokevirtual 91, 3) := by decide +kernel
theorem dL_law_156 : decode cL_law 156 = .ok (.iload 12, 2) := by decide +kernel
theorem dL_law_158 : decode cL_law 158 = .ok (.if_icmp .ne 40, 3) := by decide +kernel
theorem dL_law_161 : decode cL_law 161 = .ok (.aload_n 1, 1) := by decide +kernel
theorem dL_law_162 : decode cL_law 162 = .ok (.invokestatic 99, 3) := by decide +kernel
theorem dL_law_165 : decode cL_law 165 = .ok (.lload 6, 2) := by decide +kernel
theorem dL_law_167 : decode cL_law 167 = .ok (.lcmp, 1) := by decide +kernel
theorem dL_law_168 : decode cL_law 168 = .ok (.ifCond .ne 30, 3) := by decide +kernel
theorem dL_law_171 : decode cL_law 171 = .ok (.aload_n 1, 1) := by decide +kernel
theorem dL_law_172 : decode cL_law 172 = .ok (.iload 4, 2) := by decide +kernel
theorem dL_law_174 : decode cL_law 174 = .ok (.iload 5, 2) := by decide +kernel
theorem dL_law_176 : decode cL_law 176 = .ok (.invokestatic 103, 3) := by decide +kernel
theorem dL_law_179 : decode cL_law 179 = .ok (.iload 9, 2) := by decide +kernel
theorem dL_law_181 : decode cL_law 181 = .ok (.if_icmp .ne 17, 3) := by decide +kernel
theorem dL_law_184 : decode cL_law 184 = .ok (.aload_n 1, 1) := by decide +kernel
theorem dL_law_185 : decode cL_law 185 = .ok (.invokestatic 99, 3) := by decide +kernel
theorem dL_law_188 : decode cL_law 188 = .ok (.lload 10, 2) := by decide +kernel
theorem dL_law_190 : decode cL_law 190 = .ok (.lcmp, 1) := by decide +kernel
theorem dL_law_191 : decode cL_law 191 = .ok (.ifCond .ne 7, 3) := by decide +kernel
theorem dL_law_194 : decode cL_law 194 = .ok (.iconst 1, 1) := by decide +kernel
theorem dL_law_195 : decode cL_law 195 = .ok (.goto 4, 3) := by decide +kernel
theorem dL_law_198 : decode cL_law 198 = .ok (.iconst 0, 1) := by decide +kernel
theorem dL_law_199 : decode cL_law 199 = .ok (.istore_n 2, 1) := by decide +kernel
theorem dL_law_200 : decode cL_law 200 = .ok (.aload_n 1, 1) := by decide +kernel
theorem dL_law_201 : decode cL_law 201 = .ok (.iconst 1, 1) := by decide +kernel
theorem dL_law_202 : decode cL_law 202 = .ok (.invokevirtual 13, 3) := by decide +kernel
theorem dL_law_205 : decode cL_law 205 = .ok (.istore 10, 2) := by decide +kernel
theorem dL_law_207 : decode cL_law 207 = .ok (.iload_n 2, 1) := by decide +kernel
theorem dL_law_208 : decode cL_law 208 = .ok (.ifCond .eq 139, 3) := by decide +kernel
theorem dL_law_211 : decode cL_law 211 = .ok (.aload_n 1, 1) := by decide +kernel
theorem dL_law_212 : decode cL_law 212 = .ok (.iload 4, 2) := by decide +kernel
theorem dL_law_214 : decode cL_law 214 = .ok (.iconst 4, 1) := by decide +kernel
theorem dL_law_215 : decode cL_law 215 = .ok (.ishr, 1) := by decide +kernel
theorem dL_law_216 : decode cL_law 216 = .ok (.bipush 16, 2) := by decide +kernel
theorem dL_law_218 : decode cL_law 218 = .ok (.invokestatic 35, 3) := by decide +kernel
theorem dL_law_221 : decode cL_law 221 = .ok (.invokestatic 107, 3) := by decide +kernel
theorem dL_law_224 : decode cL_law 224 = .ok (.ifCond .eq 123, 3) := by decide +kernel
theorem dL_law_227 : decode cL_law 227 = .ok (.iload 10, 2) := by decide +kernel
theorem dL_law_229 : decode cL_law 229 = .ok (.bipush 6, 2) := by decide +kernel
theorem dL_law_231 : decode cL_law 231 = .ok (.if_icmp .gt 116, 3) := by decide +kernel
theorem dL_law_234 : decode cL_law 234 = .ok (.iload 10, 2) := by decide +kernel
theorem dL_law_236 : decode cL_law 236 = .ok (.aload_n 1, 1) := by decide +kernel
theorem dL_law_237 : decode cL_law 237 = .ok (.iconst 4, 1) := by decide +kernel
theorem dL_law_238 : decode cL_law 238 = .ok (.invokevirtual 13, 3) := by decide +kernel
theorem dL_law_241 : decode cL_law 241 = .ok (.if_icmp .gt 106, 3) := by decide +kernel
theorem dL_law_244 : decode cL_law 244 = .ok (.iload 10, 2) := by decide +kernel
theorem dL_law_246 : decode cL_law 246 = .ok (.ifCond .eq 97, 3) := by decide +kernel
theorem dL_law_249 : decode cL_law 249 = .ok (.aload_n 1, 1) := by decide +kernel
theorem dL_law_250 : decode cL_law 250 = .ok (.iload 4, 2) := by decide +kernel
theorem dL_law_252 : decode cL_law 252 = .ok (.iconst 5, 1) := by decide +kernel
theorem dL_law_253 : decode cL_law 253 = .ok (.ishr, 1) := by decide +kernel
theorem dL_law_254 : decode cL_law 254 = .ok (.iload 10, 2) := by decide +kernel
theorem dL_law_256 : decode cL_law 256 = .ok (.invokestatic 35, 3) := by decide +kernel
theorem dL_law_259 : decode cL_law 259 = .ok (.invokestatic 111, 3) := by decide +kernel
theorem dL_law_262 : decode cL_law 262 = .ok (.ifCond .eq 85, 3) := by decide +kernel
theorem dL_law_265 : decode cL_law 265 = .ok (.aload_n 1, 1) := by decide +kernel
theorem dL_law_266 : decode cL_law 266 = .ok (.iload 4, 2) := by decide +kernel
theorem dL_law_268 : decode cL_law 268 = .ok (.bipush 6, 2) := by decide +kernel
theorem dL_law_270 : decode cL_law 270 = .ok (.ishr, 1) := by decide +kernel
theorem dL_law_271 : decode cL_law 271 = .ok (.iload 10, 2) := by decide +kernel
theorem dL_law_273 : decode cL_law 273 = .ok (.invokestatic 35, 3) := by decide +kernel
theorem dL_law_276 : decode cL_law 276 = .ok (.iload 4, 2) := by decide +kernel
theorem dL_law_278 : decode cL_law 278 = .ok (.bipush 9, 2) := by decide +kernel
theorem dL_law_280 : decode cL_law 280 = .ok (.ishr, 1) := by decide +kernel
theorem dL_law_281 : decode cL_law 281 = .ok (.iload 10, 2) := by decide +kernel
theorem dL_law_283 : decode cL_law 283 = .ok (.invokestatic 35, 3) := by decide +kernel
theorem dL_law_286 : decode cL_law 286 = .ok (.iload 5, 2) := by decide +kernel
theorem dL_law_288 : decode cL_law 288 = .ok (.iconst 1, 1) := by decide +kernel
theorem dL_law_289 : decode cL_law 289 = .ok (.iand, 1) := by decide +kernel
theorem dL_law_290 : decode cL_law 290 = .ok (.iconst 1, 1) := by decide +kernel
theorem dL_law_291 : decode cL_law 291 = .ok (.iload 4, 2) := by decide +kernel
theorem dL_law_293 : decode cL_law 293 = .ok (.bipush 11, 2) := by decide +kernel
theorem dL_law_295 : decode cL_law 295 = .ok (.ishr, 1) := by decide +kernel
theorem dL_law_296 : decode cL_law 296 = .ok (.bipush 60, 2) := by decide +kernel
theorem dL_law_298 : decode cL_law 298 = .ok (.invokestatic 35, 3) := by decide +kernel
theorem dL_law_301 : decode cL_law 301 = .ok (.iadd, 1) := by decide +kernel
theorem dL_law_302 : decode cL_law 302 = .ok (.invokestatic 114, 3) := by decide +kernel
theorem dL_law_305 : decode cL_law 305 = .ok (.ifCond .eq 42, 3) := by decide +kernel
theorem dL_law_308 : decode cL_law 308 = .ok (.aload_n 1, 1) := by decide +kernel
theorem dL_law_309 : decode cL_law 309 = .ok (.iload 4, 2) := by decide +kernel
theorem dL_law_311 : decode cL_law 311 = .ok (.bipush 7, 2) := by decide +kernel
theorem dL_law_313 : decode cL_law 313 = .ok (.ishr, 1) := by decide +kernel
theorem dL_law_314 : decode cL_law 314 = .ok (.iload 10, 2) := by decide +kernel
theorem dL_law_316 : decode cL_law 316 = .ok (.invokestatic 35, 3) := by decide +kernel
theorem dL_law_319 : decode cL_law 319 = .ok (.iload 4, 2) := by decide +kernel
theorem dL_law_321 : decode cL_law 321 = .ok (.bipush 10, 2) := by decide +kernel
theorem dL_law_323 : decode cL_law 323 = .ok (.ishr, 1) := by decide +kernel
theorem dL_law_324 : decode cL_law 324 = .ok (.bipush 16, 2) := by decide +kernel
theorem dL_law_326 : decode cL_law 326 = .ok (.invokestatic 35, 3) := by decide +kernel
theorem dL_law_329 : decode cL_law 329 = .ok (.iload 5, 2) := by decide +kernel
theorem dL_law_331 : decode cL_law 331 = .ok (.iconst 3, 1) := by decide +kernel
theorem dL_law_332 : decode cL_law 332 = .ok (.ishr, 1) := by decide +kernel
theorem dL_law_333 : decode cL_law 333 = .ok (.iconst 4, 1) := by decide +kernel
theorem dL_law_334 : decode cL_law 334 = .ok (.invokestatic 35, 3) := by decide +kernel
theorem dL_law_337 : decode cL_law 337 = .ok (.invokestatic 118, 3) := by decide +kernel
theorem dL_law_340 : decode cL_law 340 = .ok (.ifCond .eq 7, 3) := by decide +kernel
theorem dL_law_343 : decode cL_law 343 = .ok (.iconst 1, 1) := by decide +kernel
theorem dL_law_344 : decode cL_law 344 = .ok (.goto 4, 3) := by decide +kernel
theorem dL_law_347 : decode cL_law 347 = .ok (.iconst 0, 1) := by decide +kernel
theorem dL_law_348 : decode cL_law 348 = .ok (.istore_n 2, 1) := by decide +kernel
theorem dL_law_349 : decode cL_law 349 = .ok (.iload_n 2, 1) := by decide +kernel
theorem dL_law_350 : decode cL_law 350 = .ok (.ifCond .eq 44, 3) := by decide +kernel
theorem dL_law_353 : decode cL_law 353 = .ok (.iload_n 3, 1) := by decide +kernel
theorem dL_law_354 : decode cL_law 354 = .ok (.bipush 7, 2) := by decide +kernel
theorem dL_law_356 : decode cL_law 356 = .ok (.irem, 1) := by decide +kernel
theorem dL_law_357 : decode cL_law 357 = .ok (.iconst 3, 1) := by decide +kernel
theorem dL_law_358 : decode cL_law 358 = .ok (.if_icmp .ne 10, 3) := by decide +kernel
theorem dL_law_361 : decode cL_law 361 = .ok (.aload_n 1, 1) := by decide +kernel
theorem dL_law_362 : decode cL_law 362 = .ok (.invokestatic 122, 3) := by decide +kernel
theorem dL_law_365 : decode cL_law 365 = .ok (.ifCond .eq 29, 3) := by decide +kernel
theorem dL_law_368 : decode cL_law 368 = .ok (.iload_n 3, 1) := by decide +kernel
theorem dL_law_369 : decode cL_law 369 = .ok (.bipush 11, 2) := by decide +kernel
theorem dL_law_371 : decode cL_law 371 = .ok (.irem, 1) := by decide +kernel
theorem dL_law_372 : decode cL_law 372 = .ok (.bipush 8, 2) := by decide +kernel
theorem dL_law_374 : decode cL_law 374 = .ok (.if_icmp .ne 16, 3) := by decide +kernel
theorem dL_law_377 : decode cL_law 377 = .ok (.aload_n 1, 1) := by decide +kernel
theorem dL_law_378 : decode cL_law 378 = .ok (.iconst 0, 1) := by decide +kernel
theorem dL_law_379 : decode cL_law 379 = .ok (.invokevirtual 79, 3) := by decide +kernel
theorem dL_law_382 : decode cL_law 382 = .ok (.aload_n 1, 1) := by decide +kernel
theorem dL_law_383 : decode cL_law 383 = .ok (.iconst 1, 1) := by decide +kernel
theorem dL_law_384 : decode cL_law 384 = .ok (.invokevirtual 13, 3) := by decide +kernel
theorem dL_law_387 : decode cL_law 387 = .ok (.if_icmp .ne 7, 3) := by decide +kernel
theorem dL_law_390 : decode cL_law 390 = .ok (.iconst 1, 1) := by decide +kernel
theorem dL_law_391 : decode cL_law 391 = .ok (.goto 4, 3) := by decide +kernel
theorem dL_law_394 : decode cL_law 394 = .ok (.iconst 0, 1) := by decide +kernel
theorem dL_law_395 : decode cL_law 395 = .ok (.istore_n 2, 1) := by decide +kernel
theorem dL_law_396 : decode cL_law 396 = .ok (.iinc 3 1, 3) := by decide +kernel
theorem dL_law_399 : decode cL_law 399 = .ok (.goto (-367), 3) := by decide +kernel
theorem dL_law_402 : decode cL_law 402 = .ok (.iload_n 2, 1) := by decide +kernel
theorem dL_law_403 : decode cL_law 403 = .ok (.ireturn, 1) := by decide +kernel
abbrev vwCl : List vw_C := [(RX0, TX0, 6), (RX1, TX1, 3), (RX2, TX2, 10), (RX3, TX3, 6), (RX4, TX4, 8)]
