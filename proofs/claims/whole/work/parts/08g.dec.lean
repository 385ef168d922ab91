theorem dX11_look_167 : decode cX11_look 167 = .ok (.iload 5, 2) := by decide +kernel
theorem dX11_look_169 : decode cX11_look 169 = .ok (.goto 4, 3) := by decide +kernel
theorem dX11_look_172 : decode cX11_look 172 = .ok (.iload_n 3, 1) := by decide +kernel
theorem dX11_look_173 : decode cX11_look 173 = .ok (.istore_n 3, 1) := by decide +kernel
theorem dX11_look_174 : decode cX11_look 174 = .ok (.iload 7, 2) := by decide +kernel
theorem dX11_look_176 : decode cX11_look 176 = .ok (.ifCond .eq 8, 3) := by decide +kernel
theorem dX11_look_179 : decode cX11_look 179 = .ok (.iload 6, 2) := by decide +kernel
theorem dX11_look_181 : decode cX11_look 181 = .ok (.goto 5, 3) := by decide +kernel
theorem dX11_look_184 : decode cX11_look 184 = .ok (.iload 4, 2) := by decide +kernel
theorem dX11_look_186 : decode cX11_look 186 = .ok (.istore 4, 2) := by decide +kernel
theorem dX11_look_188 : decode cX11_look 188 = .ok (.iinc 5 1, 3) := by decide +kernel
theorem dX11_look_191 : decode cX11_look 191 = .ok (.goto (-158), 3) := by decide +kernel
theorem dX11_look_194 : decode cX11_look 194 = .ok (.iload_n 1, 1) := by decide +kernel
theorem dX11_look_195 : decode cX11_look 195 = .ok (.ifCond .ne 7, 3) := by decide +kernel
theorem dX11_look_198 : decode cX11_look 198 = .ok (.iload_n 3, 1) := by decide +kernel
theorem dX11_look_199 : decode cX11_look 199 = .ok (.goto 5, 3) := by decide +kernel
theorem dX11_look_202 : decode cX11_look 202 = .ok (.iload 4, 2) := by decide +kernel
theorem dX11_look_204 : decode cX11_look 204 = .ok (.ireturn, 1) := by decide +kernel
theorem dX11_paces_0 : decode cX11_paces 0 = .ok (.aload_n 0, 1) := by decide +kernel
theorem dX11_paces_1 : decode cX11_paces 1 = .ok (.iload_n 1, 1) := by decide +kernel
theorem dX11_paces_2 : decode cX11_paces 2 = .ok (.invokevirtual 105, 3) := by decide +kernel
theorem dX11_paces_5 : decode cX11_paces 5 = .ok (.ifCond .eq 23, 3) := by decide +kernel
theorem dX11_paces_8 : decode cX11_paces 8 = .ok (.iload_n 2, 1) := by decide +kernel
theorem dX11_paces_9 : decode cX11_paces 9 = .ok (.iconst 1, 1) := by decide +kernel
theorem dX11_paces_10 : decode cX11_paces 10 = .ok (.bipush 8, 2) := by decide +kernel
theorem dX11_paces_12 : decode cX11_paces 12 = .ok (.invokestatic 61, 3) := by decide +kernel
theorem dX11_paces_15 : decode cX11_paces 15 = .ok (.ifCond .eq 13, 3) := by decide +kernel
theorem dX11_paces_18 : decode cX11_paces 18 = .ok (.iload_n 3, 1) := by decide +kernel
theorem dX11_paces_19 : decode cX11_paces 19 = .ok (.iconst 0, 1) := by decide +kernel
theorem dX11_paces_20 : decode cX11_paces 20 = .ok (.bipush 40, 2) := by decide +kernel
theorem dX11_paces_22 : decode cX11_paces 22 = .ok (.invokestatic 61, 3) := by decide +kernel
theorem dX11_paces_25 : decode cX11_paces 25 = .ok (.ifCond .ne 5, 3) := by decide +kernel
theorem dX11_paces_28 : decode cX11_paces 28 = .ok (.iconst (-1), 1) := by decide +kernel
theorem dX11_paces_29 : decode cX11_paces 29 = .ok (.ireturn, 1) := by decide +kernel
theorem dX11_paces_30 : decode cX11_paces 30 = .ok (.iconst 0, 1) := by decide +kernel
theorem dX11_paces_31 : decode cX11_paces 31 = .ok (.istore 4, 2) := by decide +kernel
theorem dX11_paces_33 : decode cX11_paces 33 = .ok (.iconst 1, 1) := by decide +kernel
theorem dX11_paces_34 : decode cX11_paces 34 = .ok (.istore 5, 2) := by decide +kernel
theorem dX11_paces_36 : decode cX11_paces 36 = .ok (.iload 5, 2) := by decide +kernel
theorem dX11_paces_38 : decode cX11_paces 38 = .ok (.bipush 6, 2) := by decide +kernel
theorem dX11_paces_40 : decode cX11_paces 40 = .ok (.if_icmp .ge 79, 3) := by decide +kernel
theorem dX11_paces_43 : decode cX11_paces 43 = .ok (.aload_n 0, 1) := by decide +kernel
theorem dX11_paces_44 : decode cX11_paces 44 = .ok (.getfield 19, 3) := by decide +kernel
theorem dX11_paces_47 : decode cX11_paces 47 = .ok (.iload_n 1, 1) := by decide +kernel
theorem dX11_paces_48 : decode cX11_paces 48 = .ok (.iaload, 1) := by decide +kernel
theorem dX11_paces_49 : decode cX11_paces 49 = .ok (.istore 6, 2) := by decide +kernel
theorem dX11_paces_51 : decode cX11_paces 51 = .ok (.iconst 0, 1) := by decide +kernel
theorem dX11_paces_52 : decode cX11_paces 52 = .ok (.istore 7, 2) := by decide +kernel
theorem dX11_paces_54 : decode cX11_paces 54 = .ok (.iload 7, 2) := by decide +kernel
theorem dX11_paces_56 : decode cX11_paces 56 = .ok (.iload_n 2, 1) := by decide +kernel
theorem dX11_paces_57 : decode cX11_paces 57 = .ok (.if_icmp .ge 37, 3) := by decide +kernel
theorem dX11_paces_60 : decode cX11_paces 60 = .ok (.iload 6, 2) := by decide +kernel
theorem dX11_paces_62 : decode cX11_paces 62 = .ok (.aload_n 0, 1) := by decide +kernel
theorem dX11_paces_63 : decode cX11_paces 63 = .ok (.getfield 19, 3) := by decide +kernel
theorem dX11_paces_66 : decode cX11_paces 66 = .ok (.iconst 5, 1) := by decide +kernel
theorem dX11_paces_67 : decode cX11_paces 67 = .ok (.iload_n 1, 1) := by decide +kernel
theorem dX11_paces_68 : decode cX11_paces 68 = .ok (.iadd, 1) := by decide +kernel
theorem dX11_paces_69 : decode cX11_paces 69 = .ok (.iaload, 1) := by decide +kernel
theorem dX11_paces_70 : decode cX11_paces 70 = .ok (.iload 5, 2) := by decide +kernel
theorem dX11_paces_72 : decode cX11_paces 72 = .ok (.iconst 1, 1) := by decide +kernel
theorem dX11_paces_73 : decode cX11_paces 73 = .ok (.aload_n 0, 1) := by decide +kernel
theorem dX11_paces_74 : decode cX11_paces 74 = .ok (.getfield 19, 3) := by decide +kernel
theorem dX11_paces_77 : decode cX11_paces 77 = .ok (.bipush 10, 2) := by decide +kernel
theorem dX11_paces_79 : decode cX11_paces 79 = .ok (.iaload, 1) := by decide +kernel
theorem dX11_paces_80 : decode cX11_paces 80 = .ok (.iload 7, 2) := by decide +kernel
theorem dX11_paces_82 : decode cX11_paces 82 = .ok (.iadd, 1) := by decide +kernel
theorem dX11_paces_83 : decode cX11_paces 83 = .ok (.invokestatic 118, 3) := by decide +kernel
theorem dX11_paces_86 : decode cX11_paces 86 = .ok (.istore 6, 2) := by decide +kernel
theorem dX11_paces_88 : decode cX11_paces 88 = .ok (.iinc 7 1, 3) := by decide +kernel
theorem dX11_paces_91 : decode cX11_paces 91 = .ok (.goto (-37), 3) := by decide +kernel
theorem dX11_paces_94 : decode cX11_paces 94 = .ok (.iload 4, 2) := by decide +kernel
theorem dX11_paces_96 : decode cX11_paces 96 = .ok (.iload 6, 2) := by decide +kernel
theorem dX11_paces_98 : decode cX11_paces 98 = .ok (.iload_n 3, 1) := by decide +kernel
theorem dX11_paces_99 : decode cX11_paces 99 = .ok (.if_icmp .ne 10, 3) := by decide +kernel
theorem dX11_paces_102 : decode cX11_paces 102 = .ok (.iconst 1, 1) := by decide +kernel
theorem dX11_paces_103 : decode cX11_paces 103 = .ok (.iload 5, 2) := by decide +kernel
theorem dX11_paces_105 : decode cX11_paces 105 = .ok (.ishl, 1) := by decide +kernel
theorem dX11_paces_106 : decode cX11_paces 106 = .ok (.goto 4, 3) := by decide +kernel
theorem dX11_paces_109 : decode cX11_paces 109 = .ok (.iconst 0, 1) := by decide +kernel
theorem dX11_paces_110 : decode cX11_paces 110 = .ok (.ior, 1) := by decide +kernel
theorem dX11_paces_111 : decode cX11_paces 111 = .ok (.istore 4, 2) := by decide +kernel
theorem dX11_paces_113 : decode cX11_paces 113 = .ok (.iinc 5 1, 3) := by decide +kernel
theorem dX11_paces_116 : decode cX11_paces 116 = .ok (.goto (-80), 3) := by decide +kernel
theorem dX11_paces_119 : decode cX11_paces 119 = .ok (.iload 4, 2) := by decide +kernel
theorem dX11_paces_121 : decode cX11_paces 121 = .ok (.ireturn, 1) := by decide +kernel
theorem dX11_slips_0 : decode cX11_slips 0 = .ok (.aload_n 0, 1) := by decide +kernel
theorem dX11_slips_1 : decode cX11_slips 1 = .ok (.iload_n 1, 1) := by decide +kernel
theorem dX11_slips_2 : decode cX11_slips 2 = .ok (.invokevirtual 105, 3) := by decide +kernel
theorem dX11_slips_5 : decode cX11_slips 5 = .ok (.ifCond .eq 43, 3) := by decide +kernel
theorem dX11_slips_8 : decode cX11_slips 8 = .ok (.iload_n 2, 1) := by decide +kernel
theorem dX11_slips_9 : decode cX11_slips 9 = .ok (.iconst 0, 1) := by decide +kernel
theorem dX11_slips_10 : decode cX11_slips 10 = .ok (.bipush 6, 2) := by decide +kernel
theorem dX11_slips_12 : decode cX11_slips 12 = .ok (.invokestatic 61, 3) := by decide +kernel
theorem dX11_slips_15 : decode cX11_slips 15 = .ok (.ifCond .eq 33, 3) := by decide +kernel
theorem dX11_slips_18 : decode cX11_slips 18 = .ok (.iload_n 3, 1) := by decide +kernel
theorem dX11_slips_19 : decode cX11_slips 19 = .ok (.iconst 0, 1) := by decide +kernel
theorem dX11_slips_20 : decode cX11_slips 20 = .ok (.bipush 10, 2) := by decide +kernel
theorem dX11_slips_22 : decode cX11_slips 22 = .ok (.invokestatic 61, 3) := by decide +kernel
theorem dX11_slips_25 : decode cX11_slips 25 = .ok (.ifCond .eq 23, 3) := by decide +kernel
theorem dX11_slips_28 : decode cX11_slips 28 = .ok (.iload 4, 2) := by decide +kernel
theorem dX11_slips_30 : decode cX11_slips 30 = .ok (.iconst 0, 1) := by decide +kernel
theorem dX11_slips_31 : decode cX11_slips 31 = .ok (.iconst 3, 1) := by decide +kernel
theorem dX11_slips_32 : decode cX11_slips 32 = .ok (.invokestatic 61, 3) := by decide +kernel
theorem dX11_slips_35 : decode cX11_slips 35 = .ok (.ifCond .eq 13, 3) := by decide +kernel
theorem dX11_slips_38 : decode cX11_slips 38 = .ok (.iload 5, 2) := by decide +kernel
theorem dX11_slips_40 : decode cX11_slips 40 = .ok (.iconst 0, 1) := by decide +kernel
theorem dX11_slips_41 : decode cX11_slips 41 = .ok (.iconst 1, 1) := by decide +kernel
theorem dX11_slips_42 : decode cX11_slips 42 = .ok (.invokestatic 61, 3) := by decide +kernel
theorem dX11_slips_45 : decode cX11_slips 45 = .ok (.ifCond .ne 5, 3) := by decide +kernel
theorem dX11_slips_48 : decode cX11_slips 48 = .ok (.iconst (-1), 1) := by decide +kernel
theorem dX11_slips_49 : decode cX11_slips 49 = .ok (.ireturn, 1) := by decide +kernel
theorem dX11_slips_50 : decode cX11_slips 50 = .ok (.iconst 0, 1) := by decide +kernel
theorem dX11_slips_51 : decode cX11_slips 51 = .ok (.istore 6, 2) := by decide +kernel
theorem dX11_slips_53 : decode cX11_slips 53 = .ok (.iconst 1, 1) := by decide +kernel
theorem dX11_slips_54 : decode cX11_slips 54 = .ok (.istore 7, 2) := by decide +kernel
theorem dX11_slips_56 : decode cX11_slips 56 = .ok (.iconst 0, 1) := by decide +kernel
theorem dX11_slips_57 : decode cX11_slips 57 = .ok (.istore 8, 2) := by decide +kernel
theorem dX11_slips_59 : decode cX11_slips 59 = .ok (.iload 8, 2) := by decide +kernel
theorem dX11_slips_61 : decode cX11_slips 61 = .ok (.iload_n 2, 1) := by decide +kernel
theorem dX11_slips_62 : decode cX11_slips 62 = .ok (.if_icmp .ge 16, 3) := by decide +kernel
theorem dX11_slips_65 : decode cX11_slips 65 = .ok (.iload 7, 2) := by decide +kernel
theorem dX11_slips_67 : decode cX11_slips 67 = .ok (.bipush 10, 2) := by decide +kernel
theorem dX11_slips_69 : decode cX11_slips 69 = .ok (.imul, 1) := by decide +kernel
theorem dX11_slips_70 : decode cX11_slips 70 = .ok (.istore 7, 2) := by decide +kernel
theorem dX11_slips_72 : decode cX11_slips 72 = .ok (.iinc 8 1, 3) := by decide +kernel
theorem dX11_slips_75 : decode cX11_slips 75 = .ok (.goto (-16), 3) := by decide +kernel
theorem dX11_slips_78 : decode cX11_slips 78 = .ok (.iconst 0, 1) := by decide +kernel
theorem dX11_slips_79 : decode cX11_slips 79 = .ok (.istore 8, 2) := by decide +kernel
theorem dX11_slips_81 : decode cX11_slips 81 = .ok (.iload 8, 2) := by decide +kernel
theorem dX11_slips_83 : decode cX11_slips 83 = .ok (.iconst 1, 1) := by decide +kernel
theorem dX11_slips_84 : decode cX11_slips 84 = .ok (.iload_n 2, 1) := by decide +kernel
theorem dX11_slips_85 : decode cX11_slips 85 = .ok (.ishl, 1) := by decide +kernel
theorem dX11_slips_86 : decode cX11_slips 86 = .ok (.if_icmp .ge 95, 3) := by decide +kernel
theorem dX11_slips_89 : decode cX11_slips 89 = .ok (.iconst 1, 1) := by decide +kernel
theorem dX11_slips_90 : decode cX11_slips 90 = .ok (.istore 9, 2) := by decide +kernel
theorem dX11_slips_92 : decode cX11_slips 92 = .ok (.iconst 0, 1) := by decide +kernel
theorem dX11_slips_93 : decode cX11_slips 93 = .ok (.istore 10, 2) := by decide +kernel
theorem dX11_slips_95 : decode cX11_slips 95 = .ok (.iload 10, 2) := by decide +kernel
theorem dX11_slips_97 : decode cX11_slips 97 = .ok (.iload_n 2, 1) := by decide +kernel
theorem dX11_slips_98 : decode cX11_slips 98 = .ok (.if_icmp .ge 33, 3) := by decide +kernel
theorem dX11_slips_101 : decode cX11_slips 101 = .ok (.iload 9, 2) := by decide +kernel
theorem dX11_slips_103 : decode cX11_slips 103 = .ok (.iload 8, 2) := by decide +kernel
theorem dX11_slips_105 : decode cX11_slips 105 = .ok (.iload 10, 2) := by decide +kernel
theorem dX11_slips_107 : decode cX11_slips 107 = .ok (.ishr, 1) := by decide +kernel
theorem dX11_slips_108 : decode cX11_slips 108 = .ok (.iconst 1, 1) := by decide +kernel
theorem dX11_slips_109 : decode cX11_slips 109 = .ok (.iand, 1) := by decide +kernel
theorem dX11_slips_110 : decode cX11_slips 110 = .ok (.iconst 1, 1) := by decide +kernel
theorem dX11_slips_111 : decode cX11_slips 111 = .ok (.if_icmp .ne 7, 3) := by decide +kernel
theorem dX11_slips_114 : decode cX11_slips 114 = .ok (.iload_n 3, 1) := by decide +kernel
theorem dX11_slips_115 : decode cX11_slips 115 = .ok (.goto 7, 3) := by decide +kernel
theorem dX11_slips_118 : decode cX11_slips 118 = .ok (.bipush 10, 2) := by decide +kernel
theorem dX11_slips_120 : decode cX11_slips 120 = .ok (.iload_n 3, 1) := by decide +kernel
theorem dX11_slips_121 : decode cX11_slips 121 = .ok (.isub, 1) := by decide +kernel
theorem dX11_slips_122 : decode cX11_slips 122 = .ok (.imul, 1) := by decide +kernel
theorem dX11_slips_123 : decode cX11_slips 123 = .ok (.istore 9, 2) := by decide +kernel
theorem dX11_slips_125 : decode cX11_slips 125 = .ok (.iinc 10 1, 3) := by decide +kernel
theorem dX11_slips_128 : decode cX11_slips 128 = .ok (.goto (-33), 3) := by decide +kernel
theorem dX11_slips_131 : decode cX11_slips 131 = .ok (.aload_n 0, 1) := by decide +kernel
theorem dX11_slips_132 : decode cX11_slips 132 = .ok (.getfield 19, 3) := by decide +kernel
theorem dX11_slips_135 : decode cX11_slips 135 = .ok (.iload_n 1, 1) := by decide +kernel
theorem dX11_slips_136 : decode cX11_slips 136 = .ok (.iaload, 1) := by decide +kernel
theorem dX11_slips_137 : decode cX11_slips 137 = .ok (.iload 8, 2) := by decide +kernel
theorem dX11_slips_139 : decode cX11_slips 139 = .ok (.invokestatic 122, 3) := by decide +kernel
theorem dX11_slips_142 : decode cX11_slips 142 = .ok (.isub, 1) := by decide +kernel
theorem dX11_slips_143 : decode cX11_slips 143 = .ok (.istore 10, 2) := by decide +kernel
theorem dX11_slips_145 : decode cX11_slips 145 = .ok (.iload 6, 2) := by decide +kernel
theorem dX11_slips_147 : decode cX11_slips 147 = .ok (.iload 10, 2) := by decide +kernel
theorem dX11_slips_149 : decode cX11_slips 149 = .ok (.ifCond .ge 7, 3) := by decide +kernel
theorem dX11_slips_152 : decode cX11_slips 152 = .ok (.iconst 0, 1) := by decide +kernel
theorem dX11_slips_153 : decode cX11_slips 153 = .ok (.goto 5, 3) := by decide +kernel
theorem dX11_slips_156 : decode cX11_slips 156 = .ok (.iload 10, 2) := by decide +kernel
theorem dX11_slips_158 : decode cX11_slips 158 = .ok (.invokestatic 115, 3) := by decide +kernel
theorem dX11_slips_161 : decode cX11_slips 161 = .ok (.iload 4, 2) := by decide +kernel
theorem dX11_slips_163 : decode cX11_slips 163 = .ok (.if_icmp .ne 8, 3) := by decide +kernel
theorem dX11_slips_166 : decode cX11_slips 166 = .ok (.iload 9, 2) := by decide +kernel
theorem dX11_slips_168 : decode cX11_slips 168 = .ok (.goto 4, 3) := by decide +kernel
theorem dX11_slips_171 : decode cX11_slips 171 = .ok (.iconst 0, 1) := by decide +kernel
theorem dX11_slips_172 : decode cX11_slips 172 = .ok (.iadd, 1) := by decide +kernel
theorem dX11_slips_173 : decode cX11_slips 173 = .ok (.istore 6, 2) := by decide +kernel
theorem dX11_slips_175 : decode cX11_slips 175 = .ok (.iinc 8 1, 3) := by decide +kernel
theorem dX11_slips_178 : decode cX11_slips 178 = .ok (.goto (-97), 3) := by decide +kernel
theorem dX11_slips_181 : decode cX11_slips 181 = .ok (.iload 6, 2) := by decide +kernel
theorem dX11_slips_183 : decode cX11_slips 183 = .ok (.istore 8, 2) := by decide +kernel
theorem dX11_slips_185 : decode cX11_slips 185 = .ok (.iload 7, 2) := by decide +kernel
theorem dX11_slips_187 : decode cX11_slips 187 = .ok (.istore 9, 2) := by decide +kernel
theorem dX11_slips_189 : decode cX11_slips 189 = .ok (.iload 9, 2) := by decide +kernel
theorem dX11_slips_191 : decode cX11_slips 191 = .ok (.ifCond .le 21, 3) := by decide +kernel
theorem dX11_slips_194 : decode cX11_slips 194 = .ok (.iload 8, 2) := by decide +kernel
theorem dX11_slips_196 : decode cX11_slips 196 = .ok (.iload 9, 2) := by decide +kernel
theorem dX11_slips_198 : decode cX11_slips 198 = .ok (.irem, 1) := by decide +kernel
theorem dX11_slips_199 : decode cX11_slips 199 = .ok (.istore 10, 2) := by decide +kernel
theorem dX11_slips_201 : decode cX11_slips 201 = .ok (.iload 9, 2) := by decide +kernel
theorem dX11_slips_203 : decode cX11_slips 203 = .ok (.istore 8, 2) := by decide +kernel
theorem dX11_slips_205 : decode cX11_slips 205 = .ok (.iload 10, 2) := by decide +kernel
theorem dX11_slips_207 : decode cX11_slips 207 = .ok (.istore 9, 2) := by decide +kernel
theorem dX11_slips_209 : decode cX11_slips 209 = .ok (.goto (-20), 3) := by decide +kernel
theorem dX11_slips_212 : decode cX11_slips 212 = .ok (.iload 5, 2) := by decide +kernel
theorem dX11_slips_214 : decode cX11_slips 214 = .ok (.ifCond .ne 11, 3) := by decide +kernel
theorem dX11_slips_217 : decode cX11_slips 217 = .ok (.iload 6, 2) := by decide +kernel
theorem dX11_slips_219 : decode cX11_slips 219 = .ok (.iload 8, 2) := by decide +kernel
theorem dX11_slips_221 : decode cX11_slips 221 = .ok (.idiv, 1) := by decide +kernel
theorem dX11_slips_222 : decode cX11_slips 222 = .ok (.goto 8, 3) := by decide +kernel
theorem dX11_slips_225 : decode cX11_slips 225 = .ok (.iload 7, 2) := by decide +kernel
theorem dX11_slips_227 : decode cX11_slips 227 = .ok (.iload 8, 2) := by decide +kernel
theorem dX11_slips_229 : decode cX11_slips 229 = .ok (.idiv, 1) := by decide +kernel
theorem dX11_slips_230 : decode cX11_slips 230 = .ok (.ireturn, 1) := by decide +kernel
theorem dX11_spent_0 : decode cX11_spent 0 = .ok (.iload_n 1, 1) := by decide +kernel
theorem dX11_spent_1 : decode cX11_spent 1 = .ok (.iconst 0, 1) := by decide +kernel
theorem dX11_spent_2 : decode cX11_spent 2 = .ok (.iconst 1, 1) := by decide +kernel
theorem dX11_spent_3 : decode cX11_spent 3 = .ok (.invokestatic 61, 3) := by decide +kernel
theorem dX11_spent_6 : decode cX11_spent 6 = .ok (.ifCond .ne 7, 3) := by decide +kernel
theorem dX11_spent_9 : decode cX11_spent 9 = .ok (.iconst (-1), 1) := by decide +kernel
theorem dX11_spent_10 : decode cX11_spent 10 = .ok (.goto 24, 3) := by decide +kernel
theorem dX11_spent_13 : decode cX11_spent 13 = .ok (.iload_n 1, 1) := by decide +kernel
theorem dX11_spent_14 : decode cX11_spent 14 = .ok (.ifCond .ne 13, 3) := by decide +kernel
theorem dX11_spent_17 : decode cX11_spent 17 = .ok (.aload_n 0, 1) := by decide +kernel
theorem dX11_spent_18 : decode cX11_spent 18 = .ok (.getfield 19, 3) := by decide +kernel
theorem dX11_spent_21 : decode cX11_spent 21 = .ok (.bipush 11, 2) := by decide +kernel
theorem dX11_spent_23 : decode cX11_spent 23 = .ok (.iaload, 1) := by decide +kernel
theorem dX11_spent_24 : decode cX11_spent 24 = .ok (.goto 10, 3) := by decide +kernel
theorem dX11_spent_27 : decode cX11_spent 27 = .ok (.aload_n 0, 1) := by decide +kernel
theorem dX11_spent_28 : decode cX11_spent 28 = .ok (.getfield 19, 3) := by decide +kernel
theorem dX11_spent_31 : decode cX11_spent 31 = .ok (.bipush 10, 2) := by decide +kernel
theorem dX11_spent_33 : decode cX11_spent 33 = .ok (.iaload, 1) := by decide +kernel
theorem dX11_spent_34 : decode cX11_spent 34 = .ok (.ireturn, 1) := by decide +kernel
theorem dX11_evening_0 : decode cX11_evening 0 = .ok (.iload_n 1, 1) := by decide +kernel
theorem dX11_evening_1 : decode cX11_evening 1 = .ok (.iconst 0, 1) := by decide +kernel
theorem dX11_evening_2 : decode cX11_evening 2 = .ok (.sipush 9999, 3) := by decide +kernel
theorem dX11_evening_5 : decode cX11_evening 5 = .ok (.invokestatic 61, 3) := by decide +kernel
theorem dX11_evening_8 : decode cX11_evening 8 = .ok (.ifCond .eq 22, 3) := by decide +kernel
theorem dX11_evening_11 : decode cX11_evening 11 = .ok (.iload_n 2, 1) := by decide +kernel
theorem dX11_evening_12 : decode cX11_evening 12 = .ok (.iconst 1, 1) := by decide +kernel
theorem dX11_evening_13 : decode cX11_evening 13 = .ok (.bipush 24, 2) := by decide +kernel
theorem dX11_evening_15 : decode cX11_evening 15 = .ok (.invokestatic 61, 3) := by decide +kernel
theorem dX11_evening_18 : decode cX11_evening 18 = .ok (.ifCond .eq 12, 3) := by decide +kernel
theorem dX11_evening_21 : decode cX11_evening 21 = .ok (.iload_n 3, 1) := by decide +kernel
theorem dX11_evening_22 : decode cX11_evening 22 = .ok (.iconst 0, 1) := by decide +kernel
theorem dX11_evening_23 : decode cX11_evening 23 = .ok (.iconst 1, 1) := by decide +kernel
theorem dX11_evening_24 : decode cX11_evening 24 = .ok (.invokestatic 61, 3) := by decide +kernel
theorem dX11_evening_27 : decode cX11_evening 27 = .ok (.ifCond .ne 5, 3) := by decide +kernel
theorem dX11_evening_30 : decode cX11_evening 30 = .ok (.iconst (-1), 1) := by decide +kernel
theorem dX11_evening_31 : decode cX11_evening 31 = .ok (.ireturn, 1) := by decide +kernel
theorem dX11_evening_32 : decode cX11_evening 32 = .ok (.aload_n 0, 1) := by decide +kernel
theorem dX11_evening_33 : decode cX11_evening 33 = .ok (.invokevirtual 134, 3) := by decide +kernel
theorem dX11_evening_36 : decode cX11_evening 36 = .ok (.iconst 0, 1) := by decide +kernel
theorem dX11_evening_37 : decode cX11_evening 37 = .ok (.istore 4, 2) := by decide +kernel
theorem dX11_evening_39 : decode cX11_evening 39 = .ok (.iload 4, 2) := by decide +kernel
theorem dX11_evening_41 : decode cX11_evening 41 = .ok (.iload_n 2, 1) := by decide +kernel
theorem dX11_evening_42 : decode cX11_evening 42 = .ok (.if_icmp .ge 75, 3) := by decide +kernel
theorem dX11_evening_45 : decode cX11_evening 45 = .ok (.ldc2_w 152, 3) := by decide +kernel
theorem dX11_evening_48 : decode cX11_evening 48 = .ok (.iload_n 1, 1) := by decide +kernel
theorem dX11_evening_49 : decode cX11_evening 49 = .ok (.i2l, 1) := by decide +kernel
theorem dX11_evening_50 : decode cX11_evening 50 = .ok (.lmul, 1) := by decide +kernel
theorem dX11_evening_51 : decode cX11_evening 51 = .ok (.ldc2_w 154, 3) := by decide +kernel
theorem dX11_evening_54 : decode cX11_evening 54 = .ok (.aload_n 0, 1) := by decide +kernel
theorem dX11_evening_55 : decode cX11_evening 55 = .ok (.getfield 19, 3) := by decide +kernel
theorem dX11_evening_58 : decode cX11_evening 58 = .ok (.bipush 10, 2) := by decide +kernel
theorem dX11_evening_60 : decode cX11_evening 60 = .ok (.iaload, 1) := by decide +kernel
theorem dX11_evening_61 : decode cX11_evening 61 = .ok (.i2l, 1) := by decide +kernel
theorem dX11_evening_62 : decode cX11_evening 62 = .ok (.lmul, 1) := by decide +kernel
theorem dX11_evening_63 : decode cX11_evening 63 = .ok (.ladd, 1) := by decide +kernel
theorem dX11_evening_64 : decode cX11_evening 64 = .ok (.lconst 1, 1) := by decide +kernel
theorem dX11_evening_65 : decode cX11_evening 65 = .ok (.ladd, 1) := by decide +kernel
theorem dX11_evening_66 : decode cX11_evening 66 = .ok (.lstore 5, 2) := by decide +kernel
theorem dX11_evening_68 : decode cX11_evening 68 = .ok (.lload 5, 2) := by decide +kernel
theorem dX11_evening_70 : decode cX11_evening 70 = .ok (.lload 5, 2) := by decide +kernel
theorem dX11_evening_72 : decode cX11_evening 72 = .ok (.lmul, 1) := by decide +kernel
theorem dX11_evening_73 : decode cX11_evening 73 = .ok (.ldc2_w 156, 3) := by decide +kernel
theorem dX11_evening_76 : decode cX11_evening 76 = .ok (.lrem, 1) := by decide +kernel
theorem dX11_evening_77 : decode cX11_evening 77 = .ok (.l2i, 1) := by decide +kernel
theorem dX11_evening_78 : decode cX11_evening 78 = .ok (.istore 7, 2) := by decide +kernel
theorem dX11_evening_80 : decode cX11_evening 80 = .ok (.iload 7, 2) := by decide +kernel
theorem dX11_evening_82 : decode cX11_evening 82 = .ok (.aload_n 0, 1) := by decide +kernel
theorem dX11_evening_83 : decode cX11_evening 83 = .ok (.invokevirtual 125, 3) := by decide +kernel
theorem dX11_evening_86 : decode cX11_evening 86 = .ok (.irem, 1) := by decide +kernel
theorem dX11_evening_87 : decode cX11_evening 87 = .ok (.istore 8, 2) := by decide +kernel
theorem dX11_evening_89 : decode cX11_evening 89 = .ok (.aload_n 0, 1) := by decide +kernel
theorem dX11_evening_90 : decode cX11_evening 90 = .ok (.iload 8, 2) := by decide +kernel
theorem dX11_evening_92 : decode cX11_evening 92 = .ok (.iload 7, 2) := by decide +kernel
theorem dX11_evening_94 : decode cX11_evening 94 = .ok (.bipush 32, 2) := by decide +kernel
theorem dX11_evening_96 : decode cX11_evening 96 = .ok (.idiv, 1) := by decide +kernel
theorem dX11_evening_97 : decode cX11_evening 97 = .ok (.aload_n 0, 1) := by decide +kernel
theorem dX11_evening_98 : decode cX11_evening 98 = .ok (.invokevirtual 125, 3) := by decide +kernel
theorem dX11_evening_101 : decode cX11_evening 101 = .ok (.irem, 1) := by decide +kernel
theorem dX11_evening_102 : decode cX11_evening 102 = .ok (.iload 8, 2) := by decide +kernel
theorem dX11_evening_104 : decode cX11_evening 104 = .ok (.iconst (-1), 1) := by decide +kernel
theorem dX11_evening_105 : decode cX11_evening 105 = .ok (.ixor, 1) := by decide +kernel
theorem dX11_evening_106 : decode cX11_evening 106 = .ok (.iand, 1) := by decide +kernel
theorem dX11_evening_107 : decode cX11_evening 107 = .ok (.invokevirtual 131, 3) := by decide +kernel
theorem dX11_evening_110 : decode cX11_evening 110 = .ok (.pop, 1) := by decide +kernel
theorem dX11_evening_111 : decode cX11_evening 111 = .ok (.iinc 4 1, 3) := by decide +kernel
theorem dX11_evening_114 : decode cX11_evening 114 = .ok (.goto (-75), 3) := by decide +kernel
theorem dX11_evening_117 : decode cX11_evening 117 = .ok (.iload_n 3, 1) := by decide +kernel
theorem dX11_evening_118 : decode cX11_evening 118 = .ok (.ifCond .ne 13, 3) := by decide +kernel
theorem dX11_evening_121 : decode cX11_evening 121 = .ok (.aload_n 0, 1) := by decide +kernel
theorem dX11_evening_122 : decode cX11_evening 122 = .ok (.invokevirtual 140, 3) := by decide +kernel
theorem dX11_evening_125 : decode cX11_evening 125 = .ok (.invokestatic 122, 3) := by decide +kernel
theorem dX11_evening_128 : decode cX11_evening 128 = .ok (.goto 8, 3) := by decide +kernel
theorem dX11_evening_131 : decode cX11_evening 131 = .ok (.aload_n 0, 1) := by decide +kernel
theorem dX11_evening_132 : decode cX11_evening 132 = .ok (.iconst 3, 1) := by decide +kernel
theorem dX11_evening_133 : decode cX11_evening 133 = .ok (.invokevirtual 143, 3) := by decide +kernel
theorem dX11_evening_136 : decode cX11_evening 136 = .ok (.istore 4, 2) := by decide +kernel
theorem dX11_evening_138 : decode cX11_evening 138 = .ok (.aload_n 0, 1) := by decide +kernel
theorem dX11_evening_139 : decode cX11_evening 139 = .ok (.invokevirtual 137, 3) := by decide +kernel
theorem dX11_evening_142 : decode cX11_evening 142 = .ok (.iload 4, 2) := by decide +kernel
theorem dX11_evening_144 : decode cX11_evening 144 = .ok (.ireturn, 1) := by decide +kernel
theorem dX11_keep_0 : decode cX11_keep 0 = .ok (.aload_n 0, 1) := by decide +kernel
theorem dX11_keep_1 : decode cX11_keep 1 = .ok (.getfield 99, 3) := by decide +kernel
theorem dX11_keep_4 : decode cX11_keep 4 = .ok (.iconst 2, 1) := by decide +kernel
theorem dX11_keep_5 : decode cX11_keep 5 = .ok (.if_icmp .ne 6, 3) := by decide +kernel
theorem dX11_keep_8 : decode cX11_keep 8 = .ok (.bipush (-3), 2) := by decide +kernel
theorem dX11_keep_10 : decode cX11_keep 10 = .ok (.ireturn, 1) := by decide +kernel
theorem dX11_keep_11 : decode cX11_keep 11 = .ok (.iconst 0, 1) := by decide +kernel
theorem dX11_keep_12 : decode cX11_keep 12 = .ok (.istore_n 1, 1) := by decide +kernel
theorem dX11_keep_13 : decode cX11_keep 13 = .ok (.iload_n 1, 1) := by decide +kernel
theorem dX11_keep_14 : decode cX11_keep 14 = .ok (.bipush 12, 2) := by decide +kernel
theorem dX11_keep_16 : decode cX11_keep 16 = .ok (.if_icmp .ge 29, 3) := by decide +kernel
theorem dX11_keep_19 : decode cX11_keep 19 = .ok (.aload_n 0, 1) := by decide +kernel
theorem dX11_keep_20 : decode cX11_keep 20 = .ok (.getfield 25, 3) := by decide +kernel
theorem dX11_keep_23 : decode cX11_keep 23 = .ok (.bipush 12, 2) := by decide +kernel
theorem dX11_keep_25 : decode cX11_keep 25 = .ok (.aload_n 0, 1) := by decide +kernel
theorem dX11_keep_26 : decode cX11_keep 26 = .ok (.getfield 99, 3) := by decide +kernel
theorem dX11_keep_29 : decode cX11_keep 29 = .ok (.imul, 1) := by decide +kernel
theorem dX11_keep_30 : decode cX11_keep 30 = .ok (.iload_n 1, 1) := by decide +kernel
theorem dX11_keep_31 : decode cX11_keep 31 = .ok (.iadd, 1) := by decide +kernel
theorem dX11_keep_32 : decode cX11_keep 32 = .ok (.aload_n 0, 1) := by decide +kernel
theorem dX11_keep_33 : decode cX11_keep 33 = .ok (.getfield 19, 3) := by decide +kernel
theorem dX11_keep_36 : decode cX11_keep 36 = .ok (.iload_n 1, 1) := by decide +kernel
theorem dX11_keep_37 : decode cX11_keep 37 = .ok (.iaload, 1) := by decide +kernel
theorem dX11_keep_38 : decode cX11_keep 38 = .ok (.iastore, 1) := by decide +kernel
theorem dX11_keep_39 : decode cX11_keep 39 = .ok (.iinc 1 1, 3) := by decide +kernel
theorem dX11_keep_42 : decode cX11_keep 42 = .ok (.goto (-29), 3) := by decide +kernel
theorem dX11_keep_45 : decode cX11_keep 45 = .ok (.aload_n 0, 1) := by decide +kernel
theorem dX11_keep_46 : decode cX11_keep 46 = .ok (.dup, 1) := by decide +kernel
theorem dX11_keep_47 : decode cX11_keep 47 = .ok (.getfield 99, 3) := by decide +kernel
theorem dX11_keep_50 : decode cX11_keep 50 = .ok (.iconst 1, 1) := by decide +kernel
theorem dX11_keep_51 : decode cX11_keep 51 = .ok (.iadd, 1) := by decide +kernel
theorem dX11_keep_52 : decode cX11_keep 52 = .ok (.putfield 99, 3) := by decide +kernel
theorem dX11_keep_55 : decode cX11_keep 55 = .ok (.aload_n 0, 1) := by decide +kernel
theorem dX11_keep_56 : decode cX11_keep 56 = .ok (.getfield 99, 3) := by decide +kernel
theorem dX11_keep_59 : decode cX11_keep 59 = .ok (.ireturn, 1) := by decide +kernel
theorem dX11_back_0 : decode cX11_back 0 = .ok (.aload_n 0, 1) := by decide +kernel
theorem dX11_back_1 : decode cX11_back 1 = .ok (.getfield 99, 3) := by decide +kernel
theorem dX11_back_4 : decode cX11_back 4 = .ok (.ifCond .ne 6, 3) := by decide +kernel
theorem dX11_back_7 : decode cX11_back 7 = .ok (.bipush (-2), 2) := by decide +kernel
theorem dX11_back_9 : decode cX11_back 9 = .ok (.ireturn, 1) := by decide +kernel
theorem dX11_back_10 : decode cX11_back 10 = .ok (.aload_n 0, 1) := by decide +kernel
theorem dX11_back_11 : decode cX11_back 11 = .ok (.dup, 1) := by decide +kernel
theorem dX11_back_12 : decode cX11_back 12 = .ok (.getfield 99, 3) := by decide +kernel
theorem dX11_back_15 : decode cX11_back 15 = .ok (.iconst 1, 1) := by decide +kernel
theorem dX11_back_16 : decode cX11_back 16 = .ok (.isub, 1) := by decide +kernel
theorem dX11_back_17 : decode cX11_back 17 = .ok (.putfield 99, 3) := by decide +kernel
theorem dX11_back_20 : decode cX11_back 20 = .ok (.iconst 0, 1) := by decide +kernel
theorem dX11_back_21 : decode cX11_back 21 = .ok (.istore_n 1, 1) := by decide +kernel
theorem dX11_back_22 : decode cX11_back 22 = .ok (.iload_n 1, 1) := by decide +kernel
theorem dX11_back_23 : decode cX11_back 23 = .ok (.bipush 12, 2) := by decide +kernel
theorem dX11_back_25 : decode cX11_back 25 = .ok (.if_icmp .ge 29, 3) := by decide +kernel
theorem dX11_back_28 : decode cX11_back 28 = .ok (.aload_n 0, 1) := by decide +kernel
theorem dX11_back_29 : decode cX11_back 29 = .ok (.getfield 19, 3) := by decide +kernel
theorem dX11_back_32 : decode cX11_back 32 = .ok (.iload_n 1, 1) := by decide +kernel
theorem dX11_back_33 : decode cX11_back 33 = .ok (.aload_n 0, 1) := by decide +kernel
theorem dX11_back_34 : decode cX11_back 34 = .ok (.getfield 25, 3) := by decide +kernel
theorem dX11_back_37 : decode cX11_back 37 = .ok (.bipush 12, 2) := by decide +kernel
theorem dX11_back_39 : decode cX11_back 39 = .ok (.aload_n 0, 1) := by decide +kernel
theorem dX11_back_40 : decode cX11_back 40 = .ok (.getfield 99, 3) := by decide +kernel
theorem dX11_back_43 : decode cX11_back 43 = .ok (.imul, 1) := by decide +kernel
theorem dX11_back_44 : decode cX11_back 44 = .ok (.iload_n 1, 1) := by decide +kernel
theorem dX11_back_45 : decode cX11_back 45 = .ok (.iadd, 1) := by decide +kernel
theorem dX11_back_46 : decode cX11_back 46 = .ok (.iaload, 1) := by decide +kernel
theorem dX11_back_47 : decode cX11_back 47 = .ok (.iastore, 1) := by decide +kernel
theorem dX11_back_48 : decode cX11_back 48 = .ok (.iinc 1 1, 3) := by decide +kernel
theorem dX11_back_51 : decode cX11_back 51 = .ok (.goto (-29), 3) := by decide +kernel
theorem dX11_back_54 : decode cX11_back 54 = .ok (.aload_n 0, 1) := by decide +kernel
theorem dX11_back_55 : decode cX11_back 55 = .ok (.iconst 0, 1) := by decide +kernel
theorem dX11_back_56 : decode cX11_back 56 = .ok (.putfield 96, 3) := by decide +kernel
theorem dX11_back_59 : decode cX11_back 59 = .ok (.aload_n 0, 1) := by decide +kernel
theorem dX11_back_60 : decode cX11_back 60 = .ok (.getfield 99, 3) := by decide +kernel
theorem dX11_back_63 : decode cX11_back 63 = .ok (.ireturn, 1) := by decide +kernel
theorem dX11_count_0 : decode cX11_count 0 = .ok (.iload_n 1, 1) := by decide +kernel
theorem dX11_count_1 : decode cX11_count 1 = .ok (.tableswitch 84 0 6 #[43, 50, 57, 64, 69, 74, 79], 43) := by decide +kernel
theorem dX11_count_44 : decode cX11_count 44 = .ok (.aload_n 0, 1) := by decide +kernel
theorem dX11_count_45 : decode cX11_count 45 = .ok (.getfield 13, 3) := by decide +kernel
theorem dX11_count_48 : decode cX11_count 48 = .ok (.iconst 0, 1) := by decide +kernel
theorem dX11_count_49 : decode cX11_count 49 = .ok (.iaload, 1) := by decide +kernel
theorem dX11_count_50 : decode cX11_count 50 = .ok (.ireturn, 1) := by decide +kernel
theorem dX11_count_51 : decode cX11_count 51 = .ok (.aload_n 0, 1) := by decide +kernel
theorem dX11_count_52 : decode cX11_count 52 = .ok (.getfield 13, 3) := by decide +kernel
theorem dX11_count_55 : decode cX11_count 55 = .ok (.iconst 1, 1) := by decide +kernel
theorem dX11_count_56 : decode cX11_count 56 = .ok (.iaload, 1) := by decide +kernel
theorem dX11_count_57 : decode cX11_count 57 = .ok (.ireturn, 1) := by decide +kernel
theorem dX11_count_58 : decode cX11_count 58 = .ok (.aload_n 0, 1) := by decide +kernel
theorem dX11_count_59 : decode cX11_count 59 = .ok (.getfield 13, 3) := by decide +kernel
theorem dX11_count_62 : decode cX11_count 62 = .ok (.iconst 2, 1) := by decide +kernel
theorem dX11_count_63 : decode cX11_count 63 = .ok (.iaload, 1) := by decide +kernel
theorem dX11_count_64 : decode cX11_count 64 = .ok (.ireturn, 1) := by decide +kernel
theorem dX11_count_65 : decode cX11_count 65 = .ok (.aload_n 0, 1) := by decide +kernel
theorem dX11_count_66 : decode cX11_count 66 = .ok (.getfield 102, 3) := by decide +kernel
theorem dX11_count_69 : decode cX11_count 69 = .ok (.ireturn, 1) := by decide +kernel
theorem dX11_count_70 : decode cX11_count 70 = .ok (.aload_n 0, 1) := by decide +kernel
theorem dX11_count_71 : decode cX11_count 71 = .ok (.getfield 96, 3) := by decide +kernel
theorem dX11_count_74 : decode cX11_count 74 = .ok (.ireturn, 1) := by decide +kernel
theorem dX11_count_75 : decode cX11_count 75 = .ok (.aload_n 0, 1) := by decide +kernel
theorem dX11_count_76 : decode cX11_count 76 = .ok (.getfield 99, 3) := by decide +kernel
theorem dX11_count_79 : decode cX11_count 79 = .ok (.ireturn, 1) := by decide +kernel
theorem dX11_count_80 : decode cX11_count 80 = .ok (.aload_n 0, 1) := by decide +kernel
theorem dX11_count_81 : decode cX11_count 81 = .ok (.getfield 65, 3) := by decide +kernel
theorem dX11_count_84 : decode cX11_count 84 = .ok (.ireturn, 1) := by decide +kernel
theorem dX11_count_85 : decode cX11_count 85 = .ok (.iconst (-1), 1) := by decide +kernel
theorem dX11_count_86 : decode cX11_count 86 = .ok (.ireturn, 1) := by decide +kernel
theorem dJ6_bitCount_0f7a4_0 : decode cJ6_bitCount_0f7a4 0 = .ok (.iload_n 0, 1) := by decide +kernel
theorem dJ6_bitCount_0f7a4_1 : decode cJ6_bitCount_0f7a4 1 = .ok (.iload_n 0, 1) := by decide +kernel
theorem dJ6_bitCount_0f7a4_2 : decode cJ6_bitCount_0f7a4 2 = .ok (.iconst 1, 1) := by decide +kernel
theorem dJ6_bitCount_0f7a4_3 : decode cJ6_bitCount_0f7a4 3 = .ok (.iushr, 1) := by decide +kernel
theorem dJ6_bitCount_0f7a4_4 : decode cJ6_bitCount_0f7a4 4 = .ok (.ldc_w 265, 3) := by decide +kernel
theorem dJ6_bitCount_0f7a4_7 : decode cJ6_bitCount_0f7a4 7 = .ok (.iand, 1) := by decide +kernel
theorem dJ6_bitCount_0f7a4_8 : decode cJ6_bitCount_0f7a4 8 = .ok (.isub, 1) := by decide +kernel
theorem dJ6_bitCount_0f7a4_9 : decode cJ6_bitCount_0f7a4 9 = .ok (.istore_n 0, 1) := by decide +kernel
theorem dJ6_bitCount_0f7a4_10 : decode cJ6_bitCount_0f7a4 10 = .ok (.iload_n 0, 1) := by decide +kernel
theorem dJ6_bitCount_0f7a4_11 : decode cJ6_bitCount_0f7a4 11 = .ok (.ldc_w 266, 3) := by decide +kernel
theorem dJ6_bitCount_0f7a4_14 : decode cJ6_bitCount_0f7a4 14 = .ok (.iand, 1) := by decide +kernel
theorem dJ6_bitCount_0f7a4_15 : decode cJ6_bitCount_0f7a4 15 = .ok (.iload_n 0, 1) := by decide +kernel
theorem dJ6_bitCount_0f7a4_16 : decode cJ6_bitCount_0f7a4 16 = .ok (.iconst 2, 1) := by decide +kernel
theorem dJ6_bitCount_0f7a4_17 : decode cJ6_bitCount_0f7a4 17 = .ok (.iushr, 1) := by decide +kernel
theorem dJ6_bitCount_0f7a4_18 : decode cJ6_bitCount_0f7a4 18 = .ok (.ldc_w 266, 3) := by decide +kernel
theorem dJ6_bitCount_0f7a4_21 : decode cJ6_bitCount_0f7a4 21 = .ok (.iand, 1) := by decide +kernel
theorem dJ6_bitCount_0f7a4_22 : decode cJ6_bitCount_0f7a4 22 = .ok (.iadd, 1) := by decide +kernel
theorem dJ6_bitCount_0f7a4_23 : decode cJ6_bitCount_0f7a4 23 = .ok (.istore_n 0, 1) := by decide +kernel
theorem dJ6_bitCount_0f7a4_24 : decode cJ6_bitCount_0f7a4 24 = .ok (.iload_n 0, 1) := by decide +kernel
theorem dJ6_bitCount_0f7a4_25 : decode cJ6_bitCount_0f7a4 25 = .ok (.iload_n 0, 1) := by decide +kernel
theorem dJ6_bitCount_0f7a4_26 : decode cJ6_bitCount_0f7a4 26 = .ok (.iconst 4, 1) := by decide +kernel
theorem dJ6_bitCount_0f7a4_27 : decode cJ6_bitCount_0f7a4 27 = .ok (.iushr, 1) := by decide +kernel
theorem dJ6_bitCount_0f7a4_28 : decode cJ6_bitCount_0f7a4 28 = .ok (.iadd, 1) := by decide +kernel
theorem dJ6_bitCount_0f7a4_29 : decode cJ6_bitCount_0f7a4 29 = .ok (.ldc_w 267, 3) := by decide +kernel
theorem dJ6_bitCount_0f7a4_32 : decode cJ6_bitCount_0f7a4 32 = .ok (.iand, 1) := by decide +kernel
theorem dJ6_bitCount_0f7a4_33 : decode cJ6_bitCount_0f7a4 33 = .ok (.istore_n 0, 1) := by decide +kernel
theorem dJ6_bitCount_0f7a4_34 : decode cJ6_bitCount_0f7a4 34 = .ok (.iload_n 0, 1) := by decide +kernel
theorem dJ6_bitCount_0f7a4_35 : decode cJ6_bitCount_0f7a4 35 = .ok (.iload_n 0, 1) := by decide +kernel
theorem dJ6_bitCount_0f7a4_36 : decode cJ6_bitCount_0f7a4 36 = .ok (.bipush 8, 2) := by decide +kernel
theorem dJ6_bitCount_0f7a4_38 : decode cJ6_bitCount_0f7a4 38 = .ok (.iushr, 1) := by decide +kernel
theorem dJ6_bitCount_0f7a4_39 : decode cJ6_bitCount_0f7a4 39 = .ok (.iadd, 1) := by decide +kernel
theorem dJ6_bitCount_0f7a4_40 : decode cJ6_bitCount_0f7a4 40 = .ok (.istore_n 0, 1) := by decide +kernel
theorem dJ6_bitCount_0f7a4_41 : decode cJ6_bitCount_0f7a4 41 = .ok (.iload_n 0, 1) := by decide +kernel
theorem dJ6_bitCount_0f7a4_42 : decode cJ6_bitCount_0f7a4 42 = .ok (.iload_n 0, 1) := by decide +kernel
theorem dJ6_bitCount_0f7a4_43 : decode cJ6_bitCount_0f7a4 43 = .ok (.bipush 16, 2) := by decide +kernel
theorem dJ6_bitCount_0f7a4_45 : decode cJ6_bitCount_0f7a4 45 = .ok (.iushr, 1) := by decide +kernel
theorem dJ6_bitCount_0f7a4_46 : decode cJ6_bitCount_0f7a4 46 = .ok (.iadd, 1) := by decide +kernel
theorem dJ6_bitCount_0f7a4_47 : decode cJ6_bitCount_0f7a4 47 = .ok (.istore_n 0, 1) := by decide +kernel
theorem dJ6_bitCount_0f7a4_48 : decode cJ6_bitCount_0f7a4 48 = .ok (.iload_n 0, 1) := by decide +kernel
theorem dJ6_bitCount_0f7a4_49 : decode cJ6_bitCount_0f7a4 49 = .ok (.bipush 63, 2) := by decide +kernel
theorem dJ6_bitCount_0f7a4_51 : decode cJ6_bitCount_0f7a4 51 = .ok (.iand, 1) := by decide +kernel
theorem dJ6_bitCount_0f7a4_52 : decode cJ6_bitCount_0f7a4 52 = .ok (.ireturn, 1) := by decide +kernel
theorem dJ7_fill_53178_0 : decode cJ7_fill_53178 0 = .ok (.iconst 0, 1) := by decide +kernel
theorem dJ7_fill_53178_1 : decode cJ7_fill_53178 1 = .ok (.istore_n 2, 1) := by decide +kernel
theorem dJ7_fill_53178_2 : decode cJ7_fill_53178 2 = .ok (.aload_n 0, 1) := by decide +kernel
theorem dJ7_fill_53178_3 : decode cJ7_fill_53178 3 = .ok (.arraylength, 1) := by decide +kernel
theorem dJ7_fill_53178_4 : decode cJ7_fill_53178 4 = .ok (.istore_n 3, 1) := by decide +kernel
theorem dJ7_fill_53178_5 : decode cJ7_fill_53178 5 = .ok (.iload_n 2, 1) := by decide +kernel
theorem dJ7_fill_53178_6 : decode cJ7_fill_53178 6 = .ok (.iload_n 3, 1) := by decide +kernel
theorem dJ7_fill_53178_7 : decode cJ7_fill_53178 7 = .ok (.if_icmp .ge 13, 3) := by decide +kernel
theorem dJ7_fill_53178_10 : decode cJ7_fill_53178 10 = .ok (.aload_n 0, 1) := by decide +kernel
theorem dJ7_fill_53178_11 : decode cJ7_fill_53178 11 = .ok (.iload_n 2, 1) := by decide +kernel
theorem dJ7_fill_53178_12 : decode cJ7_fill_53178 12 = .ok (.iload_n 1, 1) := by decide +kernel
theorem dJ7_fill_53178_13 : decode cJ7_fill_53178 13 = .ok (.iastore, 1) := by decide +kernel
theorem dJ7_fill_53178_14 : decode cJ7_fill_53178 14 = .ok (.iinc 2 1, 3) := by decide +kernel
theorem dJ7_fill_53178_17 : decode cJ7_fill_53178 17 = .ok (.goto (-12), 3) := by decide +kernel
theorem dJ7_fill_53178_20 : decode cJ7_fill_53178 20 = .ok (.return_, 1) := by decide +kernel
theorem dL_law_0 : decode cL_law 0 = .ok (.new 7, 3) := by decide +kernel
theorem dL_law_3 : decode cL_law 3 = .ok (.dup, 1) := by decide +kernel
theorem dL_law_4 : decode cL_law 4 = .ok (.invokespecial 9, 3) := by decide +kernel
theorem dL_law_7 : decode cL_law 7 = .ok (.astore_n 1, 1) := by decide +kernel
theorem dL_law_8 : decode cL_law 8 = .ok (.new 10, 3) := by decide +kernel
theorem dL_law_11 : decode cL_law 11 = .ok (.dup, 1) := by decide +kernel
theorem dL_law_12 : decode cL_law 12 = .ok (.invokespecial 12, 3) := by decide +kernel
theorem dL_law_15 : decode cL_law 15 = .ok (.astore_n 2, 1) := by decide +kernel
theorem dL_law_16 : decode cL_law 16 = .ok (.iconst 0, 1) := by decide +kernel
theorem dL_law_17 : decode cL_law 17 = .ok (.istore_n 3, 1) := by decide +kernel
theorem dL_law_18 : decode cL_law 18 = .ok (.iload_n 3, 1) := by decide +kernel
theorem dL_law_19 : decode cL_law 19 = .ok (.aload_n 0, 1) := by decide +kernel
theorem dL_law_20 : decode cL_law 20 = .ok (.arraylength, 1) := by decide +kernel
theorem dL_law_21 : decode cL_law 21 = .ok (.bipush 6, 2) := by decide +kernel
theorem dL_law_23 : decode cL_law 23 = .ok (.isub, 1) := by decide +kernel
theorem dL_law_24 : decode cL_law 24 = .ok (.if_icmp .gt 826, 3) := by decide +kernel
theorem dL_law_27 : decode cL_law 27 = .ok (.aload_n 0, 1) := by decide +kernel
theorem dL_law_28 : decode cL_law 28 = .ok (.iload_n 3, 1) := by decide +kernel
theorem dL_law_29 : decode cL_law 29 = .ok (.iaload, 1) := by decide +kernel
theorem dL_law_30 : decode cL_law 30 = .ok (.bipush 31, 2) := by decide +kernel
theorem dL_law_32 : decode cL_law 32 = .ok (.iand, 1) := by decide +kernel
theorem dL_law_33 : decode cL_law 33 = .ok (.tableswitch 811 0 27 #[127, 150, 163, 176, 189, 222, 245, 268, 301, 324, 337, 350, 363, 396, 419, 452, 475, 498, 531, 544, 567, 590, 633, 696, 719, 762, 775, 788], 127) := by decide +kernel
theorem dL_law_160 : decode cL_law 160 = .ok (.aload_n 1, 1) := by decide +kernel
theorem dL_law_161 : decode cL_law 161 = .ok (.aload_n 0, 1) := by decide +kernel
theorem dL_law_162 : decode cL_law 162 = .ok (.iload_n 3, 1) := by decide +kernel
theorem dL_law_163 : decode cL_law 163 = .ok (.iconst 1, 1) := by decide +kernel
theorem dL_law_164 : decode cL_law 164 = .ok (.iadd, 1) := by decide +kernel
theorem dL_law_165 : decode cL_law 165 = .ok (.iaload, 1) := by decide +kernel
theorem dL_law_166 : decode cL_law 166 = .ok (.invokevirtual 13, 3) := by decide +kernel
theorem dL_law_169 : decode cL_law 169 = .ok (.aload_n 2, 1) := by decide +kernel
theorem dL_law_170 : decode cL_law 170 = .ok (.aload_n 0, 1) := by decide +kernel
theorem dL_law_171 : decode cL_law 171 = .ok (.iload_n 3, 1) := by decide +kernel
theorem dL_law_172 : decode cL_law 172 = .ok (.iconst 1, 1) := by decide +kernel
theorem dL_law_173 : decode cL_law 173 = .ok (.iadd, 1) := by decide +kernel
theorem dL_law_174 : decode cL_law 174 = .ok (.iaload, 1) := by decide +kernel
theorem dL_law_175 : decode cL_law 175 = .ok (.invokevirtual 17, 3) := by decide +kernel
theorem dL_law_178 : decode cL_law 178 = .ok (.if_icmp .eq 666, 3) := by decide +kernel
theorem dL_law_181 : decode cL_law 181 = .ok (.iconst 0, 1) := by decide +kernel
theorem dL_law_182 : decode cL_law 182 = .ok (.ireturn, 1) := by decide +kernel
theorem dL_law_183 : decode cL_law 183 = .ok (.aload_n 1, 1) := by decide +kernel
theorem dL_law_184 : decode cL_law 184 = .ok (.invokevirtual 18, 3) := by decide +kernel
theorem dL_law_187 : decode cL_law 187 = .ok (.aload_n 2, 1) := by decide +kernel
theorem dL_law_188 : decode cL_law 188 = .ok (.invokevirtual 22, 3) := by decide +kernel
theorem dL_law_191 : decode cL_law 191 = .ok (.if_icmp .eq 653, 3) := by decide +kernel
theorem dL_law_194 : decode cL_law 194 = .ok (.iconst 0, 1) := by decide +kernel
theorem dL_law_195 : decode cL_law 195 = .ok (.ireturn, 1) := by decide +kernel
theorem dL_law_196 : decode cL_law 196 = .ok (.aload_n 1, 1) := by decide +kernel
theorem dL_law_197 : decode cL_law 197 = .ok (.invokevirtual 23, 3) := by decide +kernel
theorem dL_law_200 : decode cL_law 200 = .ok (.aload_n 2, 1) := by decide +kernel
theorem dL_law_201 : decode cL_law 201 = .ok (.invokevirtual 26, 3) := by decide +kernel
theorem dL_law_204 : decode cL_law 204 = .ok (.if_icmp .eq 640, 3) := by decide +kernel
theorem dL_law_207 : decode cL_law 207 = .ok (.iconst 0, 1) := by decide +kernel
theorem dL_law_208 : decode cL_law 208 = .ok (.ireturn, 1) := by decide +kernel
theorem dL_law_209 : decode cL_law 209 = .ok (.aload_n 1, 1) := by decide +kernel
theorem dL_law_210 : decode cL_law 210 = .ok (.invokevirtual 27, 3) := by decide +kernel
theorem dL_law_213 : decode cL_law 213 = .ok (.aload_n 2, 1) := by decide +kernel
theorem dL_law_214 : decode cL_law 214 = .ok (.invokevirtual 30, 3) := by decide +kernel
theorem dL_law_217 : decode cL_law 217 = .ok (.if_icmp .eq 627, 3) := by decide +kernel
theorem dL_law_220 : decode cL_law 220 = .ok (.iconst 0, 1) := by decide +kernel
theorem dL_law_221 : decode cL_law 221 = .ok (.ireturn, 1) := by decide +kernel
theorem dL_law_222 : decode cL_law 222 = .ok (.aload_n 1, 1) := by decide +kernel
theorem dL_law_223 : decode cL_law 223 = .ok (.aload_n 0, 1) := by decide +kernel
theorem dL_law_224 : decode cL_law 224 = .ok (.iload_n 3, 1) := by decide +kernel
theorem dL_law_225 : decode cL_law 225 = .ok (.iconst 1, 1) := by decide +kernel
theorem dL_law_226 : decode cL_law 226 = .ok (.iadd, 1) := by decide +kernel
theorem dL_law_227 : decode cL_law 227 = .ok (.iaload, 1) := by decide +kernel
theorem dL_law_228 : decode cL_law 228 = .ok (.aload_n 0, 1) := by decide +kernel
theorem dL_law_229 : decode cL_law 229 = .ok (.iload_n 3, 1) := by decide +kernel
theorem dL_law_230 : decode cL_law 230 = .ok (.iconst 2, 1) := by decide +kernel
theorem dL_law_231 : decode cL_law 231 = .ok (.iadd, 1) := by decide +kernel
theorem dL_law_232 : decode cL_law 232 = .ok (.iaload, 1) := by decide +kernel
theorem dL_law_233 : decode cL_law 233 = .ok (.invokevirtual 31, 3) := by decide +kernel
theorem dL_law_236 : decode cL_law 236 = .ok (.aload_n 2, 1) := by decide +kernel
theorem dL_law_237 : decode cL_law 237 = .ok (.aload_n 0, 1) := by decide +kernel
theorem dL_law_238 : decode cL_law 238 = .ok (.iload_n 3, 1) := by decide +kernel
theorem dL_law_239 : decode cL_law 239 = .ok (.iconst 1, 1) := by decide +kernel
theorem dL_law_240 : decode cL_law 240 = .ok (.iadd, 1) := by decide +kernel
theorem dL_law_241 : decode cL_law 241 = .ok (.iaload, 1) := by decide +kernel
theorem dL_law_242 : decode cL_law 242 = .ok (.aload_n 0, 1) := by decide +kernel
theorem dL_law_243 : decode cL_law 243 = .ok (.iload_n 3, 1) := by decide +kernel
theorem dL_law_244 : decode cL_law 244 = .ok (.iconst 2, 1) := by decide +kernel
theorem dL_law_245 : decode cL_law 245 = .ok (.iadd, 1) := by decide +kernel
theorem dL_law_246 : decode cL_law 246 = .ok (.iaload, 1) := by decide +kernel
theorem dL_law_247 : decode cL_law 247 = .ok (.invokevirtual 35, 3) := by decide +kernel
theorem dL_law_250 : decode cL_law 250 = .ok (.if_icmp .eq 594, 3) := by decide +kernel
theorem dL_law_253 : decode cL_law 253 = .ok (.iconst 0, 1) := by decide +kernel
theorem dL_law_254 : decode cL_law 254 = .ok (.ireturn, 1) := by decide +kernel
theorem dL_law_255 : decode cL_law 255 = .ok (.aload_n 1, 1) := by decide +kernel
theorem dL_law_256 : decode cL_law 256 = .ok (.aload_n 0, 1) := by decide +kernel
theorem dL_law_257 : decode cL_law 257 = .ok (.iload_n 3, 1) := by decide +kernel
theorem dL_law_258 : decode cL_law 258 = .ok (.iconst 1, 1) := by decide +kernel
theorem dL_law_259 : decode cL_law 259 = .ok (.iadd, 1) := by decide +kernel
theorem dL_law_260 : decode cL_law 260 = .ok (.iaload, 1) := by decide +kernel
theorem dL_law_261 : decode cL_law 261 = .ok (.invokevirtual 36, 3) := by decide +kernel
theorem dL_law_264 : decode cL_law 264 = .ok (.aload_n 2, 1) := by decide +kernel
theorem dL_law_265 : decode cL_law 265 = .ok (.aload_n 0, 1) := by decide +kernel
theorem dL_law_266 : decode cL_law 266 = .ok (.iload_n 3, 1) := by decide +kernel
theorem dL_law_267 : decode cL_law 267 = .ok (.iconst 1, 1) := by decide +kernel
theorem dL_law_268 : decode cL_law 268 = .ok (.iadd, 1) := by decide +kernel
theorem dL_law_269 : decode cL_law 269 = .ok (.iaload, 1) := by decide +kernel
theorem dL_law_270 : decode cL_law 270 = .ok (.invokevirtual 39, 3) := by decide +kernel
theorem dL_law_273 : decode cL_law 273 = .ok (.if_icmp .eq 571, 3) := by decide +kernel
theorem dL_law_276 : decode cL_law 276 = .ok (.iconst 0, 1) := by decide +kernel
theorem dL_law_277 : decode cL_law 277 = .ok (.ireturn, 1) := by decide +kernel
theorem dL_law_278 : decode cL_law 278 = .ok (.aload_n 1, 1) := by decide +kernel
theorem dL_law_279 : decode cL_law 279 = .ok (.aload_n 0, 1) := by decide +kernel
theorem dL_law_280 : decode cL_law 280 = .ok (.iload_n 3, 1) := by decide +kernel
theorem dL_law_281 : decode cL_law 281 = .ok (.iconst 1, 1) := by decide +kernel
theorem dL_law_282 : decode cL_law 282 = .ok (.iadd, 1) := by decide +kernel
theorem dL_law_283 : decode cL_law 283 = .ok (.iaload, 1) := by decide +kernel
theorem dL_law_284 : decode cL_law 284 = .ok (.invokevirtual 40, 3) := by decide +kernel
theorem dL_law_287 : decode cL_law 287 = .ok (.aload_n 2, 1) := by decide +kernel
theorem dL_law_288 : decode cL_law 288 = .ok (.aload_n 0, 1) := by decide +kernel
theorem dL_law_289 : decode cL_law 289 = .ok (.iload_n 3, 1) := by decide +kernel
theorem dL_law_290 : decode cL_law 290 = .ok (.iconst 1, 1) := by decide +kernel
theorem dL_law_291 : decode cL_law 291 = .ok (.iadd, 1) := by decide +kernel
theorem dL_law_292 : decode cL_law 292 = .ok (.iaload, 1) := by decide +kernel
theorem dL_law_293 : decode cL_law 293 = .ok (.invokevirtual 43, 3) := by decide +kernel
theorem dL_law_296 : decode cL_law 296 = .ok (.if_icmp .eq 548, 3) := by decide +kernel
theorem dL_law_299 : decode cL_law 299 = .ok (.iconst 0, 1) := by decide +kernel
theorem dL_law_300 : decode cL_law 300 = .ok (.ireturn, 1) := by decide +kernel
theorem dL_law_301 : decode cL_law 301 = .ok (.aload_n 1, 1) := by decide +kernel
theorem dL_law_302 : decode cL_law 302 = .ok (.aload_n 0, 1) := by decide +kernel
theorem dL_law_303 : decode cL_law 303 = .ok (.iload_n 3, 1) := by decide +kernel
theorem dL_law_304 : decode cL_law 304 = .ok (.iconst 1, 1) := by decide +kernel
theorem dL_law_305 : decode cL_law 305 = .ok (.iadd, 1) := by decide +kernel
theorem dL_law_306 : decode cL_law 306 = .ok (.iaload, 1) := by decide +kernel
theorem dL_law_307 : decode cL_law 307 = .ok (.aload_n 0, 1) := by decide +kernel
theorem dL_law_308 : decode cL_law 308 = .ok (.iload_n 3, 1) := by decide +kernel
theorem dL_law_309 : decode cL_law 309 = .ok (.iconst 2, 1) := by decide +kernel
theorem dL_law_310 : decode cL_law 310 = .ok (.iadd, 1) := by decide +kernel
theorem dL_law_311 : decode cL_law 311 = .ok (.iaload, 1) := by decide +kernel
theorem dL_law_312 : decode cL_law 312 = .ok (.invokevirtual 44, 3) := by decide +kernel
theorem dL_law_315 : decode cL_law 315 = .ok (.aload_n 2, 1) := by decide +kernel
theorem dL_law_316 : decode cL_law 316 = .ok (.aload_n 0, 1) := by decide +kernel
theorem dL_law_317 : decode cL_law 317 = .ok (.iload_n 3, 1) := by decide +kernel
theorem dL_law_318 : decode cL_law 318 = .ok (.iconst 1, 1) := by decide +kernel
theorem dL_law_319 : decode cL_law 319 = .ok (.iadd, 1) := by decide +kernel
theorem dL_law_320 : decode cL_law 320 = .ok (.iaload, 1) := by decide +kernel
theorem dL_law_321 : decode cL_law 321 = .ok (.aload_n 0, 1) := by decide +kernel
theorem dL_law_322 : decode cL_law 322 = .ok (.iload_n 3, 1) := by decide +kernel
theorem dL_law_323 : decode cL_law 323 = .ok (.iconst 2, 1) := by decide +kernel
theorem dL_law_324 : decode cL_law 324 = .ok (.iadd, 1) := by decide +kernel
theorem dL_law_325 : decode cL_law 325 = .ok (.iaload, 1) := by decide +kernel
theorem dL_law_326 : decode cL_law 326 = .ok (.invokevirtual 47, 3) := by decide +kernel
theorem dL_law_329 : decode cL_law 329 = .ok (.if_icmp .eq 515, 3) := by decide +kernel
theorem dL_law_332 : decode cL_law 332 = .ok (.iconst 0, 1) := by decide +kernel
theorem dL_law_333 : decode cL_law 333 = .ok (.ireturn, 1) := by decide +kernel
theorem dL_law_334 : decode cL_law 334 = .ok (.aload_n 1, 1) := by decide +kernel
theorem dL_law_335 : decode cL_law 335 = .ok (.aload_n 0, 1) := by decide +kernel
theorem dL_law_336 : decode cL_law 336 = .ok (.iload_n 3, 1) := by decide +kernel
theorem dL_law_337 : decode cL_law 337 = .ok (.iconst 1, 1) := by decide +kernel
theorem dL_law_338 : decode cL_law 338 = .ok (.iadd, 1) := by decide +kernel
theorem dL_law_339 : decode cL_law 339 = .ok (.iaload, 1) := by decide +kernel
theorem dL_law_340 : decode cL_law 340 = .ok (.invokevirtual 48, 3) := by decide +kernel
theorem dL_law_343 : decode cL_law 343 = .ok (.aload_n 2, 1) := by decide +kernel
theorem dL_law_344 : decode cL_law 344 = .ok (.aload_n 0, 1) := by decide +kernel
theorem dL_law_345 : decode cL_law 345 = .ok (.iload_n 3, 1) := by decide +kernel
theorem dL_law_346 : decode cL_law 346 = .ok (.iconst 1, 1) := by decide +kernel
theorem dL_law_347 : decode cL_law 347 = .ok (.iadd, 1) := by decide +kernel
theorem dL_law_348 : decode cL_law 348 = .ok (.iaload, 1) := by decide +kernel
theorem dL_law_349 : decode cL_law 349 = .ok (.invokevirtual 51, 3) := by decide +kernel
theorem dL_law_352 : decode cL_law 352 = .ok (.if_icmp .eq 492, 3) := by decide +kernel
theorem dL_law_355 : decode cL_law 355 = .ok (.iconst 0, 1) := by decide +kernel
theorem dL_law_356 : decode cL_law 356 = .ok (.ireturn, 1) := by decide +kernel
theorem dL_law_357 : decode cL_law 357 = .ok (.aload_n 1, 1) := by decide +kernel
theorem dL_law_358 : decode cL_law 358 = .ok (.invokevirtual 52, 3) := by decide +kernel
theorem dL_law_361 : decode cL_law 361 = .ok (.aload_n 2, 1) := by decide +kernel
theorem dL_law_362 : decode cL_law 362 = .ok (.invokevirtual 55, 3) := by decide +kernel
theorem dL_law_365 : decode cL_law 365 = .ok (.if_icmp .eq 479, 3) := by decide +kernel
theorem dL_law_368 : decode cL_law 368 = .ok (.iconst 0, 1) := by decide +kernel
theorem dL_law_369 : decode cL_law 369 = .ok (.ireturn, 1) := by decide +kernel
theorem dL_law_370 : decode cL_law 370 = .ok (.aload_n 1, 1) := by decide +kernel
theorem dL_law_371 : decode cL_law 371 = .ok (.invokevirtual 56, 3) := by decide +kernel
theorem dL_law_374 : decode cL_law 374 = .ok (.aload_n 2, 1) := by decide +kernel
theorem dL_law_375 : decode cL_law 375 = .ok (.invokevirtual 59, 3) := by decide +kernel
theorem dL_law_378 : decode cL_law 378 = .ok (.if_icmp .eq 466, 3) := by decide +kernel
theorem dL_law_381 : decode cL_law 381 = .ok (.iconst 0, 1) := by decide +kernel
theorem dL_law_382 : decode cL_law 382 = .ok (.ireturn, 1) := by decide +kernel
theorem dL_law_383 : decode cL_law 383 = .ok (.aload_n 1, 1) := by decide +kernel
theorem dL_law_384 : decode cL_law 384 = .ok (.invokevirtual 60, 3) := by decide +kernel
theorem dL_law_387 : decode cL_law 387 = .ok (.aload_n 2, 1) := by decide +kernel
theorem dL_law_388 : decode cL_law 388 = .ok (.invokevirtual 63, 3) := by decide +kernel
theorem dL_law_391 : decode cL_law 391 = .ok (.if_icmp .eq 453, 3) := by decide +kernel
theorem dL_law_394 : decode cL_law 394 = .ok (.iconst 0, 1) := by decide +kernel
theorem dL_law_395 : decode cL_law 395 = .ok (.ireturn, 1) := by decide +kernel
theorem dL_law_396 : decode cL_law 396 = .ok (.aload_n 1, 1) := by decide +kernel
theorem dL_law_397 : decode cL_law 397 = .ok (.aload_n 0, 1) := by decide +kernel
theorem dL_law_398 : decode cL_law 398 = .ok (.iload_n 3, 1) := by decide +kernel
theorem dL_law_399 : decode cL_law 399 = .ok (.iconst 1, 1) := by decide +kernel
theorem dL_law_400 : decode cL_law 400 = .ok (.iadd, 1) := by decide +kernel
theorem dL_law_401 : decode cL_law 401 = .ok (.iaload, 1) := by decide +kernel
theorem dL_law_402 : decode cL_law 402 = .ok (.aload_n 0, 1) := by decide +kernel
theorem dL_law_403 : decode cL_law 403 = .ok (.iload_n 3, 1) := by decide +kernel
theorem dL_law_404 : decode cL_law 404 = .ok (.iconst 2, 1) := by decide +kernel
theorem dL_law_405 : decode cL_law 405 = .ok (.iadd, 1) := by decide +kernel
theorem dL_law_406 : decode cL_law 406 = .ok (.iaload, 1) := by decide +kernel
theorem dL_law_407 : decode cL_law 407 = .ok (.invokevirtual 64, 3) := by decide +kernel
theorem dL_law_410 : decode cL_law 410 = .ok (.aload_n 2, 1) := by decide +kernel
theorem dL_law_411 : decode cL_law 411 = .ok (.aload_n 0, 1) := by decide +kernel
theorem dL_law_412 : decode cL_law 412 = .ok (.iload_n 3, 1) := by decide +kernel
theorem dL_law_413 : decode cL_law 413 = .ok (.iconst 1, 1) := by decide +kernel
theorem dL_law_414 : decode cL_law 414 = .ok (.iadd, 1) := by decide +kernel
theorem dL_law_415 : decode cL_law 415 = .ok (.iaload, 1) := by decide +kernel
theorem dL_law_416 : decode cL_law 416 = .ok (.aload_n 0, 1) := by decide +kernel
theorem dL_law_417 : decode cL_law 417 = .ok (.iload_n 3, 1) := by decide +kernel
theorem dL_law_418 : decode cL_law 418 = .ok (.iconst 2, 1) := by decide +kernel
theorem dL_law_419 : decode cL_law 419 = .ok (.iadd, 1) := by decide +kernel
theorem dL_law_420 : decode cL_law 420 = .ok (.iaload, 1) := by decide +kernel
theorem dL_law_421 : decode cL_law 421 = .ok (.invokevirtual 67, 3) := by decide +kernel
theorem dL_law_424 : decode cL_law 424 = .ok (.if_icmp .eq 420, 3) := by decide +kernel
theorem dL_law_427 : decode cL_law 427 = .ok (.iconst 0, 1) := by decide +kernel
theorem dL_law_428 : decode cL_law 428 = .ok (.ireturn, 1) := by decide +kernel
theorem dL_law_429 : decode cL_law 429 = .ok (.aload_n 1, 1) := by decide +kernel
theorem dL_law_430 : decode cL_law 430 = .ok (.aload_n 0, 1) := by decide +kernel
theorem dL_law_431 : decode cL_law 431 = .ok (.iload_n 3, 1) := by decide +kernel
theorem dL_law_432 : decode cL_law 432 = .ok (.iconst 1, 1) := by decide +kernel
theorem dL_law_433 : decode cL_law 433 = .ok (.iadd, 1) := by decide +kernel
theorem dL_law_434 : decode cL_law 434 = .ok (.iaload, 1) := by decide +kernel
theorem dL_law_435 : decode cL_law 435 = .ok (.invokevirtual 68, 3) := by decide +kernel
theorem dL_law_438 : decode cL_law 438 = .ok (.aload_n 2, 1) := by decide +kernel
theorem dL_law_439 : decode cL_law 439 = .ok (.aload_n 0, 1) := by decide +kernel
theorem dL_law_440 : decode cL_law 440 = .ok (.iload_n 3, 1) := by decide +kernel
theorem dL_law_441 : decode cL_law 441 = .ok (.iconst 1, 1) := by decide +kernel
theorem dL_law_442 : decode cL_law 442 = .ok (.iadd, 1) := by decide +kernel
theorem dL_law_443 : decode cL_law 443 = .ok (.iaload, 1) := by decide +kernel
theorem dL_law_444 : decode cL_law 444 = .ok (.invokevirtual 71, 3) := by decide +kernel
theorem dL_law_447 : decode cL_law 447 = .ok (.if_icmp .eq 397, 3) := by decide +kernel
theorem dL_law_450 : decode cL_law 450 = .ok (.iconst 0, 1) := by decide +kernel
theorem dL_law_451 : decode cL_law 451 = .ok (.ireturn, 1) := by decide +kernel
theorem dL_law_452 : decode cL_law 452 = .ok (.aload_n 1, 1) := by decide +kernel
theorem dL_law_453 : decode cL_law 453 = .ok (.aload_n 0, 1) := by decide +kernel
theorem dL_law_454 : decode cL_law 454 = .ok (.iload_n 3, 1) := by decide +kernel
theorem dL_law_455 : decode cL_law 455 = .ok (.iconst 1, 1) := by decide +kernel
theorem dL_law_456 : decode cL_law 456 = .ok (.iadd, 1) := by decide +kernel
theorem dL_law_457 : decode cL_law 457 = .ok (.iaload, 1) := by decide +kernel
theorem dL_law_458 : decode cL_law 458 = .ok (.aload_n 0, 1) := by decide +kernel
theorem dL_law_459 : decode cL_law 459 = .ok (.iload_n 3, 1) := by decide +kernel
theorem dL_law_460 : decode cL_law 460 = .ok (.iconst 2, 1) := by decide +kernel
theorem dL_law_461 : decode cL_law 461 = .ok (.iadd, 1) := by decide +kernel
theorem dL_law_462 : decode cL_law 462 = .ok (.iaload, 1) := by decide +kernel
theorem dL_law_463 : decode cL_law 463 = .ok (.invokevirtual 72, 3) := by decide +kernel
theorem dL_law_466 : decode cL_law 466 = .ok (.aload_n 2, 1) := by decide +kernel
theorem dL_law_467 : decode cL_law 467 = .ok (.aload_n 0, 1) := by decide +kernel
theorem dL_law_468 : decode cL_law 468 = .ok (.iload_n 3, 1) := by decide +kernel
theorem dL_law_469 : decode cL_law 469 = .ok (.iconst 1, 1) := by decide +kernel
theorem dL_law_470 : decode cL_law 470 = .ok (.iadd, 1) := by decide +kernel
theorem dL_law_471 : decode cL_law 471 = .ok (.iaload, 1) := by decide +kernel
theorem dL_law_472 : decode cL_law 472 = .ok (.aload_n 0, 1) := by decide +kernel
theorem dL_law_473 : decode cL_law 473 = .ok (.iload_n 3, 1) := by decide +kernel
theorem dL_law_474 : decode cL_law 474 = .ok (.iconst 2, 1) := by decide +kernel
theorem dL_law_475 : decode cL_law 475 = .ok (.iadd, 1) := by decide +kernel
theorem dL_law_476 : decode cL_law 476 = .ok (.iaload, 1) := by decide +kernel
theorem dL_law_477 : decode cL_law 477 = .ok (.invokevirtual 75, 3) := by decide +kernel
theorem dL_law_480 : decode cL_law 480 = .ok (.if_icmp .eq 364, 3) := by decide +kernel
theorem dL_law_483 : decode cL_law 483 = .ok (.iconst 0, 1) := by decide +kernel
theorem dL_law_484 : decode cL_law 484 = .ok (.ireturn, 1) := by decide +kernel
theorem dL_law_485 : decode cL_law 485 = .ok (.aload_n 1, 1) := by decide +kernel
theorem dL_law_486 : decode cL_law 486 = .ok (.aload_n 0, 1) := by decide +kernel
theorem dL_law_487 : decode cL_law 487 = .ok (.iload_n 3, 1) := by decide +kernel
theorem dL_law_488 : decode cL_law 488 = .ok (.iconst 1, 1) := by decide +kernel
theorem dL_law_489 : decode cL_law 489 = .ok (.iadd, 1) := by decide +kernel
theorem dL_law_490 : decode cL_law 490 = .ok (.iaload, 1) := by decide +kernel
theorem dL_law_491 : decode cL_law 491 = .ok (.invokevirtual 76, 3) := by decide +kernel
theorem dL_law_494 : decode cL_law 494 = .ok (.aload_n 2, 1) := by decide +kernel
theorem dL_law_495 : decode cL_law 495 = .ok (.aload_n 0, 1) := by decide +kernel
theorem dL_law_496 : decode cL_law 496 = .ok (.iload_n 3, 1) := by decide +kernel
theorem dL_law_497 : decode cL_law 497 = .ok (.iconst 1, 1) := by decide +kernel
theorem dL_law_498 : decode cL_law 498 = .ok (.iadd, 1) := by decide +kernel
theorem dL_law_499 : decode cL_law 499 = .ok (.iaload, 1) := by decide +kernel
theorem dL_law_500 : decode cL_law 500 = .ok (.invokevirtual 79, 3) := by decide +kernel
theorem dL_law_503 : decode cL_law 503 = .ok (.if_icmp .eq 341, 3) := by decide +kernel
theorem dL_law_506 : decode cL_law 506 = .ok (.iconst 0, 1) := by decide +kernel
theorem dL_law_507 : decode cL_law 507 = .ok (.ireturn, 1) := by decide +kernel
theorem dL_law_508 : decode cL_law 508 = .ok (.aload_n 1, 1) := by decide +kernel
theorem dL_law_509 : decode cL_law 509 = .ok (.aload_n 0, 1) := by decide +kernel
theorem dL_law_510 : decode cL_law 510 = .ok (.iload_n 3, 1) := by decide +kernel
theorem dL_law_511 : decode cL_law 511 = .ok (.iconst 1, 1) := by decide +kernel
theorem dL_law_512 : decode cL_law 512 = .ok (.iadd, 1) := by decide +kernel
theorem dL_law_513 : decode cL_law 513 = .ok (.iaload, 1) := by decide +kernel
theorem dL_law_514 : decode cL_law 514 = .ok (.invokevirtual 80, 3) := by decide +kernel
theorem dL_law_517 : decode cL_law 517 = .ok (.aload_n 2, 1) := by decide +kernel
theorem dL_law_518 : decode cL_law 518 = .ok (.aload_n 0, 1) := by decide +kernel
theorem dL_law_519 : decode cL_law 519 = .ok (.iload_n 3, 1) := by decide +kernel
theorem dL_law_520 : decode cL_law 520 = .ok (.iconst 1, 1) := by decide +kernel
theorem dL_law_521 : decode cL_law 521 = .ok (.iadd, 1) := by decide +kernel
theorem dL_law_522 : decode cL_law 522 = .ok (.iaload, 1) := by decide +kernel
theorem dL_law_523 : decode cL_law 523 = .ok (.invokevirtual 83, 3) := by decide +kernel
theorem dL_law_526 : decode cL_law 526 = .ok (.if_icmp .eq 318, 3) := by decide +kernel
theorem dL_law_529 : decode cL_law 529 = .ok (.iconst 0, 1) := by decide +kernel
theorem dL_law_530 : decode cL_law 530 = .ok (.ireturn, 1) := by decide +kernel
theorem dL_law_531 : decode cL_law 531 = .ok (.aload_n 1, 1) := by decide +kernel
theorem dL_law_532 : decode cL_law 532 = .ok (.aload_n 0, 1) := by decide +kernel
theorem dL_law_533 : decode cL_law 533 = .ok (.iload_n 3, 1) := by decide +kernel
theorem dL_law_534 : decode cL_law 534 = .ok (.iconst 1, 1) := by decide +kernel
theorem dL_law_535 : decode cL_law 535 = .ok (.iadd, 1) := by decide +kernel
theorem dL_law_536 : decode cL_law 536 = .ok (.iaload, 1) := by decide +kernel
theorem dL_law_537 : decode cL_law 537 = .ok (.aload_n 0, 1) := by decide +kernel
theorem dL_law_538 : decode cL_law 538 = .ok (.iload_n 3, 1) := by decide +kernel
theorem dL_law_539 : decode cL_law 539 = .ok (.iconst 2, 1) := by decide +kernel
theorem dL_law_540 : decode cL_law 540 = .ok (.iadd, 1) := by decide +kernel
theorem dL_law_541 : decode cL_law 541 = .ok (.iaload, 1) := by decide +kernel
theorem dL_law_542 : decode cL_law 542 = .ok (.invokevirtual 84, 3) := by decide +kernel
theorem dL_law_545 : decode cL_law 545 = .ok (.aload_n 2, 1) := by decide +kernel
theorem dL_law_546 : decode cL_law 546 = .ok (.aload_n 0, 1) := by decide +kernel
theorem dL_law_547 : decode cL_law 547 = .ok (.iload_n 3, 1) := by decide +kernel
theorem dL_law_548 : decode cL_law 548 = .ok (.iconst 1, 1) := by decide +kernel
theorem dL_law_549 : decode cL_law 549 = .ok (.iadd, 1) := by decide +kernel
theorem dL_law_550 : decode cL_law 550 = .ok (.iaload, 1) := by decide +kernel
theorem dL_law_551 : decode cL_law 551 = .ok (.aload_n 0, 1) := by decide +kernel
theorem dL_law_552 : decode cL_law 552 = .ok (.iload_n 3, 1) := by decide +kernel
theorem dL_law_553 : decode cL_law 553 = .ok (.iconst 2, 1) := by decide +kernel
theorem dL_law_554 : decode cL_law 554 = .ok (.iadd, 1) := by decide +kernel
theorem dL_law_555 : decode cL_law 555 = .ok (.iaload, 1) := by decide +kernel
theorem dL_law_556 : decode cL_law 556 = .ok (.invokevirtual 87, 3) := by decide +kernel
theorem dL_law_559 : decode cL_law 559 = .ok (.if_icmp .eq 285, 3) := by decide +kernel
theorem dL_law_562 : decode cL_law 562 = .ok (.iconst 0, 1) := by decide +kernel
theorem dL_law_563 : decode cL_law 563 = .ok (.ireturn, 1) := by decide +kernel
theorem dL_law_564 : decode cL_law 564 = .ok (.aload_n 1, 1) := by decide +kernel
theorem dL_law_565 : decode cL_law 565 = .ok (.invokevirtual 88, 3) := by decide +kernel
theorem dL_law_568 : decode cL_law 568 = .ok (.aload_n 2, 1) := by decide +kernel
theorem dL_law_569 : decode cL_law 569 = .ok (.invokevirtual 91, 3) := by decide +kernel
theorem dL_law_572 : decode cL_law 572 = .ok (.if_icmp .eq 272, 3) := by decide +kernel
theorem dL_law_575 : decode cL_law 575 = .ok (.iconst 0, 1) := by decide +kernel
theorem dL_law_576 : decode cL_law 576 = .ok (.ireturn, 1) := by decide +kernel
theorem dL_law_577 : decode cL_law 577 = .ok (.aload_n 1, 1) := by decide +kernel
theorem dL_law_578 : decode cL_law 578 = .ok (.aload_n 0, 1) := by decide +kernel
theorem dL_law_579 : decode cL_law 579 = .ok (.iload_n 3, 1) := by decide +kernel
theorem dL_law_580 : decode cL_law 580 = .ok (.iconst 1, 1) := by decide +kernel
theorem dL_law_581 : decode cL_law 581 = .ok (.iadd, 1) := by decide +kernel
theorem dL_law_582 : decode cL_law 582 = .ok (.iaload, 1) := by decide +kernel
theorem dL_law_583 : decode cL_law 583 = .ok (.invokevirtual 92, 3) := by decide +kernel
theorem dL_law_586 : decode cL_law 586 = .ok (.aload_n 2, 1) := by decide +kernel
theorem dL_law_587 : decode cL_law 587 = .ok (.aload_n 0, 1) := by decide +kernel
