theorem dX11_noon_7 : decode cX11_noon 7 = .ok (.ifCond .lt 26, 3) := by decide +kernel
theorem dX11_noon_10 : decode cX11_noon 10 = .ok (.aload_n 0, 1) := by decide +kernel
theorem dX11_noon_11 : decode cX11_noon 11 = .ok (.iload_n 2, 1) := by decide +kernel
theorem dX11_noon_12 : decode cX11_noon 12 = .ok (.invokevirtual 112, 3) := by decide +kernel
theorem dX11_noon_15 : decode cX11_noon 15 = .ok (.invokestatic 115, 3) := by decide +kernel
theorem dX11_noon_18 : decode cX11_noon 18 = .ok (.ifCond .ne 7, 3) := by decide +kernel
theorem dX11_noon_21 : decode cX11_noon 21 = .ok (.iload_n 2, 1) := by decide +kernel
theorem dX11_noon_22 : decode cX11_noon 22 = .ok (.goto 4, 3) := by decide +kernel
theorem dX11_noon_25 : decode cX11_noon 25 = .ok (.iload_n 1, 1) := by decide +kernel
theorem dX11_noon_26 : decode cX11_noon 26 = .ok (.istore_n 1, 1) := by decide +kernel
theorem dX11_noon_27 : decode cX11_noon 27 = .ok (.iinc 2 (-1), 3) := by decide +kernel
theorem dX11_noon_30 : decode cX11_noon 30 = .ok (.goto (-24), 3) := by decide +kernel
theorem dX11_noon_33 : decode cX11_noon 33 = .ok (.iload_n 1, 1) := by decide +kernel
theorem dX11_noon_34 : decode cX11_noon 34 = .ok (.ireturn, 1) := by decide +kernel
theorem dX11_holds_0 : decode cX11_holds 0 = .ok (.iconst 0, 1) := by decide +kernel
theorem dX11_holds_1 : decode cX11_holds 1 = .ok (.istore_n 1, 1) := by decide +kernel
theorem dX11_holds_2 : decode cX11_holds 2 = .ok (.iload_n 1, 1) := by decide +kernel
theorem dX11_holds_3 : decode cX11_holds 3 = .ok (.bipush 12, 2) := by decide +kernel
theorem dX11_holds_5 : decode cX11_holds 5 = .ok (.if_icmp .ge 21, 3) := by decide +kernel
theorem dX11_holds_8 : decode cX11_holds 8 = .ok (.aload_n 0, 1) := by decide +kernel
theorem dX11_holds_9 : decode cX11_holds 9 = .ok (.getfield 34, 3) := by decide +kernel
theorem dX11_holds_12 : decode cX11_holds 12 = .ok (.iload_n 1, 1) := by decide +kernel
theorem dX11_holds_13 : decode cX11_holds 13 = .ok (.aload_n 0, 1) := by decide +kernel
theorem dX11_holds_14 : decode cX11_holds 14 = .ok (.getfield 19, 3) := by decide +kernel
theorem dX11_holds_17 : decode cX11_holds 17 = .ok (.iload_n 1, 1) := by decide +kernel
theorem dX11_holds_18 : decode cX11_holds 18 = .ok (.iaload, 1) := by decide +kernel
theorem dX11_holds_19 : decode cX11_holds 19 = .ok (.iastore, 1) := by decide +kernel
theorem dX11_holds_20 : decode cX11_holds 20 = .ok (.iinc 1 1, 3) := by decide +kernel
theorem dX11_holds_23 : decode cX11_holds 23 = .ok (.goto (-21), 3) := by decide +kernel
theorem dX11_holds_26 : decode cX11_holds 26 = .ok (.return_, 1) := by decide +kernel
theorem dX11_lets_0 : decode cX11_lets 0 = .ok (.iconst 0, 1) := by decide +kernel
theorem dX11_lets_1 : decode cX11_lets 1 = .ok (.istore_n 1, 1) := by decide +kernel
theorem dX11_lets_2 : decode cX11_lets 2 = .ok (.iload_n 1, 1) := by decide +kernel
theorem dX11_lets_3 : decode cX11_lets 3 = .ok (.bipush 12, 2) := by decide +kernel
theorem dX11_lets_5 : decode cX11_lets 5 = .ok (.if_icmp .ge 21, 3) := by decide +kernel
theorem dX11_lets_8 : decode cX11_lets 8 = .ok (.aload_n 0, 1) := by decide +kernel
theorem dX11_lets_9 : decode cX11_lets 9 = .ok (.getfield 19, 3) := by decide +kernel
theorem dX11_lets_12 : decode cX11_lets 12 = .ok (.iload_n 1, 1) := by decide +kernel
theorem dX11_lets_13 : decode cX11_lets 13 = .ok (.aload_n 0, 1) := by decide +kernel
theorem dX11_lets_14 : decode cX11_lets 14 = .ok (.getfield 34, 3) := by decide +kernel
theorem dX11_lets_17 : decode cX11_lets 17 = .ok (.iload_n 1, 1) := by decide +kernel
theorem dX11_lets_18 : decode cX11_lets 18 = .ok (.iaload, 1) := by decide +kernel
theorem dX11_lets_19 : decode cX11_lets 19 = .ok (.iastore, 1) := by decide +kernel
theorem dX11_lets_20 : decode cX11_lets 20 = .ok (.iinc 1 1, 3) := by decide +kernel
theorem dX11_lets_23 : decode cX11_lets 23 = .ok (.goto (-21), 3) := by decide +kernel
theorem dX11_lets_26 : decode cX11_lets 26 = .ok (.return_, 1) := by decide +kernel
theorem dX11_soon_0 : decode cX11_soon 0 = .ok (.iload_n 1, 1) := by decide +kernel
theorem dX11_soon_1 : decode cX11_soon 1 = .ok (.invokestatic 87, 3) := by decide +kernel
theorem dX11_soon_4 : decode cX11_soon 4 = .ok (.ifCond .eq 12, 3) := by decide +kernel
theorem dX11_soon_7 : decode cX11_soon 7 = .ok (.iload_n 2, 1) := by decide +kernel
theorem dX11_soon_8 : decode cX11_soon 8 = .ok (.iconst 0, 1) := by decide +kernel
theorem dX11_soon_9 : decode cX11_soon 9 = .ok (.iconst 3, 1) := by decide +kernel
theorem dX11_soon_10 : decode cX11_soon 10 = .ok (.invokestatic 61, 3) := by decide +kernel
theorem dX11_soon_13 : decode cX11_soon 13 = .ok (.ifCond .ne 5, 3) := by decide +kernel
theorem dX11_soon_16 : decode cX11_soon 16 = .ok (.iconst (-1), 1) := by decide +kernel
theorem dX11_soon_17 : decode cX11_soon 17 = .ok (.ireturn, 1) := by decide +kernel
theorem dX11_soon_18 : decode cX11_soon 18 = .ok (.aload_n 0, 1) := by decide +kernel
theorem dX11_soon_19 : decode cX11_soon 19 = .ok (.invokevirtual 134, 3) := by decide +kernel
theorem dX11_soon_22 : decode cX11_soon 22 = .ok (.bipush (-4), 2) := by decide +kernel
theorem dX11_soon_24 : decode cX11_soon 24 = .ok (.istore_n 3, 1) := by decide +kernel
theorem dX11_soon_25 : decode cX11_soon 25 = .ok (.iconst 0, 1) := by decide +kernel
theorem dX11_soon_26 : decode cX11_soon 26 = .ok (.istore 4, 2) := by decide +kernel
theorem dX11_soon_28 : decode cX11_soon 28 = .ok (.iload 4, 2) := by decide +kernel
theorem dX11_soon_30 : decode cX11_soon 30 = .ok (.bipush 25, 2) := by decide +kernel
theorem dX11_soon_32 : decode cX11_soon 32 = .ok (.if_icmp .ge 47, 3) := by decide +kernel
theorem dX11_soon_35 : decode cX11_soon 35 = .ok (.iload_n 3, 1) := by decide +kernel
theorem dX11_soon_36 : decode cX11_soon 36 = .ok (.bipush (-4), 2) := by decide +kernel
theorem dX11_soon_38 : decode cX11_soon 38 = .ok (.if_icmp .ne 41, 3) := by decide +kernel
theorem dX11_soon_41 : decode cX11_soon 41 = .ok (.aload_n 0, 1) := by decide +kernel
theorem dX11_soon_42 : decode cX11_soon 42 = .ok (.iload_n 1, 1) := by decide +kernel
theorem dX11_soon_43 : decode cX11_soon 43 = .ok (.invokevirtual 112, 3) := by decide +kernel
theorem dX11_soon_46 : decode cX11_soon 46 = .ok (.invokestatic 115, 3) := by decide +kernel
theorem dX11_soon_49 : decode cX11_soon 49 = .ok (.iload_n 2, 1) := by decide +kernel
theorem dX11_soon_50 : decode cX11_soon 50 = .ok (.if_icmp .lt 8, 3) := by decide +kernel
theorem dX11_soon_53 : decode cX11_soon 53 = .ok (.iload 4, 2) := by decide +kernel
theorem dX11_soon_55 : decode cX11_soon 55 = .ok (.goto 5, 3) := by decide +kernel
theorem dX11_soon_58 : decode cX11_soon 58 = .ok (.bipush (-4), 2) := by decide +kernel
theorem dX11_soon_60 : decode cX11_soon 60 = .ok (.istore_n 3, 1) := by decide +kernel
theorem dX11_soon_61 : decode cX11_soon 61 = .ok (.aload_n 0, 1) := by decide +kernel
theorem dX11_soon_62 : decode cX11_soon 62 = .ok (.aload_n 0, 1) := by decide +kernel
theorem dX11_soon_63 : decode cX11_soon 63 = .ok (.invokevirtual 125, 3) := by decide +kernel
theorem dX11_soon_66 : decode cX11_soon 66 = .ok (.iconst 1, 1) := by decide +kernel
theorem dX11_soon_67 : decode cX11_soon 67 = .ok (.isub, 1) := by decide +kernel
theorem dX11_soon_68 : decode cX11_soon 68 = .ok (.iconst 0, 1) := by decide +kernel
theorem dX11_soon_69 : decode cX11_soon 69 = .ok (.invokevirtual 131, 3) := by decide +kernel
theorem dX11_soon_72 : decode cX11_soon 72 = .ok (.pop, 1) := by decide +kernel
theorem dX11_soon_73 : decode cX11_soon 73 = .ok (.iinc 4 1, 3) := by decide +kernel
theorem dX11_soon_76 : decode cX11_soon 76 = .ok (.goto (-48), 3) := by decide +kernel
theorem dX11_soon_79 : decode cX11_soon 79 = .ok (.aload_n 0, 1) := by decide +kernel
theorem dX11_soon_80 : decode cX11_soon 80 = .ok (.invokevirtual 137, 3) := by decide +kernel
theorem dX11_soon_83 : decode cX11_soon 83 = .ok (.iload_n 3, 1) := by decide +kernel
theorem dX11_soon_84 : decode cX11_soon 84 = .ok (.ireturn, 1) := by decide +kernel
theorem dX11_plan_0 : decode cX11_plan 0 = .ok (.iload_n 1, 1) := by decide +kernel
theorem dX11_plan_1 : decode cX11_plan 1 = .ok (.iconst (-1), 1) := by decide +kernel
theorem dX11_plan_2 : decode cX11_plan 2 = .ok (.if_icmp .eq 13, 3) := by decide +kernel
theorem dX11_plan_5 : decode cX11_plan 5 = .ok (.aload_n 0, 1) := by decide +kernel
theorem dX11_plan_6 : decode cX11_plan 6 = .ok (.iload_n 1, 1) := by decide +kernel
theorem dX11_plan_7 : decode cX11_plan 7 = .ok (.invokevirtual 105, 3) := by decide +kernel
theorem dX11_plan_10 : decode cX11_plan 10 = .ok (.ifCond .ne 5, 3) := by decide +kernel
theorem dX11_plan_13 : decode cX11_plan 13 = .ok (.iconst (-1), 1) := by decide +kernel
theorem dX11_plan_14 : decode cX11_plan 14 = .ok (.ireturn, 1) := by decide +kernel
theorem dX11_plan_15 : decode cX11_plan 15 = .ok (.aload_n 0, 1) := by decide +kernel
theorem dX11_plan_16 : decode cX11_plan 16 = .ok (.invokevirtual 134, 3) := by decide +kernel
theorem dX11_plan_19 : decode cX11_plan 19 = .ok (.iconst 1, 1) := by decide +kernel
theorem dX11_plan_20 : decode cX11_plan 20 = .ok (.istore_n 2, 1) := by decide +kernel
theorem dX11_plan_21 : decode cX11_plan 21 = .ok (.iconst 0, 1) := by decide +kernel
theorem dX11_plan_22 : decode cX11_plan 22 = .ok (.istore_n 3, 1) := by decide +kernel
theorem dX11_plan_23 : decode cX11_plan 23 = .ok (.iload_n 3, 1) := by decide +kernel
theorem dX11_plan_24 : decode cX11_plan 24 = .ok (.aload_n 0, 1) := by decide +kernel
theorem dX11_plan_25 : decode cX11_plan 25 = .ok (.getfield 13, 3) := by decide +kernel
theorem dX11_plan_28 : decode cX11_plan 28 = .ok (.iconst 0, 1) := by decide +kernel
theorem dX11_plan_29 : decode cX11_plan 29 = .ok (.iaload, 1) := by decide +kernel
theorem dX11_plan_30 : decode cX11_plan 30 = .ok (.if_icmp .ge 13, 3) := by decide +kernel
theorem dX11_plan_33 : decode cX11_plan 33 = .ok (.iload_n 2, 1) := by decide +kernel
theorem dX11_plan_34 : decode cX11_plan 34 = .ok (.iconst 5, 1) := by decide +kernel
theorem dX11_plan_35 : decode cX11_plan 35 = .ok (.imul, 1) := by decide +kernel
theorem dX11_plan_36 : decode cX11_plan 36 = .ok (.istore_n 2, 1) := by decide +kernel
theorem dX11_plan_37 : decode cX11_plan 37 = .ok (.iinc 3 1, 3) := by decide +kernel
theorem dX11_plan_40 : decode cX11_plan 40 = .ok (.goto (-17), 3) := by decide +kernel
theorem dX11_plan_43 : decode cX11_plan 43 = .ok (.bipush (-4), 2) := by decide +kernel
theorem dX11_plan_45 : decode cX11_plan 45 = .ok (.istore_n 3, 1) := by decide +kernel
theorem dX11_plan_46 : decode cX11_plan 46 = .ok (.bipush (-4), 2) := by decide +kernel
theorem dX11_plan_48 : decode cX11_plan 48 = .ok (.istore 4, 2) := by decide +kernel
theorem dX11_plan_50 : decode cX11_plan 50 = .ok (.iconst 0, 1) := by decide +kernel
theorem dX11_plan_51 : decode cX11_plan 51 = .ok (.istore 5, 2) := by decide +kernel
theorem dX11_plan_53 : decode cX11_plan 53 = .ok (.iload 5, 2) := by decide +kernel
theorem dX11_plan_55 : decode cX11_plan 55 = .ok (.iload_n 2, 1) := by decide +kernel
theorem dX11_plan_56 : decode cX11_plan 56 = .ok (.if_icmp .ge 186, 3) := by decide +kernel
theorem dX11_plan_59 : decode cX11_plan 59 = .ok (.iconst 0, 1) := by decide +kernel
theorem dX11_plan_60 : decode cX11_plan 60 = .ok (.istore 6, 2) := by decide +kernel
theorem dX11_plan_62 : decode cX11_plan 62 = .ok (.iload 5, 2) := by decide +kernel
theorem dX11_plan_64 : decode cX11_plan 64 = .ok (.istore 7, 2) := by decide +kernel
theorem dX11_plan_66 : decode cX11_plan 66 = .ok (.iload 7, 2) := by decide +kernel
theorem dX11_plan_68 : decode cX11_plan 68 = .ok (.ifCond .le 21, 3) := by decide +kernel
theorem dX11_plan_71 : decode cX11_plan 71 = .ok (.iload 6, 2) := by decide +kernel
theorem dX11_plan_73 : decode cX11_plan 73 = .ok (.iload 7, 2) := by decide +kernel
theorem dX11_plan_75 : decode cX11_plan 75 = .ok (.iconst 5, 1) := by decide +kernel
theorem dX11_plan_76 : decode cX11_plan 76 = .ok (.irem, 1) := by decide +kernel
theorem dX11_plan_77 : decode cX11_plan 77 = .ok (.iadd, 1) := by decide +kernel
theorem dX11_plan_78 : decode cX11_plan 78 = .ok (.istore 6, 2) := by decide +kernel
theorem dX11_plan_80 : decode cX11_plan 80 = .ok (.iload 7, 2) := by decide +kernel
theorem dX11_plan_82 : decode cX11_plan 82 = .ok (.iconst 5, 1) := by decide +kernel
theorem dX11_plan_83 : decode cX11_plan 83 = .ok (.idiv, 1) := by decide +kernel
theorem dX11_plan_84 : decode cX11_plan 84 = .ok (.istore 7, 2) := by decide +kernel
theorem dX11_plan_86 : decode cX11_plan 86 = .ok (.goto (-20), 3) := by decide +kernel
theorem dX11_plan_89 : decode cX11_plan 89 = .ok (.iload 4, 2) := by decide +kernel
theorem dX11_plan_91 : decode cX11_plan 91 = .ok (.bipush (-4), 2) := by decide +kernel
theorem dX11_plan_93 : decode cX11_plan 93 = .ok (.if_icmp .eq 10, 3) := by decide +kernel
theorem dX11_plan_96 : decode cX11_plan 96 = .ok (.iload 6, 2) := by decide +kernel
theorem dX11_plan_98 : decode cX11_plan 98 = .ok (.iload 4, 2) := by decide +kernel
theorem dX11_plan_100 : decode cX11_plan 100 = .ok (.if_icmp .ge 136, 3) := by decide +kernel
theorem dX11_plan_103 : decode cX11_plan 103 = .ok (.iconst 0, 1) := by decide +kernel
theorem dX11_plan_104 : decode cX11_plan 104 = .ok (.istore 7, 2) := by decide +kernel
theorem dX11_plan_106 : decode cX11_plan 106 = .ok (.iload 7, 2) := by decide +kernel
theorem dX11_plan_108 : decode cX11_plan 108 = .ok (.iconst 4, 1) := by decide +kernel
theorem dX11_plan_109 : decode cX11_plan 109 = .ok (.if_icmp .ge 73, 3) := by decide +kernel
theorem dX11_plan_112 : decode cX11_plan 112 = .ok (.iconst 0, 1) := by decide +kernel
theorem dX11_plan_113 : decode cX11_plan 113 = .ok (.istore 8, 2) := by decide +kernel
theorem dX11_plan_115 : decode cX11_plan 115 = .ok (.iload 5, 2) := by decide +kernel
theorem dX11_plan_117 : decode cX11_plan 117 = .ok (.istore 9, 2) := by decide +kernel
theorem dX11_plan_119 : decode cX11_plan 119 = .ok (.aload_n 0, 1) := by decide +kernel
theorem dX11_plan_120 : decode cX11_plan 120 = .ok (.getfield 13, 3) := by decide +kernel
theorem dX11_plan_123 : decode cX11_plan 123 = .ok (.iconst 0, 1) := by decide +kernel
theorem dX11_plan_124 : decode cX11_plan 124 = .ok (.iaload, 1) := by decide +kernel
theorem dX11_plan_125 : decode cX11_plan 125 = .ok (.iconst 1, 1) := by decide +kernel
theorem dX11_plan_126 : decode cX11_plan 126 = .ok (.isub, 1) := by decide +kernel
theorem dX11_plan_127 : decode cX11_plan 127 = .ok (.istore 10, 2) := by decide +kernel
theorem dX11_plan_129 : decode cX11_plan 129 = .ok (.iload 10, 2) := by decide +kernel
theorem dX11_plan_131 : decode cX11_plan 131 = .ok (.ifCond .lt 37, 3) := by decide +kernel
theorem dX11_plan_134 : decode cX11_plan 134 = .ok (.iload 8, 2) := by decide +kernel
theorem dX11_plan_136 : decode cX11_plan 136 = .ok (.iload 9, 2) := by decide +kernel
theorem dX11_plan_138 : decode cX11_plan 138 = .ok (.iconst 5, 1) := by decide +kernel
theorem dX11_plan_139 : decode cX11_plan 139 = .ok (.irem, 1) := by decide +kernel
theorem dX11_plan_140 : decode cX11_plan 140 = .ok (.iload 7, 2) := by decide +kernel
theorem dX11_plan_142 : decode cX11_plan 142 = .ok (.if_icmp .le 10, 3) := by decide +kernel
theorem dX11_plan_145 : decode cX11_plan 145 = .ok (.iconst 1, 1) := by decide +kernel
theorem dX11_plan_146 : decode cX11_plan 146 = .ok (.iload 10, 2) := by decide +kernel
theorem dX11_plan_148 : decode cX11_plan 148 = .ok (.ishl, 1) := by decide +kernel
theorem dX11_plan_149 : decode cX11_plan 149 = .ok (.goto 4, 3) := by decide +kernel
theorem dX11_plan_152 : decode cX11_plan 152 = .ok (.iconst 0, 1) := by decide +kernel
theorem dX11_plan_153 : decode cX11_plan 153 = .ok (.ior, 1) := by decide +kernel
theorem dX11_plan_154 : decode cX11_plan 154 = .ok (.istore 8, 2) := by decide +kernel
theorem dX11_plan_156 : decode cX11_plan 156 = .ok (.iload 9, 2) := by decide +kernel
theorem dX11_plan_158 : decode cX11_plan 158 = .ok (.iconst 5, 1) := by decide +kernel
theorem dX11_plan_159 : decode cX11_plan 159 = .ok (.idiv, 1) := by decide +kernel
theorem dX11_plan_160 : decode cX11_plan 160 = .ok (.istore 9, 2) := by decide +kernel
theorem dX11_plan_162 : decode cX11_plan 162 = .ok (.iinc 10 (-1), 3) := by decide +kernel
theorem dX11_plan_165 : decode cX11_plan 165 = .ok (.goto (-36), 3) := by decide +kernel
theorem dX11_plan_168 : decode cX11_plan 168 = .ok (.aload_n 0, 1) := by decide +kernel
theorem dX11_plan_169 : decode cX11_plan 169 = .ok (.iload 8, 2) := by decide +kernel
theorem dX11_plan_171 : decode cX11_plan 171 = .ok (.iconst 0, 1) := by decide +kernel
theorem dX11_plan_172 : decode cX11_plan 172 = .ok (.invokevirtual 131, 3) := by decide +kernel
theorem dX11_plan_175 : decode cX11_plan 175 = .ok (.pop, 1) := by decide +kernel
theorem dX11_plan_176 : decode cX11_plan 176 = .ok (.iinc 7 1, 3) := by decide +kernel
theorem dX11_plan_179 : decode cX11_plan 179 = .ok (.goto (-73), 3) := by decide +kernel
theorem dX11_plan_182 : decode cX11_plan 182 = .ok (.aload_n 0, 1) := by decide +kernel
theorem dX11_plan_183 : decode cX11_plan 183 = .ok (.invokevirtual 140, 3) := by decide +kernel
theorem dX11_plan_186 : decode cX11_plan 186 = .ok (.iconst 1, 1) := by decide +kernel
theorem dX11_plan_187 : decode cX11_plan 187 = .ok (.aload_n 0, 1) := by decide +kernel
theorem dX11_plan_188 : decode cX11_plan 188 = .ok (.getfield 13, 3) := by decide +kernel
theorem dX11_plan_191 : decode cX11_plan 191 = .ok (.iconst 1, 1) := by decide +kernel
theorem dX11_plan_192 : decode cX11_plan 192 = .ok (.iaload, 1) := by decide +kernel
theorem dX11_plan_193 : decode cX11_plan 193 = .ok (.ishl, 1) := by decide +kernel
theorem dX11_plan_194 : decode cX11_plan 194 = .ok (.iconst 1, 1) := by decide +kernel
theorem dX11_plan_195 : decode cX11_plan 195 = .ok (.isub, 1) := by decide +kernel
theorem dX11_plan_196 : decode cX11_plan 196 = .ok (.if_icmp .ne 7, 3) := by decide +kernel
theorem dX11_plan_199 : decode cX11_plan 199 = .ok (.iconst 1, 1) := by decide +kernel
theorem dX11_plan_200 : decode cX11_plan 200 = .ok (.goto 4, 3) := by decide +kernel
theorem dX11_plan_203 : decode cX11_plan 203 = .ok (.iconst 0, 1) := by decide +kernel
theorem dX11_plan_204 : decode cX11_plan 204 = .ok (.istore 7, 2) := by decide +kernel
theorem dX11_plan_206 : decode cX11_plan 206 = .ok (.iload 7, 2) := by decide +kernel
theorem dX11_plan_208 : decode cX11_plan 208 = .ok (.ifCond .eq 8, 3) := by decide +kernel
theorem dX11_plan_211 : decode cX11_plan 211 = .ok (.iload 5, 2) := by decide +kernel
theorem dX11_plan_213 : decode cX11_plan 213 = .ok (.goto 4, 3) := by decide +kernel
theorem dX11_plan_216 : decode cX11_plan 216 = .ok (.iload_n 3, 1) := by decide +kernel
theorem dX11_plan_217 : decode cX11_plan 217 = .ok (.istore_n 3, 1) := by decide +kernel
theorem dX11_plan_218 : decode cX11_plan 218 = .ok (.iload 7, 2) := by decide +kernel
theorem dX11_plan_220 : decode cX11_plan 220 = .ok (.ifCond .eq 8, 3) := by decide +kernel
theorem dX11_plan_223 : decode cX11_plan 223 = .ok (.iload 6, 2) := by decide +kernel
theorem dX11_plan_225 : decode cX11_plan 225 = .ok (.goto 5, 3) := by decide +kernel
theorem dX11_plan_228 : decode cX11_plan 228 = .ok (.iload 4, 2) := by decide +kernel
theorem dX11_plan_230 : decode cX11_plan 230 = .ok (.istore 4, 2) := by decide +kernel
theorem dX11_plan_232 : decode cX11_plan 232 = .ok (.aload_n 0, 1) := by decide +kernel
theorem dX11_plan_233 : decode cX11_plan 233 = .ok (.invokevirtual 137, 3) := by decide +kernel
theorem dX11_plan_236 : decode cX11_plan 236 = .ok (.iinc 5 1, 3) := by decide +kernel
theorem dX11_plan_239 : decode cX11_plan 239 = .ok (.goto (-186), 3) := by decide +kernel
theorem dX11_plan_242 : decode cX11_plan 242 = .ok (.iload_n 3, 1) := by decide +kernel
theorem dX11_plan_243 : decode cX11_plan 243 = .ok (.bipush (-4), 2) := by decide +kernel
theorem dX11_plan_245 : decode cX11_plan 245 = .ok (.if_icmp .eq 8, 3) := by decide +kernel
theorem dX11_plan_248 : decode cX11_plan 248 = .ok (.iload_n 1, 1) := by decide +kernel
theorem dX11_plan_249 : decode cX11_plan 249 = .ok (.iconst (-1), 1) := by decide +kernel
theorem dX11_plan_250 : decode cX11_plan 250 = .ok (.if_icmp .ne 6, 3) := by decide +kernel
theorem dX11_plan_253 : decode cX11_plan 253 = .ok (.iload 4, 2) := by decide +kernel
theorem dX11_plan_255 : decode cX11_plan 255 = .ok (.ireturn, 1) := by decide +kernel
theorem dX11_plan_256 : decode cX11_plan 256 = .ok (.iload_n 3, 1) := by decide +kernel
theorem dX11_plan_257 : decode cX11_plan 257 = .ok (.istore 5, 2) := by decide +kernel
theorem dX11_plan_259 : decode cX11_plan 259 = .ok (.aload_n 0, 1) := by decide +kernel
theorem dX11_plan_260 : decode cX11_plan 260 = .ok (.getfield 13, 3) := by decide +kernel
theorem dX11_plan_263 : decode cX11_plan 263 = .ok (.iconst 0, 1) := by decide +kernel
theorem dX11_plan_264 : decode cX11_plan 264 = .ok (.iaload, 1) := by decide +kernel
theorem dX11_plan_265 : decode cX11_plan 265 = .ok (.iconst 1, 1) := by decide +kernel
theorem dX11_plan_266 : decode cX11_plan 266 = .ok (.isub, 1) := by decide +kernel
theorem dX11_plan_267 : decode cX11_plan 267 = .ok (.istore 6, 2) := by decide +kernel
theorem dX11_plan_269 : decode cX11_plan 269 = .ok (.iload 6, 2) := by decide +kernel
theorem dX11_plan_271 : decode cX11_plan 271 = .ok (.iload_n 1, 1) := by decide +kernel
theorem dX11_plan_272 : decode cX11_plan 272 = .ok (.if_icmp .le 15, 3) := by decide +kernel
theorem dX11_plan_275 : decode cX11_plan 275 = .ok (.iload 5, 2) := by decide +kernel
theorem dX11_plan_277 : decode cX11_plan 277 = .ok (.iconst 5, 1) := by decide +kernel
theorem dX11_plan_278 : decode cX11_plan 278 = .ok (.idiv, 1) := by decide +kernel
theorem dX11_plan_279 : decode cX11_plan 279 = .ok (.istore 5, 2) := by decide +kernel
theorem dX11_plan_281 : decode cX11_plan 281 = .ok (.iinc 6 (-1), 3) := by decide +kernel
theorem dX11_plan_284 : decode cX11_plan 284 = .ok (.goto (-15), 3) := by decide +kernel
theorem dX11_plan_287 : decode cX11_plan 287 = .ok (.iload 5, 2) := by decide +kernel
theorem dX11_plan_289 : decode cX11_plan 289 = .ok (.iconst 5, 1) := by decide +kernel
theorem dX11_plan_290 : decode cX11_plan 290 = .ok (.irem, 1) := by decide +kernel
theorem dX11_plan_291 : decode cX11_plan 291 = .ok (.ireturn, 1) := by decide +kernel
theorem dX11_best_0 : decode cX11_best 0 = .ok (.iload_n 1, 1) := by decide +kernel
theorem dX11_best_1 : decode cX11_best 1 = .ok (.iconst 1, 1) := by decide +kernel
theorem dX11_best_2 : decode cX11_best 2 = .ok (.bipush 12, 2) := by decide +kernel
theorem dX11_best_4 : decode cX11_best 4 = .ok (.invokestatic 61, 3) := by decide +kernel
theorem dX11_best_7 : decode cX11_best 7 = .ok (.ifCond .eq 12, 3) := by decide +kernel
theorem dX11_best_10 : decode cX11_best 10 = .ok (.iload_n 2, 1) := by decide +kernel
theorem dX11_best_11 : decode cX11_best 11 = .ok (.iconst 0, 1) := by decide +kernel
theorem dX11_best_12 : decode cX11_best 12 = .ok (.iconst 1, 1) := by decide +kernel
theorem dX11_best_13 : decode cX11_best 13 = .ok (.invokestatic 61, 3) := by decide +kernel
theorem dX11_best_16 : decode cX11_best 16 = .ok (.ifCond .ne 5, 3) := by decide +kernel
theorem dX11_best_19 : decode cX11_best 19 = .ok (.iconst (-1), 1) := by decide +kernel
theorem dX11_best_20 : decode cX11_best 20 = .ok (.ireturn, 1) := by decide +kernel
theorem dX11_best_21 : decode cX11_best 21 = .ok (.aload_n 0, 1) := by decide +kernel
theorem dX11_best_22 : decode cX11_best 22 = .ok (.invokevirtual 134, 3) := by decide +kernel
theorem dX11_best_25 : decode cX11_best 25 = .ok (.iconst 0, 1) := by decide +kernel
theorem dX11_best_26 : decode cX11_best 26 = .ok (.istore_n 3, 1) := by decide +kernel
theorem dX11_best_27 : decode cX11_best 27 = .ok (.iconst (-1), 1) := by decide +kernel
theorem dX11_best_28 : decode cX11_best 28 = .ok (.istore 4, 2) := by decide +kernel
theorem dX11_best_30 : decode cX11_best 30 = .ok (.iconst 0, 1) := by decide +kernel
theorem dX11_best_31 : decode cX11_best 31 = .ok (.istore 5, 2) := by decide +kernel
theorem dX11_best_33 : decode cX11_best 33 = .ok (.iload 5, 2) := by decide +kernel
theorem dX11_best_35 : decode cX11_best 35 = .ok (.aload_n 0, 1) := by decide +kernel
theorem dX11_best_36 : decode cX11_best 36 = .ok (.getfield 13, 3) := by decide +kernel
theorem dX11_best_39 : decode cX11_best 39 = .ok (.iconst 0, 1) := by decide +kernel
theorem dX11_best_40 : decode cX11_best 40 = .ok (.iaload, 1) := by decide +kernel
theorem dX11_best_41 : decode cX11_best 41 = .ok (.if_icmp .ge 87, 3) := by decide +kernel
theorem dX11_best_44 : decode cX11_best 44 = .ok (.aload_n 0, 1) := by decide +kernel
theorem dX11_best_45 : decode cX11_best 45 = .ok (.getfield 19, 3) := by decide +kernel
theorem dX11_best_48 : decode cX11_best 48 = .ok (.iconst 5, 1) := by decide +kernel
theorem dX11_best_49 : decode cX11_best 49 = .ok (.iload 5, 2) := by decide +kernel
theorem dX11_best_51 : decode cX11_best 51 = .ok (.iadd, 1) := by decide +kernel
theorem dX11_best_52 : decode cX11_best 52 = .ok (.iconst 1, 1) := by decide +kernel
theorem dX11_best_53 : decode cX11_best 53 = .ok (.iastore, 1) := by decide +kernel
theorem dX11_best_54 : decode cX11_best 54 = .ok (.iconst 0, 1) := by decide +kernel
theorem dX11_best_55 : decode cX11_best 55 = .ok (.istore 6, 2) := by decide +kernel
theorem dX11_best_57 : decode cX11_best 57 = .ok (.iload 6, 2) := by decide +kernel
theorem dX11_best_59 : decode cX11_best 59 = .ok (.iload_n 1, 1) := by decide +kernel
theorem dX11_best_60 : decode cX11_best 60 = .ok (.if_icmp .ge 21, 3) := by decide +kernel
theorem dX11_best_63 : decode cX11_best 63 = .ok (.aload_n 0, 1) := by decide +kernel
theorem dX11_best_64 : decode cX11_best 64 = .ok (.aload_n 0, 1) := by decide +kernel
theorem dX11_best_65 : decode cX11_best 65 = .ok (.invokevirtual 125, 3) := by decide +kernel
theorem dX11_best_68 : decode cX11_best 68 = .ok (.iconst 1, 1) := by decide +kernel
theorem dX11_best_69 : decode cX11_best 69 = .ok (.isub, 1) := by decide +kernel
theorem dX11_best_70 : decode cX11_best 70 = .ok (.iconst 0, 1) := by decide +kernel
theorem dX11_best_71 : decode cX11_best 71 = .ok (.invokevirtual 131, 3) := by decide +kernel
theorem dX11_best_74 : decode cX11_best 74 = .ok (.pop, 1) := by decide +kernel
theorem dX11_best_75 : decode cX11_best 75 = .ok (.iinc 6 1, 3) := by decide +kernel
theorem dX11_best_78 : decode cX11_best 78 = .ok (.goto (-21), 3) := by decide +kernel
theorem dX11_best_81 : decode cX11_best 81 = .ok (.aload_n 0, 1) := by decide +kernel
theorem dX11_best_82 : decode cX11_best 82 = .ok (.iconst 3, 1) := by decide +kernel
theorem dX11_best_83 : decode cX11_best 83 = .ok (.invokevirtual 143, 3) := by decide +kernel
theorem dX11_best_86 : decode cX11_best 86 = .ok (.istore 6, 2) := by decide +kernel
theorem dX11_best_88 : decode cX11_best 88 = .ok (.iload 6, 2) := by decide +kernel
theorem dX11_best_90 : decode cX11_best 90 = .ok (.iload 4, 2) := by decide +kernel
theorem dX11_best_92 : decode cX11_best 92 = .ok (.if_icmp .le 8, 3) := by decide +kernel
theorem dX11_best_95 : decode cX11_best 95 = .ok (.iload 5, 2) := by decide +kernel
theorem dX11_best_97 : decode cX11_best 97 = .ok (.goto 4, 3) := by decide +kernel
theorem dX11_best_100 : decode cX11_best 100 = .ok (.iload_n 3, 1) := by decide +kernel
theorem dX11_best_101 : decode cX11_best 101 = .ok (.istore_n 3, 1) := by decide +kernel
theorem dX11_best_102 : decode cX11_best 102 = .ok (.iload 6, 2) := by decide +kernel
theorem dX11_best_104 : decode cX11_best 104 = .ok (.iload 4, 2) := by decide +kernel
theorem dX11_best_106 : decode cX11_best 106 = .ok (.if_icmp .le 8, 3) := by decide +kernel
theorem dX11_best_109 : decode cX11_best 109 = .ok (.iload 6, 2) := by decide +kernel
theorem dX11_best_111 : decode cX11_best 111 = .ok (.goto 5, 3) := by decide +kernel
theorem dX11_best_114 : decode cX11_best 114 = .ok (.iload 4, 2) := by decide +kernel
theorem dX11_best_116 : decode cX11_best 116 = .ok (.istore 4, 2) := by decide +kernel
theorem dX11_best_118 : decode cX11_best 118 = .ok (.aload_n 0, 1) := by decide +kernel
theorem dX11_best_119 : decode cX11_best 119 = .ok (.invokevirtual 137, 3) := by decide +kernel
theorem dX11_best_122 : decode cX11_best 122 = .ok (.iinc 5 1, 3) := by decide +kernel
theorem dX11_best_125 : decode cX11_best 125 = .ok (.goto (-92), 3) := by decide +kernel
theorem dX11_best_128 : decode cX11_best 128 = .ok (.iload_n 2, 1) := by decide +kernel
theorem dX11_best_129 : decode cX11_best 129 = .ok (.ifCond .ne 7, 3) := by decide +kernel
theorem dX11_best_132 : decode cX11_best 132 = .ok (.iload_n 3, 1) := by decide +kernel
theorem dX11_best_133 : decode cX11_best 133 = .ok (.goto 5, 3) := by decide +kernel
theorem dX11_best_136 : decode cX11_best 136 = .ok (.iload 4, 2) := by decide +kernel
theorem dX11_best_138 : decode cX11_best 138 = .ok (.ireturn, 1) := by decide +kernel
theorem dX11_posts_0 : decode cX11_posts 0 = .ok (.iload_n 1, 1) := by decide +kernel
theorem dX11_posts_1 : decode cX11_posts 1 = .ok (.iconst (-1), 1) := by decide +kernel
theorem dX11_posts_2 : decode cX11_posts 2 = .ok (.if_icmp .eq 13, 3) := by decide +kernel
theorem dX11_posts_5 : decode cX11_posts 5 = .ok (.aload_n 0, 1) := by decide +kernel
theorem dX11_posts_6 : decode cX11_posts 6 = .ok (.iload_n 1, 1) := by decide +kernel
theorem dX11_posts_7 : decode cX11_posts 7 = .ok (.invokevirtual 105, 3) := by decide +kernel
theorem dX11_posts_10 : decode cX11_posts 10 = .ok (.ifCond .ne 5, 3) := by decide +kernel
theorem dX11_posts_13 : decode cX11_posts 13 = .ok (.iconst (-1), 1) := by decide +kernel
theorem dX11_posts_14 : decode cX11_posts 14 = .ok (.ireturn, 1) := by decide +kernel
theorem dX11_posts_15 : decode cX11_posts 15 = .ok (.iconst 1, 1) := by decide +kernel
theorem dX11_posts_16 : decode cX11_posts 16 = .ok (.istore_n 2, 1) := by decide +kernel
theorem dX11_posts_17 : decode cX11_posts 17 = .ok (.iconst 0, 1) := by decide +kernel
theorem dX11_posts_18 : decode cX11_posts 18 = .ok (.istore_n 3, 1) := by decide +kernel
theorem dX11_posts_19 : decode cX11_posts 19 = .ok (.iload_n 3, 1) := by decide +kernel
theorem dX11_posts_20 : decode cX11_posts 20 = .ok (.aload_n 0, 1) := by decide +kernel
theorem dX11_posts_21 : decode cX11_posts 21 = .ok (.getfield 13, 3) := by decide +kernel
theorem dX11_posts_24 : decode cX11_posts 24 = .ok (.iconst 0, 1) := by decide +kernel
theorem dX11_posts_25 : decode cX11_posts 25 = .ok (.iaload, 1) := by decide +kernel
theorem dX11_posts_26 : decode cX11_posts 26 = .ok (.if_icmp .ge 14, 3) := by decide +kernel
theorem dX11_posts_29 : decode cX11_posts 29 = .ok (.iload_n 2, 1) := by decide +kernel
theorem dX11_posts_30 : decode cX11_posts 30 = .ok (.bipush 6, 2) := by decide +kernel
theorem dX11_posts_32 : decode cX11_posts 32 = .ok (.imul, 1) := by decide +kernel
theorem dX11_posts_33 : decode cX11_posts 33 = .ok (.istore_n 2, 1) := by decide +kernel
theorem dX11_posts_34 : decode cX11_posts 34 = .ok (.iinc 3 1, 3) := by decide +kernel
theorem dX11_posts_37 : decode cX11_posts 37 = .ok (.goto (-18), 3) := by decide +kernel
theorem dX11_posts_40 : decode cX11_posts 40 = .ok (.bipush (-4), 2) := by decide +kernel
theorem dX11_posts_42 : decode cX11_posts 42 = .ok (.istore_n 3, 1) := by decide +kernel
theorem dX11_posts_43 : decode cX11_posts 43 = .ok (.bipush (-4), 2) := by decide +kernel
theorem dX11_posts_45 : decode cX11_posts 45 = .ok (.istore 4, 2) := by decide +kernel
theorem dX11_posts_47 : decode cX11_posts 47 = .ok (.iconst 0, 1) := by decide +kernel
theorem dX11_posts_48 : decode cX11_posts 48 = .ok (.istore 5, 2) := by decide +kernel
theorem dX11_posts_50 : decode cX11_posts 50 = .ok (.iload 5, 2) := by decide +kernel
theorem dX11_posts_52 : decode cX11_posts 52 = .ok (.iload_n 2, 1) := by decide +kernel
theorem dX11_posts_53 : decode cX11_posts 53 = .ok (.if_icmp .ge 190, 3) := by decide +kernel
theorem dX11_posts_56 : decode cX11_posts 56 = .ok (.iconst 0, 1) := by decide +kernel
theorem dX11_posts_57 : decode cX11_posts 57 = .ok (.istore 6, 2) := by decide +kernel
theorem dX11_posts_59 : decode cX11_posts 59 = .ok (.iconst 0, 1) := by decide +kernel
theorem dX11_posts_60 : decode cX11_posts 60 = .ok (.istore 7, 2) := by decide +kernel
theorem dX11_posts_62 : decode cX11_posts 62 = .ok (.iconst 1, 1) := by decide +kernel
theorem dX11_posts_63 : decode cX11_posts 63 = .ok (.istore 8, 2) := by decide +kernel
theorem dX11_posts_65 : decode cX11_posts 65 = .ok (.iload 5, 2) := by decide +kernel
theorem dX11_posts_67 : decode cX11_posts 67 = .ok (.istore 9, 2) := by decide +kernel
theorem dX11_posts_69 : decode cX11_posts 69 = .ok (.aload_n 0, 1) := by decide +kernel
theorem dX11_posts_70 : decode cX11_posts 70 = .ok (.getfield 13, 3) := by decide +kernel
theorem dX11_posts_73 : decode cX11_posts 73 = .ok (.iconst 0, 1) := by decide +kernel
theorem dX11_posts_74 : decode cX11_posts 74 = .ok (.iaload, 1) := by decide +kernel
theorem dX11_posts_75 : decode cX11_posts 75 = .ok (.iconst 1, 1) := by decide +kernel
theorem dX11_posts_76 : decode cX11_posts 76 = .ok (.isub, 1) := by decide +kernel
theorem dX11_posts_77 : decode cX11_posts 77 = .ok (.istore 10, 2) := by decide +kernel
theorem dX11_posts_79 : decode cX11_posts 79 = .ok (.iload 10, 2) := by decide +kernel
theorem dX11_posts_81 : decode cX11_posts 81 = .ok (.ifCond .lt 105, 3) := by decide +kernel
theorem dX11_posts_84 : decode cX11_posts 84 = .ok (.iload 9, 2) := by decide +kernel
theorem dX11_posts_86 : decode cX11_posts 86 = .ok (.bipush 6, 2) := by decide +kernel
theorem dX11_posts_88 : decode cX11_posts 88 = .ok (.irem, 1) := by decide +kernel
theorem dX11_posts_89 : decode cX11_posts 89 = .ok (.istore 11, 2) := by decide +kernel
theorem dX11_posts_91 : decode cX11_posts 91 = .ok (.iload 9, 2) := by decide +kernel
theorem dX11_posts_93 : decode cX11_posts 93 = .ok (.bipush 6, 2) := by decide +kernel
theorem dX11_posts_95 : decode cX11_posts 95 = .ok (.idiv, 1) := by decide +kernel
theorem dX11_posts_96 : decode cX11_posts 96 = .ok (.istore 9, 2) := by decide +kernel
theorem dX11_posts_98 : decode cX11_posts 98 = .ok (.iload 8, 2) := by decide +kernel
theorem dX11_posts_100 : decode cX11_posts 100 = .ok (.ifCond .eq 28, 3) := by decide +kernel
theorem dX11_posts_103 : decode cX11_posts 103 = .ok (.iload 11, 2) := by decide +kernel
theorem dX11_posts_105 : decode cX11_posts 105 = .ok (.aload_n 0, 1) := by decide +kernel
theorem dX11_posts_106 : decode cX11_posts 106 = .ok (.getfield 13, 3) := by decide +kernel
theorem dX11_posts_109 : decode cX11_posts 109 = .ok (.iconst 2, 1) := by decide +kernel
theorem dX11_posts_110 : decode cX11_posts 110 = .ok (.iaload, 1) := by decide +kernel
theorem dX11_posts_111 : decode cX11_posts 111 = .ok (.if_icmp .ge 17, 3) := by decide +kernel
theorem dX11_posts_114 : decode cX11_posts 114 = .ok (.iload 6, 2) := by decide +kernel
theorem dX11_posts_116 : decode cX11_posts 116 = .ok (.iload 11, 2) := by decide +kernel
theorem dX11_posts_118 : decode cX11_posts 118 = .ok (.ishr, 1) := by decide +kernel
theorem dX11_posts_119 : decode cX11_posts 119 = .ok (.iconst 1, 1) := by decide +kernel
theorem dX11_posts_120 : decode cX11_posts 120 = .ok (.iand, 1) := by decide +kernel
theorem dX11_posts_121 : decode cX11_posts 121 = .ok (.ifCond .ne 7, 3) := by decide +kernel
theorem dX11_posts_124 : decode cX11_posts 124 = .ok (.iconst 1, 1) := by decide +kernel
theorem dX11_posts_125 : decode cX11_posts 125 = .ok (.goto 4, 3) := by decide +kernel
theorem dX11_posts_128 : decode cX11_posts 128 = .ok (.iconst 0, 1) := by decide +kernel
theorem dX11_posts_129 : decode cX11_posts 129 = .ok (.istore 8, 2) := by decide +kernel
theorem dX11_posts_131 : decode cX11_posts 131 = .ok (.iload 6, 2) := by decide +kernel
theorem dX11_posts_133 : decode cX11_posts 133 = .ok (.iconst 1, 1) := by decide +kernel
theorem dX11_posts_134 : decode cX11_posts 134 = .ok (.iload 11, 2) := by decide +kernel
theorem dX11_posts_136 : decode cX11_posts 136 = .ok (.ishl, 1) := by decide +kernel
theorem dX11_posts_137 : decode cX11_posts 137 = .ok (.ior, 1) := by decide +kernel
theorem dX11_posts_138 : decode cX11_posts 138 = .ok (.istore 6, 2) := by decide +kernel
theorem dX11_posts_140 : decode cX11_posts 140 = .ok (.aload_n 0, 1) := by decide +kernel
theorem dX11_posts_141 : decode cX11_posts 141 = .ok (.getfield 13, 3) := by decide +kernel
theorem dX11_posts_144 : decode cX11_posts 144 = .ok (.bipush 41, 2) := by decide +kernel
theorem dX11_posts_146 : decode cX11_posts 146 = .ok (.iload 11, 2) := by decide +kernel
theorem dX11_posts_148 : decode cX11_posts 148 = .ok (.iadd, 1) := by decide +kernel
theorem dX11_posts_149 : decode cX11_posts 149 = .ok (.iaload, 1) := by decide +kernel
theorem dX11_posts_150 : decode cX11_posts 150 = .ok (.aload_n 0, 1) := by decide +kernel
theorem dX11_posts_151 : decode cX11_posts 151 = .ok (.getfield 13, 3) := by decide +kernel
theorem dX11_posts_154 : decode cX11_posts 154 = .ok (.iconst 5, 1) := by decide +kernel
theorem dX11_posts_155 : decode cX11_posts 155 = .ok (.iload 10, 2) := by decide +kernel
theorem dX11_posts_157 : decode cX11_posts 157 = .ok (.iadd, 1) := by decide +kernel
theorem dX11_posts_158 : decode cX11_posts 158 = .ok (.iaload, 1) := by decide +kernel
theorem dX11_posts_159 : decode cX11_posts 159 = .ok (.isub, 1) := by decide +kernel
theorem dX11_posts_160 : decode cX11_posts 160 = .ok (.istore 12, 2) := by decide +kernel
theorem dX11_posts_162 : decode cX11_posts 162 = .ok (.iload 7, 2) := by decide +kernel
theorem dX11_posts_164 : decode cX11_posts 164 = .ok (.iload 12, 2) := by decide +kernel
theorem dX11_posts_166 : decode cX11_posts 166 = .ok (.ifCond .ge 9, 3) := by decide +kernel
theorem dX11_posts_169 : decode cX11_posts 169 = .ok (.iload 12, 2) := by decide +kernel
theorem dX11_posts_171 : decode cX11_posts 171 = .ok (.ineg, 1) := by decide +kernel
theorem dX11_posts_172 : decode cX11_posts 172 = .ok (.goto 5, 3) := by decide +kernel
theorem dX11_posts_175 : decode cX11_posts 175 = .ok (.iload 12, 2) := by decide +kernel
theorem dX11_posts_177 : decode cX11_posts 177 = .ok (.iadd, 1) := by decide +kernel
theorem dX11_posts_178 : decode cX11_posts 178 = .ok (.istore 7, 2) := by decide +kernel
theorem dX11_posts_180 : decode cX11_posts 180 = .ok (.iinc 10 (-1), 3) := by decide +kernel
theorem dX11_posts_183 : decode cX11_posts 183 = .ok (.goto (-104), 3) := by decide +kernel
theorem dX11_posts_186 : decode cX11_posts 186 = .ok (.iload 8, 2) := by decide +kernel
theorem dX11_posts_188 : decode cX11_posts 188 = .ok (.ifCond .eq 20, 3) := by decide +kernel
theorem dX11_posts_191 : decode cX11_posts 191 = .ok (.iload_n 3, 1) := by decide +kernel
theorem dX11_posts_192 : decode cX11_posts 192 = .ok (.bipush (-4), 2) := by decide +kernel
theorem dX11_posts_194 : decode cX11_posts 194 = .ok (.if_icmp .eq 10, 3) := by decide +kernel
theorem dX11_posts_197 : decode cX11_posts 197 = .ok (.iload 7, 2) := by decide +kernel
theorem dX11_posts_199 : decode cX11_posts 199 = .ok (.iload 4, 2) := by decide +kernel
theorem dX11_posts_201 : decode cX11_posts 201 = .ok (.if_icmp .ge 7, 3) := by decide +kernel
theorem dX11_posts_204 : decode cX11_posts 204 = .ok (.iconst 1, 1) := by decide +kernel
theorem dX11_posts_205 : decode cX11_posts 205 = .ok (.goto 4, 3) := by decide +kernel
theorem dX11_posts_208 : decode cX11_posts 208 = .ok (.iconst 0, 1) := by decide +kernel
theorem dX11_posts_209 : decode cX11_posts 209 = .ok (.istore 10, 2) := by decide +kernel
theorem dX11_posts_211 : decode cX11_posts 211 = .ok (.iload 10, 2) := by decide +kernel
theorem dX11_posts_213 : decode cX11_posts 213 = .ok (.ifCond .eq 8, 3) := by decide +kernel
theorem dX11_posts_216 : decode cX11_posts 216 = .ok (.iload 5, 2) := by decide +kernel
theorem dX11_posts_218 : decode cX11_posts 218 = .ok (.goto 4, 3) := by decide +kernel
theorem dX11_posts_221 : decode cX11_posts 221 = .ok (.iload_n 3, 1) := by decide +kernel
theorem dX11_posts_222 : decode cX11_posts 222 = .ok (.istore_n 3, 1) := by decide +kernel
theorem dX11_posts_223 : decode cX11_posts 223 = .ok (.iload 10, 2) := by decide +kernel
theorem dX11_posts_225 : decode cX11_posts 225 = .ok (.ifCond .eq 8, 3) := by decide +kernel
theorem dX11_posts_228 : decode cX11_posts 228 = .ok (.iload 7, 2) := by decide +kernel
theorem dX11_posts_230 : decode cX11_posts 230 = .ok (.goto 5, 3) := by decide +kernel
theorem dX11_posts_233 : decode cX11_posts 233 = .ok (.iload 4, 2) := by decide +kernel
theorem dX11_posts_235 : decode cX11_posts 235 = .ok (.istore 4, 2) := by decide +kernel
theorem dX11_posts_237 : decode cX11_posts 237 = .ok (.iinc 5 1, 3) := by decide +kernel
theorem dX11_posts_240 : decode cX11_posts 240 = .ok (.goto (-190), 3) := by decide +kernel
theorem dX11_posts_243 : decode cX11_posts 243 = .ok (.iload_n 3, 1) := by decide +kernel
theorem dX11_posts_244 : decode cX11_posts 244 = .ok (.bipush (-4), 2) := by decide +kernel
theorem dX11_posts_246 : decode cX11_posts 246 = .ok (.if_icmp .eq 8, 3) := by decide +kernel
theorem dX11_posts_249 : decode cX11_posts 249 = .ok (.iload_n 1, 1) := by decide +kernel
theorem dX11_posts_250 : decode cX11_posts 250 = .ok (.iconst (-1), 1) := by decide +kernel
theorem dX11_posts_251 : decode cX11_posts 251 = .ok (.if_icmp .ne 6, 3) := by decide +kernel
theorem dX11_posts_254 : decode cX11_posts 254 = .ok (.iload 4, 2) := by decide +kernel
theorem dX11_posts_256 : decode cX11_posts 256 = .ok (.ireturn, 1) := by decide +kernel
theorem dX11_posts_257 : decode cX11_posts 257 = .ok (.iload_n 3, 1) := by decide +kernel
theorem dX11_posts_258 : decode cX11_posts 258 = .ok (.istore 5, 2) := by decide +kernel
theorem dX11_posts_260 : decode cX11_posts 260 = .ok (.aload_n 0, 1) := by decide +kernel
theorem dX11_posts_261 : decode cX11_posts 261 = .ok (.getfield 13, 3) := by decide +kernel
theorem dX11_posts_264 : decode cX11_posts 264 = .ok (.iconst 0, 1) := by decide +kernel
theorem dX11_posts_265 : decode cX11_posts 265 = .ok (.iaload, 1) := by decide +kernel
theorem dX11_posts_266 : decode cX11_posts 266 = .ok (.iconst 1, 1) := by decide +kernel
theorem dX11_posts_267 : decode cX11_posts 267 = .ok (.isub, 1) := by decide +kernel
theorem dX11_posts_268 : decode cX11_posts 268 = .ok (.istore 6, 2) := by decide +kernel
theorem dX11_posts_270 : decode cX11_posts 270 = .ok (.iload 6, 2) := by decide +kernel
theorem dX11_posts_272 : decode cX11_posts 272 = .ok (.iload_n 1, 1) := by decide +kernel
theorem dX11_posts_273 : decode cX11_posts 273 = .ok (.if_icmp .le 16, 3) := by decide +kernel
theorem dX11_posts_276 : decode cX11_posts 276 = .ok (.iload 5, 2) := by decide +kernel
theorem dX11_posts_278 : decode cX11_posts 278 = .ok (.bipush 6, 2) := by decide +kernel
theorem dX11_posts_280 : decode cX11_posts 280 = .ok (.idiv, 1) := by decide +kernel
theorem dX11_posts_281 : decode cX11_posts 281 = .ok (.istore 5, 2) := by decide +kernel
theorem dX11_posts_283 : decode cX11_posts 283 = .ok (.iinc 6 (-1), 3) := by decide +kernel
theorem dX11_posts_286 : decode cX11_posts 286 = .ok (.goto (-16), 3) := by decide +kernel
theorem dX11_posts_289 : decode cX11_posts 289 = .ok (.iload 5, 2) := by decide +kernel
theorem dX11_posts_291 : decode cX11_posts 291 = .ok (.bipush 6, 2) := by decide +kernel
theorem dX11_posts_293 : decode cX11_posts 293 = .ok (.irem, 1) := by decide +kernel
theorem dX11_posts_294 : decode cX11_posts 294 = .ok (.ireturn, 1) := by decide +kernel
theorem dX11_brown_0 : decode cX11_brown 0 = .ok (.iload_n 1, 1) := by decide +kernel
theorem dX11_brown_1 : decode cX11_brown 1 = .ok (.iconst 0, 1) := by decide +kernel
theorem dX11_brown_2 : decode cX11_brown 2 = .ok (.iconst 2, 1) := by decide +kernel
theorem dX11_brown_3 : decode cX11_brown 3 = .ok (.invokestatic 61, 3) := by decide +kernel
theorem dX11_brown_6 : decode cX11_brown 6 = .ok (.ifCond .ne 5, 3) := by decide +kernel
theorem dX11_brown_9 : decode cX11_brown 9 = .ok (.iconst (-1), 1) := by decide +kernel
theorem dX11_brown_10 : decode cX11_brown 10 = .ok (.ireturn, 1) := by decide +kernel
theorem dX11_brown_11 : decode cX11_brown 11 = .ok (.iconst 0, 1) := by decide +kernel
theorem dX11_brown_12 : decode cX11_brown 12 = .ok (.istore_n 2, 1) := by decide +kernel
theorem dX11_brown_13 : decode cX11_brown 13 = .ok (.bipush (-4), 2) := by decide +kernel
theorem dX11_brown_15 : decode cX11_brown 15 = .ok (.istore_n 3, 1) := by decide +kernel
theorem dX11_brown_16 : decode cX11_brown 16 = .ok (.iconst 0, 1) := by decide +kernel
theorem dX11_brown_17 : decode cX11_brown 17 = .ok (.istore 4, 2) := by decide +kernel
theorem dX11_brown_19 : decode cX11_brown 19 = .ok (.iconst 0, 1) := by decide +kernel
theorem dX11_brown_20 : decode cX11_brown 20 = .ok (.istore 5, 2) := by decide +kernel
theorem dX11_brown_22 : decode cX11_brown 22 = .ok (.iload 5, 2) := by decide +kernel
theorem dX11_brown_24 : decode cX11_brown 24 = .ok (.bipush 24, 2) := by decide +kernel
theorem dX11_brown_26 : decode cX11_brown 26 = .ok (.if_icmp .ge 63, 3) := by decide +kernel
theorem dX11_brown_29 : decode cX11_brown 29 = .ok (.aload_n 0, 1) := by decide +kernel
theorem dX11_brown_30 : decode cX11_brown 30 = .ok (.iload 5, 2) := by decide +kernel
theorem dX11_brown_32 : decode cX11_brown 32 = .ok (.invokevirtual 112, 3) := by decide +kernel
theorem dX11_brown_35 : decode cX11_brown 35 = .ok (.invokestatic 115, 3) := by decide +kernel
theorem dX11_brown_38 : decode cX11_brown 38 = .ok (.iconst 2, 1) := by decide +kernel
theorem dX11_brown_39 : decode cX11_brown 39 = .ok (.if_icmp .ne 10, 3) := by decide +kernel
theorem dX11_brown_42 : decode cX11_brown 42 = .ok (.iload 4, 2) := by decide +kernel
theorem dX11_brown_44 : decode cX11_brown 44 = .ok (.iconst 1, 1) := by decide +kernel
theorem dX11_brown_45 : decode cX11_brown 45 = .ok (.iadd, 1) := by decide +kernel
theorem dX11_brown_46 : decode cX11_brown 46 = .ok (.goto 4, 3) := by decide +kernel
theorem dX11_brown_49 : decode cX11_brown 49 = .ok (.iconst 0, 1) := by decide +kernel
theorem dX11_brown_50 : decode cX11_brown 50 = .ok (.istore 4, 2) := by decide +kernel
theorem dX11_brown_52 : decode cX11_brown 52 = .ok (.iload 4, 2) := by decide +kernel
theorem dX11_brown_54 : decode cX11_brown 54 = .ok (.iload_n 2, 1) := by decide +kernel
theorem dX11_brown_55 : decode cX11_brown 55 = .ok (.if_icmp .le 13, 3) := by decide +kernel
theorem dX11_brown_58 : decode cX11_brown 58 = .ok (.iload 5, 2) := by decide +kernel
theorem dX11_brown_60 : decode cX11_brown 60 = .ok (.iload 4, 2) := by decide +kernel
theorem dX11_brown_62 : decode cX11_brown 62 = .ok (.isub, 1) := by decide +kernel
theorem dX11_brown_63 : decode cX11_brown 63 = .ok (.iconst 1, 1) := by decide +kernel
theorem dX11_brown_64 : decode cX11_brown 64 = .ok (.iadd, 1) := by decide +kernel
theorem dX11_brown_65 : decode cX11_brown 65 = .ok (.goto 4, 3) := by decide +kernel
theorem dX11_brown_68 : decode cX11_brown 68 = .ok (.iload_n 3, 1) := by decide +kernel
theorem dX11_brown_69 : decode cX11_brown 69 = .ok (.istore_n 3, 1) := by decide +kernel
theorem dX11_brown_70 : decode cX11_brown 70 = .ok (.iload 4, 2) := by decide +kernel
theorem dX11_brown_72 : decode cX11_brown 72 = .ok (.iload_n 2, 1) := by decide +kernel
theorem dX11_brown_73 : decode cX11_brown 73 = .ok (.if_icmp .le 8, 3) := by decide +kernel
theorem dX11_brown_76 : decode cX11_brown 76 = .ok (.iload 4, 2) := by decide +kernel
theorem dX11_brown_78 : decode cX11_brown 78 = .ok (.goto 4, 3) := by decide +kernel
theorem dX11_brown_81 : decode cX11_brown 81 = .ok (.iload_n 2, 1) := by decide +kernel
theorem dX11_brown_82 : decode cX11_brown 82 = .ok (.istore_n 2, 1) := by decide +kernel
theorem dX11_brown_83 : decode cX11_brown 83 = .ok (.iinc 5 1, 3) := by decide +kernel
theorem dX11_brown_86 : decode cX11_brown 86 = .ok (.goto (-64), 3) := by decide +kernel
theorem dX11_brown_89 : decode cX11_brown 89 = .ok (.iload_n 1, 1) := by decide +kernel
theorem dX11_brown_90 : decode cX11_brown 90 = .ok (.ifCond .ne 11, 3) := by decide +kernel
theorem dX11_brown_93 : decode cX11_brown 93 = .ok (.aload_n 0, 1) := by decide +kernel
theorem dX11_brown_94 : decode cX11_brown 94 = .ok (.iconst 2, 1) := by decide +kernel
theorem dX11_brown_95 : decode cX11_brown 95 = .ok (.invokevirtual 143, 3) := by decide +kernel
theorem dX11_brown_98 : decode cX11_brown 98 = .ok (.goto 13, 3) := by decide +kernel
theorem dX11_brown_101 : decode cX11_brown 101 = .ok (.iload_n 1, 1) := by decide +kernel
theorem dX11_brown_102 : decode cX11_brown 102 = .ok (.iconst 1, 1) := by decide +kernel
theorem dX11_brown_103 : decode cX11_brown 103 = .ok (.if_icmp .ne 7, 3) := by decide +kernel
theorem dX11_brown_106 : decode cX11_brown 106 = .ok (.iload_n 2, 1) := by decide +kernel
theorem dX11_brown_107 : decode cX11_brown 107 = .ok (.goto 4, 3) := by decide +kernel
theorem dX11_brown_110 : decode cX11_brown 110 = .ok (.iload_n 3, 1) := by decide +kernel
theorem dX11_brown_111 : decode cX11_brown 111 = .ok (.ireturn, 1) := by decide +kernel
theorem dX11_seen_0 : decode cX11_seen 0 = .ok (.iload_n 1, 1) := by decide +kernel
theorem dX11_seen_1 : decode cX11_seen 1 = .ok (.invokestatic 87, 3) := by decide +kernel
theorem dX11_seen_4 : decode cX11_seen 4 = .ok (.ifCond .eq 13, 3) := by decide +kernel
theorem dX11_seen_7 : decode cX11_seen 7 = .ok (.iload_n 2, 1) := by decide +kernel
theorem dX11_seen_8 : decode cX11_seen 8 = .ok (.iconst 0, 1) := by decide +kernel
theorem dX11_seen_9 : decode cX11_seen 9 = .ok (.bipush 40, 2) := by decide +kernel
theorem dX11_seen_11 : decode cX11_seen 11 = .ok (.invokestatic 61, 3) := by decide +kernel
theorem dX11_seen_14 : decode cX11_seen 14 = .ok (.ifCond .ne 5, 3) := by decide +kernel
theorem dX11_seen_17 : decode cX11_seen 17 = .ok (.iconst (-1), 1) := by decide +kernel
theorem dX11_seen_18 : decode cX11_seen 18 = .ok (.ireturn, 1) := by decide +kernel
theorem dX11_seen_19 : decode cX11_seen 19 = .ok (.aload_n 0, 1) := by decide +kernel
theorem dX11_seen_20 : decode cX11_seen 20 = .ok (.getfield 102, 3) := by decide +kernel
theorem dX11_seen_23 : decode cX11_seen 23 = .ok (.bipush 8, 2) := by decide +kernel
theorem dX11_seen_25 : decode cX11_seen 25 = .ok (.if_icmp .ne 6, 3) := by decide +kernel
theorem dX11_seen_28 : decode cX11_seen 28 = .ok (.bipush (-3), 2) := by decide +kernel
theorem dX11_seen_30 : decode cX11_seen 30 = .ok (.ireturn, 1) := by decide +kernel
theorem dX11_seen_31 : decode cX11_seen 31 = .ok (.aload_n 0, 1) := by decide +kernel
theorem dX11_seen_32 : decode cX11_seen 32 = .ok (.getfield 28, 3) := by decide +kernel
theorem dX11_seen_35 : decode cX11_seen 35 = .ok (.aload_n 0, 1) := by decide +kernel
theorem dX11_seen_36 : decode cX11_seen 36 = .ok (.getfield 102, 3) := by decide +kernel
theorem dX11_seen_39 : decode cX11_seen 39 = .ok (.bipush 100, 2) := by decide +kernel
theorem dX11_seen_41 : decode cX11_seen 41 = .ok (.iload_n 1, 1) := by decide +kernel
theorem dX11_seen_42 : decode cX11_seen 42 = .ok (.imul, 1) := by decide +kernel
theorem dX11_seen_43 : decode cX11_seen 43 = .ok (.iload_n 2, 1) := by decide +kernel
theorem dX11_seen_44 : decode cX11_seen 44 = .ok (.iadd, 1) := by decide +kernel
theorem dX11_seen_45 : decode cX11_seen 45 = .ok (.iastore, 1) := by decide +kernel
theorem dX11_seen_46 : decode cX11_seen 46 = .ok (.aload_n 0, 1) := by decide +kernel
theorem dX11_seen_47 : decode cX11_seen 47 = .ok (.dup, 1) := by decide +kernel
theorem dX11_seen_48 : decode cX11_seen 48 = .ok (.getfield 102, 3) := by decide +kernel
theorem dX11_seen_51 : decode cX11_seen 51 = .ok (.iconst 1, 1) := by decide +kernel
theorem dX11_seen_52 : decode cX11_seen 52 = .ok (.iadd, 1) := by decide +kernel
theorem dX11_seen_53 : decode cX11_seen 53 = .ok (.putfield 102, 3) := by decide +kernel
theorem dX11_seen_56 : decode cX11_seen 56 = .ok (.aload_n 0, 1) := by decide +kernel
theorem dX11_seen_57 : decode cX11_seen 57 = .ok (.getfield 102, 3) := by decide +kernel
theorem dX11_seen_60 : decode cX11_seen 60 = .ok (.ireturn, 1) := by decide +kernel
theorem dX11_forget_0 : decode cX11_forget 0 = .ok (.aload_n 0, 1) := by decide +kernel
theorem dX11_forget_1 : decode cX11_forget 1 = .ok (.getfield 102, 3) := by decide +kernel
theorem dX11_forget_4 : decode cX11_forget 4 = .ok (.istore_n 1, 1) := by decide +kernel
theorem dX11_forget_5 : decode cX11_forget 5 = .ok (.aload_n 0, 1) := by decide +kernel
theorem dX11_forget_6 : decode cX11_forget 6 = .ok (.iconst 0, 1) := by decide +kernel
theorem dX11_forget_7 : decode cX11_forget 7 = .ok (.putfield 102, 3) := by decide +kernel
theorem dX11_forget_10 : decode cX11_forget 10 = .ok (.iload_n 1, 1) := by decide +kernel
theorem dX11_forget_11 : decode cX11_forget 11 = .ok (.ireturn, 1) := by decide +kernel
theorem dX11_letsOut_0 : decode cX11_letsOut 0 = .ok (.aload_n 0, 1) := by decide +kernel
theorem dX11_letsOut_1 : decode cX11_letsOut 1 = .ok (.getfield 34, 3) := by decide +kernel
theorem dX11_letsOut_4 : decode cX11_letsOut 4 = .ok (.iload_n 1, 1) := by decide +kernel
theorem dX11_letsOut_5 : decode cX11_letsOut 5 = .ok (.bipush 10, 2) := by decide +kernel
theorem dX11_letsOut_7 : decode cX11_letsOut 7 = .ok (.idiv, 1) := by decide +kernel
theorem dX11_letsOut_8 : decode cX11_letsOut 8 = .ok (.iaload, 1) := by decide +kernel
theorem dX11_letsOut_9 : decode cX11_letsOut 9 = .ok (.iload_n 1, 1) := by decide +kernel
theorem dX11_letsOut_10 : decode cX11_letsOut 10 = .ok (.bipush 10, 2) := by decide +kernel
theorem dX11_letsOut_12 : decode cX11_letsOut 12 = .ok (.irem, 1) := by decide +kernel
theorem dX11_letsOut_13 : decode cX11_letsOut 13 = .ok (.iadd, 1) := by decide +kernel
theorem dX11_letsOut_14 : decode cX11_letsOut 14 = .ok (.istore_n 2, 1) := by decide +kernel
theorem dX11_letsOut_15 : decode cX11_letsOut 15 = .ok (.aload_n 0, 1) := by decide +kernel
theorem dX11_letsOut_16 : decode cX11_letsOut 16 = .ok (.getfield 19, 3) := by decide +kernel
theorem dX11_letsOut_19 : decode cX11_letsOut 19 = .ok (.iload_n 1, 1) := by decide +kernel
theorem dX11_letsOut_20 : decode cX11_letsOut 20 = .ok (.bipush 10, 2) := by decide +kernel
theorem dX11_letsOut_22 : decode cX11_letsOut 22 = .ok (.idiv, 1) := by decide +kernel
theorem dX11_letsOut_23 : decode cX11_letsOut 23 = .ok (.iload_n 2, 1) := by decide +kernel
theorem dX11_letsOut_24 : decode cX11_letsOut 24 = .ok (.bipush 40, 2) := by decide +kernel
theorem dX11_letsOut_26 : decode cX11_letsOut 26 = .ok (.if_icmp .le 8, 3) := by decide +kernel
theorem dX11_letsOut_29 : decode cX11_letsOut 29 = .ok (.bipush 40, 2) := by decide +kernel
theorem dX11_letsOut_31 : decode cX11_letsOut 31 = .ok (.goto 4, 3) := by decide +kernel
theorem dX11_letsOut_34 : decode cX11_letsOut 34 = .ok (.iload_n 2, 1) := by decide +kernel
theorem dX11_letsOut_35 : decode cX11_letsOut 35 = .ok (.iastore, 1) := by decide +kernel
theorem dX11_letsOut_36 : decode cX11_letsOut 36 = .ok (.return_, 1) := by decide +kernel
theorem dX11_laysFits_0 : decode cX11_laysFits 0 = .ok (.aload_n 0, 1) := by decide +kernel
theorem dX11_laysFits_1 : decode cX11_laysFits 1 = .ok (.invokevirtual 134, 3) := by decide +kernel
theorem dX11_laysFits_4 : decode cX11_laysFits 4 = .ok (.iconst 0, 1) := by decide +kernel
theorem dX11_laysFits_5 : decode cX11_laysFits 5 = .ok (.istore_n 1, 1) := by decide +kernel
theorem dX11_laysFits_6 : decode cX11_laysFits 6 = .ok (.iconst 0, 1) := by decide +kernel
theorem dX11_laysFits_7 : decode cX11_laysFits 7 = .ok (.istore_n 2, 1) := by decide +kernel
theorem dX11_laysFits_8 : decode cX11_laysFits 8 = .ok (.iload_n 2, 1) := by decide +kernel
theorem dX11_laysFits_9 : decode cX11_laysFits 9 = .ok (.bipush 10, 2) := by decide +kernel
theorem dX11_laysFits_11 : decode cX11_laysFits 11 = .ok (.aload_n 0, 1) := by decide +kernel
theorem dX11_laysFits_12 : decode cX11_laysFits 12 = .ok (.getfield 13, 3) := by decide +kernel
theorem dX11_laysFits_15 : decode cX11_laysFits 15 = .ok (.iconst 0, 1) := by decide +kernel
theorem dX11_laysFits_16 : decode cX11_laysFits 16 = .ok (.iaload, 1) := by decide +kernel
theorem dX11_laysFits_17 : decode cX11_laysFits 17 = .ok (.imul, 1) := by decide +kernel
theorem dX11_laysFits_18 : decode cX11_laysFits 18 = .ok (.if_icmp .ge 89, 3) := by decide +kernel
theorem dX11_laysFits_21 : decode cX11_laysFits 21 = .ok (.aload_n 0, 1) := by decide +kernel
theorem dX11_laysFits_22 : decode cX11_laysFits 22 = .ok (.iload_n 2, 1) := by decide +kernel
theorem dX11_laysFits_23 : decode cX11_laysFits 23 = .ok (.invokevirtual 146, 3) := by decide +kernel
theorem dX11_laysFits_26 : decode cX11_laysFits 26 = .ok (.iconst 1, 1) := by decide +kernel
theorem dX11_laysFits_27 : decode cX11_laysFits 27 = .ok (.istore_n 3, 1) := by decide +kernel
theorem dX11_laysFits_28 : decode cX11_laysFits 28 = .ok (.iconst 0, 1) := by decide +kernel
theorem dX11_laysFits_29 : decode cX11_laysFits 29 = .ok (.istore 4, 2) := by decide +kernel
theorem dX11_laysFits_31 : decode cX11_laysFits 31 = .ok (.iload 4, 2) := by decide +kernel
theorem dX11_laysFits_33 : decode cX11_laysFits 33 = .ok (.aload_n 0, 1) := by decide +kernel
theorem dX11_laysFits_34 : decode cX11_laysFits 34 = .ok (.getfield 102, 3) := by decide +kernel
theorem dX11_laysFits_37 : decode cX11_laysFits 37 = .ok (.if_icmp .ge 46, 3) := by decide +kernel
theorem dX11_laysFits_40 : decode cX11_laysFits 40 = .ok (.iload_n 3, 1) := by decide +kernel
theorem dX11_laysFits_41 : decode cX11_laysFits 41 = .ok (.ifCond .eq 34, 3) := by decide +kernel
theorem dX11_laysFits_44 : decode cX11_laysFits 44 = .ok (.aload_n 0, 1) := by decide +kernel
theorem dX11_laysFits_45 : decode cX11_laysFits 45 = .ok (.aload_n 0, 1) := by decide +kernel
theorem dX11_laysFits_46 : decode cX11_laysFits 46 = .ok (.getfield 28, 3) := by decide +kernel
theorem dX11_laysFits_49 : decode cX11_laysFits 49 = .ok (.iload 4, 2) := by decide +kernel
theorem dX11_laysFits_51 : decode cX11_laysFits 51 = .ok (.iaload, 1) := by decide +kernel
theorem dX11_laysFits_52 : decode cX11_laysFits 52 = .ok (.bipush 100, 2) := by decide +kernel
theorem dX11_laysFits_54 : decode cX11_laysFits 54 = .ok (.idiv, 1) := by decide +kernel
theorem dX11_laysFits_55 : decode cX11_laysFits 55 = .ok (.invokevirtual 112, 3) := by decide +kernel
theorem dX11_laysFits_58 : decode cX11_laysFits 58 = .ok (.aload_n 0, 1) := by decide +kernel
theorem dX11_laysFits_59 : decode cX11_laysFits 59 = .ok (.getfield 28, 3) := by decide +kernel
theorem dX11_laysFits_62 : decode cX11_laysFits 62 = .ok (.iload 4, 2) := by decide +kernel
theorem dX11_laysFits_64 : decode cX11_laysFits 64 = .ok (.iaload, 1) := by decide +kernel
theorem dX11_laysFits_65 : decode cX11_laysFits 65 = .ok (.bipush 100, 2) := by decide +kernel
theorem dX11_laysFits_67 : decode cX11_laysFits 67 = .ok (.irem, 1) := by decide +kernel
theorem dX11_laysFits_68 : decode cX11_laysFits 68 = .ok (.if_icmp .ne 7, 3) := by decide +kernel
theorem dX11_laysFits_71 : decode cX11_laysFits 71 = .ok (.iconst 1, 1) := by decide +kernel
theorem dX11_laysFits_72 : decode cX11_laysFits 72 = .ok (.goto 4, 3) := by decide +kernel
theorem dX11_laysFits_75 : decode cX11_laysFits 75 = .ok (.iconst 0, 1) := by decide +kernel
theorem dX11_laysFits_76 : decode cX11_laysFits 76 = .ok (.istore_n 3, 1) := by decide +kernel
theorem dX11_laysFits_77 : decode cX11_laysFits 77 = .ok (.iinc 4 1, 3) := by decide +kernel
theorem dX11_laysFits_80 : decode cX11_laysFits 80 = .ok (.goto (-49), 3) := by decide +kernel
theorem dX11_laysFits_83 : decode cX11_laysFits 83 = .ok (.aload_n 0, 1) := by decide +kernel
theorem dX11_laysFits_84 : decode cX11_laysFits 84 = .ok (.invokevirtual 137, 3) := by decide +kernel
theorem dX11_laysFits_87 : decode cX11_laysFits 87 = .ok (.iload_n 3, 1) := by decide +kernel
theorem dX11_laysFits_88 : decode cX11_laysFits 88 = .ok (.ifCond .eq 13, 3) := by decide +kernel
theorem dX11_laysFits_91 : decode cX11_laysFits 91 = .ok (.aload_n 0, 1) := by decide +kernel
theorem dX11_laysFits_92 : decode cX11_laysFits 92 = .ok (.getfield 37, 3) := by decide +kernel
theorem dX11_laysFits_95 : decode cX11_laysFits 95 = .ok (.iload_n 1, 1) := by decide +kernel
theorem dX11_laysFits_96 : decode cX11_laysFits 96 = .ok (.iload_n 2, 1) := by decide +kernel
theorem dX11_laysFits_97 : decode cX11_laysFits 97 = .ok (.iastore, 1) := by decide +kernel
theorem dX11_laysFits_98 : decode cX11_laysFits 98 = .ok (.iinc 1 1, 3) := by decide +kernel
theorem dX11_laysFits_101 : decode cX11_laysFits 101 = .ok (.iinc 2 1, 3) := by decide +kernel
theorem dX11_laysFits_104 : decode cX11_laysFits 104 = .ok (.goto (-96), 3) := by decide +kernel
theorem dX11_laysFits_107 : decode cX11_laysFits 107 = .ok (.iload_n 1, 1) := by decide +kernel
theorem dX11_laysFits_108 : decode cX11_laysFits 108 = .ok (.ireturn, 1) := by decide +kernel
theorem dX11_slipped_0 : decode cX11_slipped 0 = .ok (.iload_n 1, 1) := by decide +kernel
theorem dX11_slipped_1 : decode cX11_slipped 1 = .ok (.iconst 0, 1) := by decide +kernel
theorem dX11_slipped_2 : decode cX11_slipped 2 = .ok (.iconst 1, 1) := by decide +kernel
theorem dX11_slipped_3 : decode cX11_slipped 3 = .ok (.invokestatic 61, 3) := by decide +kernel
theorem dX11_slipped_6 : decode cX11_slipped 6 = .ok (.ifCond .ne 5, 3) := by decide +kernel
theorem dX11_slipped_9 : decode cX11_slipped 9 = .ok (.iconst (-1), 1) := by decide +kernel
theorem dX11_slipped_10 : decode cX11_slipped 10 = .ok (.ireturn, 1) := by decide +kernel
theorem dX11_slipped_11 : decode cX11_slipped 11 = .ok (.aload_n 0, 1) := by decide +kernel
theorem dX11_slipped_12 : decode cX11_slipped 12 = .ok (.invokevirtual 149, 3) := by decide +kernel
theorem dX11_slipped_15 : decode cX11_slipped 15 = .ok (.istore_n 2, 1) := by decide +kernel
theorem dX11_slipped_16 : decode cX11_slipped 16 = .ok (.iload_n 1, 1) := by decide +kernel
theorem dX11_slipped_17 : decode cX11_slipped 17 = .ok (.ifCond .ne 7, 3) := by decide +kernel
theorem dX11_slipped_20 : decode cX11_slipped 20 = .ok (.iload_n 2, 1) := by decide +kernel
theorem dX11_slipped_21 : decode cX11_slipped 21 = .ok (.goto 18, 3) := by decide +kernel
theorem dX11_slipped_24 : decode cX11_slipped 24 = .ok (.iload_n 2, 1) := by decide +kernel
theorem dX11_slipped_25 : decode cX11_slipped 25 = .ok (.ifCond .ne 8, 3) := by decide +kernel
theorem dX11_slipped_28 : decode cX11_slipped 28 = .ok (.bipush (-4), 2) := by decide +kernel
theorem dX11_slipped_30 : decode cX11_slipped 30 = .ok (.goto 9, 3) := by decide +kernel
theorem dX11_slipped_33 : decode cX11_slipped 33 = .ok (.aload_n 0, 1) := by decide +kernel
theorem dX11_slipped_34 : decode cX11_slipped 34 = .ok (.getfield 37, 3) := by decide +kernel
theorem dX11_slipped_37 : decode cX11_slipped 37 = .ok (.iconst 0, 1) := by decide +kernel
theorem dX11_slipped_38 : decode cX11_slipped 38 = .ok (.iaload, 1) := by decide +kernel
theorem dX11_slipped_39 : decode cX11_slipped 39 = .ok (.ireturn, 1) := by decide +kernel
theorem dX11_look_0 : decode cX11_look 0 = .ok (.iload_n 1, 1) := by decide +kernel
theorem dX11_look_1 : decode cX11_look 1 = .ok (.iconst 0, 1) := by decide +kernel
theorem dX11_look_2 : decode cX11_look 2 = .ok (.iconst 1, 1) := by decide +kernel
theorem dX11_look_3 : decode cX11_look 3 = .ok (.invokestatic 61, 3) := by decide +kernel
theorem dX11_look_6 : decode cX11_look 6 = .ok (.ifCond .ne 5, 3) := by decide +kernel
theorem dX11_look_9 : decode cX11_look 9 = .ok (.iconst (-1), 1) := by decide +kernel
theorem dX11_look_10 : decode cX11_look 10 = .ok (.ireturn, 1) := by decide +kernel
theorem dX11_look_11 : decode cX11_look 11 = .ok (.aload_n 0, 1) := by decide +kernel
theorem dX11_look_12 : decode cX11_look 12 = .ok (.invokevirtual 149, 3) := by decide +kernel
theorem dX11_look_15 : decode cX11_look 15 = .ok (.istore_n 2, 1) := by decide +kernel
theorem dX11_look_16 : decode cX11_look 16 = .ok (.iload_n 2, 1) := by decide +kernel
theorem dX11_look_17 : decode cX11_look 17 = .ok (.ifCond .ne 6, 3) := by decide +kernel
theorem dX11_look_20 : decode cX11_look 20 = .ok (.bipush (-4), 2) := by decide +kernel
theorem dX11_look_22 : decode cX11_look 22 = .ok (.ireturn, 1) := by decide +kernel
theorem dX11_look_23 : decode cX11_look 23 = .ok (.bipush (-4), 2) := by decide +kernel
theorem dX11_look_25 : decode cX11_look 25 = .ok (.istore_n 3, 1) := by decide +kernel
theorem dX11_look_26 : decode cX11_look 26 = .ok (.bipush (-4), 2) := by decide +kernel
theorem dX11_look_28 : decode cX11_look 28 = .ok (.istore 4, 2) := by decide +kernel
theorem dX11_look_30 : decode cX11_look 30 = .ok (.iconst 0, 1) := by decide +kernel
theorem dX11_look_31 : decode cX11_look 31 = .ok (.istore 5, 2) := by decide +kernel
theorem dX11_look_33 : decode cX11_look 33 = .ok (.iload 5, 2) := by decide +kernel
theorem dX11_look_35 : decode cX11_look 35 = .ok (.bipush 24, 2) := by decide +kernel
theorem dX11_look_37 : decode cX11_look 37 = .ok (.if_icmp .ge 157, 3) := by decide +kernel
theorem dX11_look_40 : decode cX11_look 40 = .ok (.iconst 0, 1) := by decide +kernel
theorem dX11_look_41 : decode cX11_look 41 = .ok (.istore 6, 2) := by decide +kernel
theorem dX11_look_43 : decode cX11_look 43 = .ok (.iload 6, 2) := by decide +kernel
theorem dX11_look_45 : decode cX11_look 45 = .ok (.bipush 40, 2) := by decide +kernel
theorem dX11_look_47 : decode cX11_look 47 = .ok (.if_icmp .gt 17, 3) := by decide +kernel
theorem dX11_look_50 : decode cX11_look 50 = .ok (.aload_n 0, 1) := by decide +kernel
theorem dX11_look_51 : decode cX11_look 51 = .ok (.getfield 40, 3) := by decide +kernel
theorem dX11_look_54 : decode cX11_look 54 = .ok (.iload 6, 2) := by decide +kernel
theorem dX11_look_56 : decode cX11_look 56 = .ok (.iconst 0, 1) := by decide +kernel
theorem dX11_look_57 : decode cX11_look 57 = .ok (.iastore, 1) := by decide +kernel
theorem dX11_look_58 : decode cX11_look 58 = .ok (.iinc 6 1, 3) := by decide +kernel
theorem dX11_look_61 : decode cX11_look 61 = .ok (.goto (-18), 3) := by decide +kernel
theorem dX11_look_64 : decode cX11_look 64 = .ok (.iconst 0, 1) := by decide +kernel
theorem dX11_look_65 : decode cX11_look 65 = .ok (.istore 6, 2) := by decide +kernel
theorem dX11_look_67 : decode cX11_look 67 = .ok (.iconst 0, 1) := by decide +kernel
theorem dX11_look_68 : decode cX11_look 68 = .ok (.istore 7, 2) := by decide +kernel
theorem dX11_look_70 : decode cX11_look 70 = .ok (.iload 7, 2) := by decide +kernel
theorem dX11_look_72 : decode cX11_look 72 = .ok (.iload_n 2, 1) := by decide +kernel
theorem dX11_look_73 : decode cX11_look 73 = .ok (.if_icmp .ge 69, 3) := by decide +kernel
theorem dX11_look_76 : decode cX11_look 76 = .ok (.aload_n 0, 1) := by decide +kernel
theorem dX11_look_77 : decode cX11_look 77 = .ok (.aload_n 0, 1) := by decide +kernel
theorem dX11_look_78 : decode cX11_look 78 = .ok (.getfield 37, 3) := by decide +kernel
theorem dX11_look_81 : decode cX11_look 81 = .ok (.iload 7, 2) := by decide +kernel
theorem dX11_look_83 : decode cX11_look 83 = .ok (.iaload, 1) := by decide +kernel
theorem dX11_look_84 : decode cX11_look 84 = .ok (.invokevirtual 146, 3) := by decide +kernel
theorem dX11_look_87 : decode cX11_look 87 = .ok (.aload_n 0, 1) := by decide +kernel
theorem dX11_look_88 : decode cX11_look 88 = .ok (.iload 5, 2) := by decide +kernel
theorem dX11_look_90 : decode cX11_look 90 = .ok (.invokevirtual 112, 3) := by decide +kernel
theorem dX11_look_93 : decode cX11_look 93 = .ok (.istore 8, 2) := by decide +kernel
theorem dX11_look_95 : decode cX11_look 95 = .ok (.aload_n 0, 1) := by decide +kernel
theorem dX11_look_96 : decode cX11_look 96 = .ok (.invokevirtual 137, 3) := by decide +kernel
theorem dX11_look_99 : decode cX11_look 99 = .ok (.aload_n 0, 1) := by decide +kernel
theorem dX11_look_100 : decode cX11_look 100 = .ok (.getfield 40, 3) := by decide +kernel
theorem dX11_look_103 : decode cX11_look 103 = .ok (.iload 8, 2) := by decide +kernel
theorem dX11_look_105 : decode cX11_look 105 = .ok (.dup2, 1) := by decide +kernel
theorem dX11_look_106 : decode cX11_look 106 = .ok (.iaload, 1) := by decide +kernel
theorem dX11_look_107 : decode cX11_look 107 = .ok (.iconst 1, 1) := by decide +kernel
theorem dX11_look_108 : decode cX11_look 108 = .ok (.iadd, 1) := by decide +kernel
theorem dX11_look_109 : decode cX11_look 109 = .ok (.iastore, 1) := by decide +kernel
theorem dX11_look_110 : decode cX11_look 110 = .ok (.aload_n 0, 1) := by decide +kernel
theorem dX11_look_111 : decode cX11_look 111 = .ok (.getfield 40, 3) := by decide +kernel
theorem dX11_look_114 : decode cX11_look 114 = .ok (.iload 8, 2) := by decide +kernel
theorem dX11_look_116 : decode cX11_look 116 = .ok (.iaload, 1) := by decide +kernel
theorem dX11_look_117 : decode cX11_look 117 = .ok (.iload 6, 2) := by decide +kernel
theorem dX11_look_119 : decode cX11_look 119 = .ok (.if_icmp .le 13, 3) := by decide +kernel
theorem dX11_look_122 : decode cX11_look 122 = .ok (.aload_n 0, 1) := by decide +kernel
theorem dX11_look_123 : decode cX11_look 123 = .ok (.getfield 40, 3) := by decide +kernel
theorem dX11_look_126 : decode cX11_look 126 = .ok (.iload 8, 2) := by decide +kernel
theorem dX11_look_128 : decode cX11_look 128 = .ok (.iaload, 1) := by decide +kernel
theorem dX11_look_129 : decode cX11_look 129 = .ok (.goto 5, 3) := by decide +kernel
theorem dX11_look_132 : decode cX11_look 132 = .ok (.iload 6, 2) := by decide +kernel
theorem dX11_look_134 : decode cX11_look 134 = .ok (.istore 6, 2) := by decide +kernel
theorem dX11_look_136 : decode cX11_look 136 = .ok (.iinc 7 1, 3) := by decide +kernel
theorem dX11_look_139 : decode cX11_look 139 = .ok (.goto (-69), 3) := by decide +kernel
theorem dX11_look_142 : decode cX11_look 142 = .ok (.iload_n 3, 1) := by decide +kernel
theorem dX11_look_143 : decode cX11_look 143 = .ok (.bipush (-4), 2) := by decide +kernel
theorem dX11_look_145 : decode cX11_look 145 = .ok (.if_icmp .eq 10, 3) := by decide +kernel
theorem dX11_look_148 : decode cX11_look 148 = .ok (.iload 6, 2) := by decide +kernel
theorem dX11_look_150 : decode cX11_look 150 = .ok (.iload 4, 2) := by decide +kernel
theorem dX11_look_152 : decode cX11_look 152 = .ok (.if_icmp .ge 7, 3) := by decide +kernel
theorem dX11_look_155 : decode cX11_look 155 = .ok (.iconst 1, 1) := by decide +kernel
theorem dX11_look_156 : decode cX11_look 156 = .ok (.goto 4, 3) := by decide +kernel
theorem dX11_look_159 : decode cX11_look 159 = .ok (.iconst 0, 1) := by decide +kernel
theorem dX11_look_160 : decode cX11_look 160 = .ok (.istore 7, 2) := by decide +kernel
theorem dX11_look_162 : decode cX11_look 162 = .ok (.iload 7, 2) := by decide +kernel
theorem dX11_look_164 : decode cX11_look 164 = .ok (.ifCond .eq 8, 3) := by decide +kernel
