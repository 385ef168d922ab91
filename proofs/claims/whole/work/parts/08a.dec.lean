theorem dX0_init_0 : decode cX0_init 0 = .ok (.aload_n 0, 1) := by decide +kernel
theorem dX0_init_1 : decode cX0_init 1 = .ok (.invokespecial 3, 3) := by decide +kernel
theorem dX0_init_4 : decode cX0_init 4 = .ok (.aload_n 0, 1) := by decide +kernel
theorem dX0_init_5 : decode cX0_init 5 = .ok (.new 9, 3) := by decide +kernel
theorem dX0_init_8 : decode cX0_init 8 = .ok (.dup, 1) := by decide +kernel
theorem dX0_init_9 : decode cX0_init 9 = .ok (.invokespecial 11, 3) := by decide +kernel
theorem dX0_init_12 : decode cX0_init 12 = .ok (.putfield 12, 3) := by decide +kernel
theorem dX0_init_15 : decode cX0_init 15 = .ok (.return_, 1) := by decide +kernel
theorem dX0_hoursUntil_0 : decode cX0_hoursUntil 0 = .ok (.aload_n 0, 1) := by decide +kernel
theorem dX0_hoursUntil_1 : decode cX0_hoursUntil 1 = .ok (.getfield 12, 3) := by decide +kernel
theorem dX0_hoursUntil_4 : decode cX0_hoursUntil 4 = .ok (.aload_n 2, 1) := by decide +kernel
theorem dX0_hoursUntil_5 : decode cX0_hoursUntil 5 = .ok (.invokevirtual 18, 3) := by decide +kernel
theorem dX0_hoursUntil_8 : decode cX0_hoursUntil 8 = .ok (.iconst 0, 1) := by decide +kernel
theorem dX0_hoursUntil_9 : decode cX0_hoursUntil 9 = .ok (.istore 5, 2) := by decide +kernel
theorem dX0_hoursUntil_11 : decode cX0_hoursUntil 11 = .ok (.iload 5, 2) := by decide +kernel
theorem dX0_hoursUntil_13 : decode cX0_hoursUntil 13 = .ok (.bipush 24, 2) := by decide +kernel
theorem dX0_hoursUntil_15 : decode cX0_hoursUntil 15 = .ok (.if_icmp .gt 37, 3) := by decide +kernel
theorem dX0_hoursUntil_18 : decode cX0_hoursUntil 18 = .ok (.aload_n 1, 1) := by decide +kernel
theorem dX0_hoursUntil_19 : decode cX0_hoursUntil 19 = .ok (.aload_n 0, 1) := by decide +kernel
theorem dX0_hoursUntil_20 : decode cX0_hoursUntil 20 = .ok (.getfield 12, 3) := by decide +kernel
theorem dX0_hoursUntil_23 : decode cX0_hoursUntil 23 = .ok (.getfield 22, 3) := by decide +kernel
theorem dX0_hoursUntil_26 : decode cX0_hoursUntil 26 = .ok (.iload_n 3, 1) := by decide +kernel
theorem dX0_hoursUntil_27 : decode cX0_hoursUntil 27 = .ok (.invokevirtual 26, 3) := by decide +kernel
theorem dX0_hoursUntil_30 : decode cX0_hoursUntil 30 = .ok (.iload 4, 2) := by decide +kernel
theorem dX0_hoursUntil_32 : decode cX0_hoursUntil 32 = .ok (.if_icmp .lt 6, 3) := by decide +kernel
theorem dX0_hoursUntil_35 : decode cX0_hoursUntil 35 = .ok (.iload 5, 2) := by decide +kernel
theorem dX0_hoursUntil_37 : decode cX0_hoursUntil 37 = .ok (.ireturn, 1) := by decide +kernel
theorem dX0_hoursUntil_38 : decode cX0_hoursUntil 38 = .ok (.aload_n 0, 1) := by decide +kernel
theorem dX0_hoursUntil_39 : decode cX0_hoursUntil 39 = .ok (.getfield 12, 3) := by decide +kernel
theorem dX0_hoursUntil_42 : decode cX0_hoursUntil 42 = .ok (.aload_n 1, 1) := by decide +kernel
theorem dX0_hoursUntil_43 : decode cX0_hoursUntil 43 = .ok (.invokevirtual 32, 3) := by decide +kernel
theorem dX0_hoursUntil_46 : decode cX0_hoursUntil 46 = .ok (.iinc 5 1, 3) := by decide +kernel
theorem dX0_hoursUntil_49 : decode cX0_hoursUntil 49 = .ok (.goto (-38), 3) := by decide +kernel
theorem dX0_hoursUntil_52 : decode cX0_hoursUntil 52 = .ok (.bipush (-4), 2) := by decide +kernel
theorem dX0_hoursUntil_54 : decode cX0_hoursUntil 54 = .ok (.ireturn, 1) := by decide +kernel
theorem dX0_nightsIfGreased_0 : decode cX0_nightsIfGreased 0 = .ok (.aload_n 0, 1) := by decide +kernel
theorem dX0_nightsIfGreased_1 : decode cX0_nightsIfGreased 1 = .ok (.getfield 12, 3) := by decide +kernel
theorem dX0_nightsIfGreased_4 : decode cX0_nightsIfGreased 4 = .ok (.aload_n 2, 1) := by decide +kernel
theorem dX0_nightsIfGreased_5 : decode cX0_nightsIfGreased 5 = .ok (.invokevirtual 18, 3) := by decide +kernel
theorem dX0_nightsIfGreased_8 : decode cX0_nightsIfGreased 8 = .ok (.aload_n 0, 1) := by decide +kernel
theorem dX0_nightsIfGreased_9 : decode cX0_nightsIfGreased 9 = .ok (.getfield 12, 3) := by decide +kernel
theorem dX0_nightsIfGreased_12 : decode cX0_nightsIfGreased 12 = .ok (.getfield 36, 3) := by decide +kernel
theorem dX0_nightsIfGreased_15 : decode cX0_nightsIfGreased 15 = .ok (.iload_n 3, 1) := by decide +kernel
theorem dX0_nightsIfGreased_16 : decode cX0_nightsIfGreased 16 = .ok (.iconst 1, 1) := by decide +kernel
theorem dX0_nightsIfGreased_17 : decode cX0_nightsIfGreased 17 = .ok (.iastore, 1) := by decide +kernel
theorem dX0_nightsIfGreased_18 : decode cX0_nightsIfGreased 18 = .ok (.iconst 0, 1) := by decide +kernel
theorem dX0_nightsIfGreased_19 : decode cX0_nightsIfGreased 19 = .ok (.istore 5, 2) := by decide +kernel
theorem dX0_nightsIfGreased_21 : decode cX0_nightsIfGreased 21 = .ok (.iload 5, 2) := by decide +kernel
theorem dX0_nightsIfGreased_23 : decode cX0_nightsIfGreased 23 = .ok (.iload 4, 2) := by decide +kernel
theorem dX0_nightsIfGreased_25 : decode cX0_nightsIfGreased 25 = .ok (.if_icmp .ge 17, 3) := by decide +kernel
theorem dX0_nightsIfGreased_28 : decode cX0_nightsIfGreased 28 = .ok (.aload_n 0, 1) := by decide +kernel
theorem dX0_nightsIfGreased_29 : decode cX0_nightsIfGreased 29 = .ok (.getfield 12, 3) := by decide +kernel
theorem dX0_nightsIfGreased_32 : decode cX0_nightsIfGreased 32 = .ok (.aload_n 1, 1) := by decide +kernel
theorem dX0_nightsIfGreased_33 : decode cX0_nightsIfGreased 33 = .ok (.invokevirtual 32, 3) := by decide +kernel
theorem dX0_nightsIfGreased_36 : decode cX0_nightsIfGreased 36 = .ok (.iinc 5 1, 3) := by decide +kernel
theorem dX0_nightsIfGreased_39 : decode cX0_nightsIfGreased 39 = .ok (.goto (-18), 3) := by decide +kernel
theorem dX0_nightsIfGreased_42 : decode cX0_nightsIfGreased 42 = .ok (.aload_n 1, 1) := by decide +kernel
theorem dX0_nightsIfGreased_43 : decode cX0_nightsIfGreased 43 = .ok (.aload_n 0, 1) := by decide +kernel
theorem dX0_nightsIfGreased_44 : decode cX0_nightsIfGreased 44 = .ok (.getfield 12, 3) := by decide +kernel
theorem dX0_nightsIfGreased_47 : decode cX0_nightsIfGreased 47 = .ok (.getfield 22, 3) := by decide +kernel
theorem dX0_nightsIfGreased_50 : decode cX0_nightsIfGreased 50 = .ok (.invokevirtual 39, 3) := by decide +kernel
theorem dX0_nightsIfGreased_53 : decode cX0_nightsIfGreased 53 = .ok (.ireturn, 1) := by decide +kernel
theorem dX0_drawn_0 : decode cX0_drawn 0 = .ok (.aload_n 0, 1) := by decide +kernel
theorem dX0_drawn_1 : decode cX0_drawn 1 = .ok (.getfield 12, 3) := by decide +kernel
theorem dX0_drawn_4 : decode cX0_drawn 4 = .ok (.aload_n 2, 1) := by decide +kernel
theorem dX0_drawn_5 : decode cX0_drawn 5 = .ok (.invokevirtual 18, 3) := by decide +kernel
theorem dX0_drawn_8 : decode cX0_drawn 8 = .ok (.aload_n 1, 1) := by decide +kernel
theorem dX0_drawn_9 : decode cX0_drawn 9 = .ok (.invokevirtual 43, 3) := by decide +kernel
theorem dX0_drawn_12 : decode cX0_drawn 12 = .ok (.iconst 1, 1) := by decide +kernel
theorem dX0_drawn_13 : decode cX0_drawn 13 = .ok (.isub, 1) := by decide +kernel
theorem dX0_drawn_14 : decode cX0_drawn 14 = .ok (.istore 5, 2) := by decide +kernel
theorem dX0_drawn_16 : decode cX0_drawn 16 = .ok (.iconst 0, 1) := by decide +kernel
theorem dX0_drawn_17 : decode cX0_drawn 17 = .ok (.istore 6, 2) := by decide +kernel
theorem dX0_drawn_19 : decode cX0_drawn 19 = .ok (.iload 6, 2) := by decide +kernel
theorem dX0_drawn_21 : decode cX0_drawn 21 = .ok (.iload 4, 2) := by decide +kernel
theorem dX0_drawn_23 : decode cX0_drawn 23 = .ok (.if_icmp .ge 78, 3) := by decide +kernel
theorem dX0_drawn_26 : decode cX0_drawn 26 = .ok (.ldc2_w 47, 3) := by decide +kernel
theorem dX0_drawn_29 : decode cX0_drawn 29 = .ok (.iload_n 3, 1) := by decide +kernel
theorem dX0_drawn_30 : decode cX0_drawn 30 = .ok (.i2l, 1) := by decide +kernel
theorem dX0_drawn_31 : decode cX0_drawn 31 = .ok (.lmul, 1) := by decide +kernel
theorem dX0_drawn_32 : decode cX0_drawn 32 = .ok (.ldc2_w 49, 3) := by decide +kernel
theorem dX0_drawn_35 : decode cX0_drawn 35 = .ok (.aload_n 0, 1) := by decide +kernel
theorem dX0_drawn_36 : decode cX0_drawn 36 = .ok (.getfield 12, 3) := by decide +kernel
theorem dX0_drawn_39 : decode cX0_drawn 39 = .ok (.getfield 51, 3) := by decide +kernel
theorem dX0_drawn_42 : decode cX0_drawn 42 = .ok (.i2l, 1) := by decide +kernel
theorem dX0_drawn_43 : decode cX0_drawn 43 = .ok (.lmul, 1) := by decide +kernel
theorem dX0_drawn_44 : decode cX0_drawn 44 = .ok (.ladd, 1) := by decide +kernel
theorem dX0_drawn_45 : decode cX0_drawn 45 = .ok (.lconst 1, 1) := by decide +kernel
theorem dX0_drawn_46 : decode cX0_drawn 46 = .ok (.ladd, 1) := by decide +kernel
theorem dX0_drawn_47 : decode cX0_drawn 47 = .ok (.lstore 7, 2) := by decide +kernel
theorem dX0_drawn_49 : decode cX0_drawn 49 = .ok (.lload 7, 2) := by decide +kernel
theorem dX0_drawn_51 : decode cX0_drawn 51 = .ok (.lload 7, 2) := by decide +kernel
theorem dX0_drawn_53 : decode cX0_drawn 53 = .ok (.lmul, 1) := by decide +kernel
theorem dX0_drawn_54 : decode cX0_drawn 54 = .ok (.ldc2_w 55, 3) := by decide +kernel
theorem dX0_drawn_57 : decode cX0_drawn 57 = .ok (.lrem, 1) := by decide +kernel
theorem dX0_drawn_58 : decode cX0_drawn 58 = .ok (.l2i, 1) := by decide +kernel
theorem dX0_drawn_59 : decode cX0_drawn 59 = .ok (.istore 9, 2) := by decide +kernel
theorem dX0_drawn_61 : decode cX0_drawn 61 = .ok (.iload 9, 2) := by decide +kernel
theorem dX0_drawn_63 : decode cX0_drawn 63 = .ok (.iload 5, 2) := by decide +kernel
theorem dX0_drawn_65 : decode cX0_drawn 65 = .ok (.iand, 1) := by decide +kernel
theorem dX0_drawn_66 : decode cX0_drawn 66 = .ok (.istore 10, 2) := by decide +kernel
theorem dX0_drawn_68 : decode cX0_drawn 68 = .ok (.iload 9, 2) := by decide +kernel
theorem dX0_drawn_70 : decode cX0_drawn 70 = .ok (.bipush 32, 2) := by decide +kernel
theorem dX0_drawn_72 : decode cX0_drawn 72 = .ok (.idiv, 1) := by decide +kernel
theorem dX0_drawn_73 : decode cX0_drawn 73 = .ok (.iload 5, 2) := by decide +kernel
theorem dX0_drawn_75 : decode cX0_drawn 75 = .ok (.iand, 1) := by decide +kernel
theorem dX0_drawn_76 : decode cX0_drawn 76 = .ok (.iload 10, 2) := by decide +kernel
theorem dX0_drawn_78 : decode cX0_drawn 78 = .ok (.iconst (-1), 1) := by decide +kernel
theorem dX0_drawn_79 : decode cX0_drawn 79 = .ok (.ixor, 1) := by decide +kernel
theorem dX0_drawn_80 : decode cX0_drawn 80 = .ok (.iand, 1) := by decide +kernel
theorem dX0_drawn_81 : decode cX0_drawn 81 = .ok (.istore 11, 2) := by decide +kernel
theorem dX0_drawn_83 : decode cX0_drawn 83 = .ok (.aload_n 0, 1) := by decide +kernel
theorem dX0_drawn_84 : decode cX0_drawn 84 = .ok (.getfield 12, 3) := by decide +kernel
theorem dX0_drawn_87 : decode cX0_drawn 87 = .ok (.aload_n 1, 1) := by decide +kernel
theorem dX0_drawn_88 : decode cX0_drawn 88 = .ok (.iload 10, 2) := by decide +kernel
theorem dX0_drawn_90 : decode cX0_drawn 90 = .ok (.iload 11, 2) := by decide +kernel
theorem dX0_drawn_92 : decode cX0_drawn 92 = .ok (.invokevirtual 57, 3) := by decide +kernel
theorem dX0_drawn_95 : decode cX0_drawn 95 = .ok (.iinc 6 1, 3) := by decide +kernel
theorem dX0_drawn_98 : decode cX0_drawn 98 = .ok (.goto (-79), 3) := by decide +kernel
theorem dX0_drawn_101 : decode cX0_drawn 101 = .ok (.aload_n 0, 1) := by decide +kernel
theorem dX0_drawn_102 : decode cX0_drawn 102 = .ok (.getfield 12, 3) := by decide +kernel
theorem dX0_drawn_105 : decode cX0_drawn 105 = .ok (.areturn, 1) := by decide +kernel
theorem dX1_init_0 : decode cX1_init 0 = .ok (.aload_n 0, 1) := by decide +kernel
theorem dX1_init_1 : decode cX1_init 1 = .ok (.invokespecial 3, 3) := by decide +kernel
theorem dX1_init_4 : decode cX1_init 4 = .ok (.aload_n 0, 1) := by decide +kernel
theorem dX1_init_5 : decode cX1_init 5 = .ok (.bipush 7, 2) := by decide +kernel
theorem dX1_init_7 : decode cX1_init 7 = .ok (.newarray .int, 2) := by decide +kernel
theorem dX1_init_9 : decode cX1_init 9 = .ok (.putfield 9, 3) := by decide +kernel
theorem dX1_init_12 : decode cX1_init 12 = .ok (.return_, 1) := by decide +kernel
theorem dX1_spread_0 : decode cX1_spread 0 = .ok (.aload_n 0, 1) := by decide +kernel
theorem dX1_spread_1 : decode cX1_spread 1 = .ok (.getfield 9, 3) := by decide +kernel
theorem dX1_spread_4 : decode cX1_spread 4 = .ok (.iconst 0, 1) := by decide +kernel
theorem dX1_spread_5 : decode cX1_spread 5 = .ok (.invokestatic 15, 3) := by decide +kernel
theorem dX1_spread_8 : decode cX1_spread 8 = .ok (.aload_n 0, 1) := by decide +kernel
theorem dX1_spread_9 : decode cX1_spread 9 = .ok (.getfield 9, 3) := by decide +kernel
theorem dX1_spread_12 : decode cX1_spread 12 = .ok (.iconst 0, 1) := by decide +kernel
theorem dX1_spread_13 : decode cX1_spread 13 = .ok (.iconst 1, 1) := by decide +kernel
theorem dX1_spread_14 : decode cX1_spread 14 = .ok (.iastore, 1) := by decide +kernel
theorem dX1_spread_15 : decode cX1_spread 15 = .ok (.iconst 0, 1) := by decide +kernel
theorem dX1_spread_16 : decode cX1_spread 16 = .ok (.istore_n 3, 1) := by decide +kernel
theorem dX1_spread_17 : decode cX1_spread 17 = .ok (.iload_n 3, 1) := by decide +kernel
theorem dX1_spread_18 : decode cX1_spread 18 = .ok (.iload_n 1, 1) := by decide +kernel
theorem dX1_spread_19 : decode cX1_spread 19 = .ok (.if_icmp .ge 68, 3) := by decide +kernel
theorem dX1_spread_22 : decode cX1_spread 22 = .ok (.bipush 6, 2) := by decide +kernel
theorem dX1_spread_24 : decode cX1_spread 24 = .ok (.istore 4, 2) := by decide +kernel
theorem dX1_spread_26 : decode cX1_spread 26 = .ok (.iload 4, 2) := by decide +kernel
theorem dX1_spread_28 : decode cX1_spread 28 = .ok (.ifCond .le 40, 3) := by decide +kernel
theorem dX1_spread_31 : decode cX1_spread 31 = .ok (.aload_n 0, 1) := by decide +kernel
theorem dX1_spread_32 : decode cX1_spread 32 = .ok (.getfield 9, 3) := by decide +kernel
theorem dX1_spread_35 : decode cX1_spread 35 = .ok (.iload 4, 2) := by decide +kernel
theorem dX1_spread_37 : decode cX1_spread 37 = .ok (.aload_n 0, 1) := by decide +kernel
theorem dX1_spread_38 : decode cX1_spread 38 = .ok (.getfield 9, 3) := by decide +kernel
theorem dX1_spread_41 : decode cX1_spread 41 = .ok (.iload 4, 2) := by decide +kernel
theorem dX1_spread_43 : decode cX1_spread 43 = .ok (.iaload, 1) := by decide +kernel
theorem dX1_spread_44 : decode cX1_spread 44 = .ok (.bipush 10, 2) := by decide +kernel
theorem dX1_spread_46 : decode cX1_spread 46 = .ok (.iload_n 2, 1) := by decide +kernel
theorem dX1_spread_47 : decode cX1_spread 47 = .ok (.isub, 1) := by decide +kernel
theorem dX1_spread_48 : decode cX1_spread 48 = .ok (.imul, 1) := by decide +kernel
theorem dX1_spread_49 : decode cX1_spread 49 = .ok (.aload_n 0, 1) := by decide +kernel
theorem dX1_spread_50 : decode cX1_spread 50 = .ok (.getfield 9, 3) := by decide +kernel
theorem dX1_spread_53 : decode cX1_spread 53 = .ok (.iload 4, 2) := by decide +kernel
theorem dX1_spread_55 : decode cX1_spread 55 = .ok (.iconst 1, 1) := by decide +kernel
theorem dX1_spread_56 : decode cX1_spread 56 = .ok (.isub, 1) := by decide +kernel
theorem dX1_spread_57 : decode cX1_spread 57 = .ok (.iaload, 1) := by decide +kernel
theorem dX1_spread_58 : decode cX1_spread 58 = .ok (.iload_n 2, 1) := by decide +kernel
theorem dX1_spread_59 : decode cX1_spread 59 = .ok (.imul, 1) := by decide +kernel
theorem dX1_spread_60 : decode cX1_spread 60 = .ok (.iadd, 1) := by decide +kernel
theorem dX1_spread_61 : decode cX1_spread 61 = .ok (.iastore, 1) := by decide +kernel
theorem dX1_spread_62 : decode cX1_spread 62 = .ok (.iinc 4 (-1), 3) := by decide +kernel
theorem dX1_spread_65 : decode cX1_spread 65 = .ok (.goto (-39), 3) := by decide +kernel
theorem dX1_spread_68 : decode cX1_spread 68 = .ok (.aload_n 0, 1) := by decide +kernel
theorem dX1_spread_69 : decode cX1_spread 69 = .ok (.getfield 9, 3) := by decide +kernel
theorem dX1_spread_72 : decode cX1_spread 72 = .ok (.iconst 0, 1) := by decide +kernel
theorem dX1_spread_73 : decode cX1_spread 73 = .ok (.dup2, 1) := by decide +kernel
theorem dX1_spread_74 : decode cX1_spread 74 = .ok (.iaload, 1) := by decide +kernel
theorem dX1_spread_75 : decode cX1_spread 75 = .ok (.bipush 10, 2) := by decide +kernel
theorem dX1_spread_77 : decode cX1_spread 77 = .ok (.iload_n 2, 1) := by decide +kernel
theorem dX1_spread_78 : decode cX1_spread 78 = .ok (.isub, 1) := by decide +kernel
theorem dX1_spread_79 : decode cX1_spread 79 = .ok (.imul, 1) := by decide +kernel
theorem dX1_spread_80 : decode cX1_spread 80 = .ok (.iastore, 1) := by decide +kernel
theorem dX1_spread_81 : decode cX1_spread 81 = .ok (.iinc 3 1, 3) := by decide +kernel
theorem dX1_spread_84 : decode cX1_spread 84 = .ok (.goto (-67), 3) := by decide +kernel
theorem dX1_spread_87 : decode cX1_spread 87 = .ok (.return_, 1) := by decide +kernel
theorem dX1_waysToLight_0 : decode cX1_waysToLight 0 = .ok (.iconst 0, 1) := by decide +kernel
theorem dX1_waysToLight_1 : decode cX1_waysToLight 1 = .ok (.istore 4, 2) := by decide +kernel
theorem dX1_waysToLight_3 : decode cX1_waysToLight 3 = .ok (.iconst 0, 1) := by decide +kernel
theorem dX1_waysToLight_4 : decode cX1_waysToLight 4 = .ok (.istore 5, 2) := by decide +kernel
theorem dX1_waysToLight_6 : decode cX1_waysToLight 6 = .ok (.iload 5, 2) := by decide +kernel
theorem dX1_waysToLight_8 : decode cX1_waysToLight 8 = .ok (.iload_n 2, 1) := by decide +kernel
theorem dX1_waysToLight_9 : decode cX1_waysToLight 9 = .ok (.if_icmp .gt 42, 3) := by decide +kernel
theorem dX1_waysToLight_12 : decode cX1_waysToLight 12 = .ok (.iload 5, 2) := by decide +kernel
theorem dX1_waysToLight_14 : decode cX1_waysToLight 14 = .ok (.bipush 6, 2) := by decide +kernel
theorem dX1_waysToLight_16 : decode cX1_waysToLight 16 = .ok (.if_icmp .gt 35, 3) := by decide +kernel
theorem dX1_waysToLight_19 : decode cX1_waysToLight 19 = .ok (.iload_n 1, 1) := by decide +kernel
theorem dX1_waysToLight_20 : decode cX1_waysToLight 20 = .ok (.iload 5, 2) := by decide +kernel
theorem dX1_waysToLight_22 : decode cX1_waysToLight 22 = .ok (.isub, 1) := by decide +kernel
theorem dX1_waysToLight_23 : decode cX1_waysToLight 23 = .ok (.invokestatic 21, 3) := by decide +kernel
theorem dX1_waysToLight_26 : decode cX1_waysToLight 26 = .ok (.invokestatic 25, 3) := by decide +kernel
theorem dX1_waysToLight_29 : decode cX1_waysToLight 29 = .ok (.iload_n 3, 1) := by decide +kernel
theorem dX1_waysToLight_30 : decode cX1_waysToLight 30 = .ok (.if_icmp .ne 15, 3) := by decide +kernel
theorem dX1_waysToLight_33 : decode cX1_waysToLight 33 = .ok (.iload 4, 2) := by decide +kernel
theorem dX1_waysToLight_35 : decode cX1_waysToLight 35 = .ok (.aload_n 0, 1) := by decide +kernel
theorem dX1_waysToLight_36 : decode cX1_waysToLight 36 = .ok (.getfield 9, 3) := by decide +kernel
theorem dX1_waysToLight_39 : decode cX1_waysToLight 39 = .ok (.iload 5, 2) := by decide +kernel
theorem dX1_waysToLight_41 : decode cX1_waysToLight 41 = .ok (.iaload, 1) := by decide +kernel
theorem dX1_waysToLight_42 : decode cX1_waysToLight 42 = .ok (.iadd, 1) := by decide +kernel
theorem dX1_waysToLight_43 : decode cX1_waysToLight 43 = .ok (.istore 4, 2) := by decide +kernel
theorem dX1_waysToLight_45 : decode cX1_waysToLight 45 = .ok (.iinc 5 1, 3) := by decide +kernel
theorem dX1_waysToLight_48 : decode cX1_waysToLight 48 = .ok (.goto (-42), 3) := by decide +kernel
theorem dX1_waysToLight_51 : decode cX1_waysToLight 51 = .ok (.iload 4, 2) := by decide +kernel
theorem dX1_waysToLight_53 : decode cX1_waysToLight 53 = .ok (.ireturn, 1) := by decide +kernel
theorem dX1_allWays_0 : decode cX1_allWays 0 = .ok (.iconst 1, 1) := by decide +kernel
theorem dX1_allWays_1 : decode cX1_allWays 1 = .ok (.istore_n 2, 1) := by decide +kernel
theorem dX1_allWays_2 : decode cX1_allWays 2 = .ok (.iconst 0, 1) := by decide +kernel
theorem dX1_allWays_3 : decode cX1_allWays 3 = .ok (.istore_n 3, 1) := by decide +kernel
theorem dX1_allWays_4 : decode cX1_allWays 4 = .ok (.iload_n 3, 1) := by decide +kernel
theorem dX1_allWays_5 : decode cX1_allWays 5 = .ok (.iload_n 1, 1) := by decide +kernel
theorem dX1_allWays_6 : decode cX1_allWays 6 = .ok (.if_icmp .ge 20, 3) := by decide +kernel
theorem dX1_allWays_9 : decode cX1_allWays 9 = .ok (.iload_n 3, 1) := by decide +kernel
theorem dX1_allWays_10 : decode cX1_allWays 10 = .ok (.bipush 6, 2) := by decide +kernel
theorem dX1_allWays_12 : decode cX1_allWays 12 = .ok (.if_icmp .ge 14, 3) := by decide +kernel
theorem dX1_allWays_15 : decode cX1_allWays 15 = .ok (.iload_n 2, 1) := by decide +kernel
theorem dX1_allWays_16 : decode cX1_allWays 16 = .ok (.bipush 10, 2) := by decide +kernel
theorem dX1_allWays_18 : decode cX1_allWays 18 = .ok (.imul, 1) := by decide +kernel
theorem dX1_allWays_19 : decode cX1_allWays 19 = .ok (.istore_n 2, 1) := by decide +kernel
theorem dX1_allWays_20 : decode cX1_allWays 20 = .ok (.iinc 3 1, 3) := by decide +kernel
theorem dX1_allWays_23 : decode cX1_allWays 23 = .ok (.goto (-19), 3) := by decide +kernel
theorem dX1_allWays_26 : decode cX1_allWays 26 = .ok (.iload_n 2, 1) := by decide +kernel
theorem dX1_allWays_27 : decode cX1_allWays 27 = .ok (.ireturn, 1) := by decide +kernel
theorem dX2_init_0 : decode cX2_init 0 = .ok (.aload_n 0, 1) := by decide +kernel
theorem dX2_init_1 : decode cX2_init 1 = .ok (.invokespecial 3, 3) := by decide +kernel
theorem dX2_init_4 : decode cX2_init 4 = .ok (.aload_n 0, 1) := by decide +kernel
theorem dX2_init_5 : decode cX2_init 5 = .ok (.bipush 8, 2) := by decide +kernel
theorem dX2_init_7 : decode cX2_init 7 = .ok (.newarray .int, 2) := by decide +kernel
theorem dX2_init_9 : decode cX2_init 9 = .ok (.putfield 9, 3) := by decide +kernel
theorem dX2_init_12 : decode cX2_init 12 = .ok (.aload_n 0, 1) := by decide +kernel
theorem dX2_init_13 : decode cX2_init 13 = .ok (.bipush 8, 2) := by decide +kernel
theorem dX2_init_15 : decode cX2_init 15 = .ok (.newarray .int, 2) := by decide +kernel
theorem dX2_init_17 : decode cX2_init 17 = .ok (.putfield 15, 3) := by decide +kernel
theorem dX2_init_20 : decode cX2_init 20 = .ok (.aload_n 0, 1) := by decide +kernel
theorem dX2_init_21 : decode cX2_init 21 = .ok (.iconst 0, 1) := by decide +kernel
theorem dX2_init_22 : decode cX2_init 22 = .ok (.putfield 18, 3) := by decide +kernel
theorem dX2_init_25 : decode cX2_init 25 = .ok (.aload_n 0, 1) := by decide +kernel
theorem dX2_init_26 : decode cX2_init 26 = .ok (.bipush 50, 2) := by decide +kernel
theorem dX2_init_28 : decode cX2_init 28 = .ok (.newarray .int, 2) := by decide +kernel
theorem dX2_init_30 : decode cX2_init 30 = .ok (.putfield 22, 3) := by decide +kernel
theorem dX2_init_33 : decode cX2_init 33 = .ok (.aload_n 0, 1) := by decide +kernel
theorem dX2_init_34 : decode cX2_init 34 = .ok (.iconst 0, 1) := by decide +kernel
theorem dX2_init_35 : decode cX2_init 35 = .ok (.putfield 25, 3) := by decide +kernel
theorem dX2_init_38 : decode cX2_init 38 = .ok (.aload_n 0, 1) := by decide +kernel
theorem dX2_init_39 : decode cX2_init 39 = .ok (.iconst 5, 1) := by decide +kernel
theorem dX2_init_40 : decode cX2_init 40 = .ok (.newarray .int, 2) := by decide +kernel
theorem dX2_init_42 : decode cX2_init 42 = .ok (.putfield 28, 3) := by decide +kernel
theorem dX2_init_45 : decode cX2_init 45 = .ok (.aload_n 0, 1) := by decide +kernel
theorem dX2_init_46 : decode cX2_init 46 = .ok (.bipush 41, 2) := by decide +kernel
theorem dX2_init_48 : decode cX2_init 48 = .ok (.newarray .int, 2) := by decide +kernel
theorem dX2_init_50 : decode cX2_init 50 = .ok (.putfield 31, 3) := by decide +kernel
theorem dX2_init_53 : decode cX2_init 53 = .ok (.return_, 1) := by decide +kernel
theorem dX2_size_0 : decode cX2_size 0 = .ok (.aload_n 0, 1) := by decide +kernel
theorem dX2_size_1 : decode cX2_size 1 = .ok (.getfield 18, 3) := by decide +kernel
theorem dX2_size_4 : decode cX2_size 4 = .ok (.ireturn, 1) := by decide +kernel
theorem dX2_isFull_0 : decode cX2_isFull 0 = .ok (.aload_n 0, 1) := by decide +kernel
theorem dX2_isFull_1 : decode cX2_isFull 1 = .ok (.getfield 18, 3) := by decide +kernel
theorem dX2_isFull_4 : decode cX2_isFull 4 = .ok (.bipush 8, 2) := by decide +kernel
theorem dX2_isFull_6 : decode cX2_isFull 6 = .ok (.if_icmp .lt 7, 3) := by decide +kernel
theorem dX2_isFull_9 : decode cX2_isFull 9 = .ok (.iconst 1, 1) := by decide +kernel
theorem dX2_isFull_10 : decode cX2_isFull 10 = .ok (.goto 4, 3) := by decide +kernel
theorem dX2_isFull_13 : decode cX2_isFull 13 = .ok (.iconst 0, 1) := by decide +kernel
theorem dX2_isFull_14 : decode cX2_isFull 14 = .ok (.ireturn, 1) := by decide +kernel
theorem dX2_clear_0 : decode cX2_clear 0 = .ok (.aload_n 0, 1) := by decide +kernel
theorem dX2_clear_1 : decode cX2_clear 1 = .ok (.iconst 0, 1) := by decide +kernel
theorem dX2_clear_2 : decode cX2_clear 2 = .ok (.putfield 18, 3) := by decide +kernel
theorem dX2_clear_5 : decode cX2_clear 5 = .ok (.return_, 1) := by decide +kernel
theorem dX2_add_0 : decode cX2_add 0 = .ok (.aload_n 0, 1) := by decide +kernel
theorem dX2_add_1 : decode cX2_add 1 = .ok (.getfield 18, 3) := by decide +kernel
theorem dX2_add_4 : decode cX2_add 4 = .ok (.bipush 8, 2) := by decide +kernel
theorem dX2_add_6 : decode cX2_add 6 = .ok (.if_icmp .ge 33, 3) := by decide +kernel
theorem dX2_add_9 : decode cX2_add 9 = .ok (.aload_n 0, 1) := by decide +kernel
theorem dX2_add_10 : decode cX2_add 10 = .ok (.getfield 9, 3) := by decide +kernel
theorem dX2_add_13 : decode cX2_add 13 = .ok (.aload_n 0, 1) := by decide +kernel
theorem dX2_add_14 : decode cX2_add 14 = .ok (.getfield 18, 3) := by decide +kernel
theorem dX2_add_17 : decode cX2_add 17 = .ok (.iload_n 1, 1) := by decide +kernel
theorem dX2_add_18 : decode cX2_add 18 = .ok (.iastore, 1) := by decide +kernel
theorem dX2_add_19 : decode cX2_add 19 = .ok (.aload_n 0, 1) := by decide +kernel
theorem dX2_add_20 : decode cX2_add 20 = .ok (.getfield 15, 3) := by decide +kernel
theorem dX2_add_23 : decode cX2_add 23 = .ok (.aload_n 0, 1) := by decide +kernel
theorem dX2_add_24 : decode cX2_add 24 = .ok (.getfield 18, 3) := by decide +kernel
theorem dX2_add_27 : decode cX2_add 27 = .ok (.iload_n 2, 1) := by decide +kernel
theorem dX2_add_28 : decode cX2_add 28 = .ok (.iastore, 1) := by decide +kernel
theorem dX2_add_29 : decode cX2_add 29 = .ok (.aload_n 0, 1) := by decide +kernel
theorem dX2_add_30 : decode cX2_add 30 = .ok (.dup, 1) := by decide +kernel
theorem dX2_add_31 : decode cX2_add 31 = .ok (.getfield 18, 3) := by decide +kernel
theorem dX2_add_34 : decode cX2_add 34 = .ok (.iconst 1, 1) := by decide +kernel
theorem dX2_add_35 : decode cX2_add 35 = .ok (.iadd, 1) := by decide +kernel
theorem dX2_add_36 : decode cX2_add 36 = .ok (.putfield 18, 3) := by decide +kernel
theorem dX2_add_39 : decode cX2_add 39 = .ok (.return_, 1) := by decide +kernel
theorem dX2_findFitting_0 : decode cX2_findFitting 0 = .ok (.aload_n 0, 1) := by decide +kernel
theorem dX2_findFitting_1 : decode cX2_findFitting 1 = .ok (.iconst 0, 1) := by decide +kernel
theorem dX2_findFitting_2 : decode cX2_findFitting 2 = .ok (.putfield 25, 3) := by decide +kernel
theorem dX2_findFitting_5 : decode cX2_findFitting 5 = .ok (.iconst 0, 1) := by decide +kernel
theorem dX2_findFitting_6 : decode cX2_findFitting 6 = .ok (.istore_n 3, 1) := by decide +kernel
theorem dX2_findFitting_7 : decode cX2_findFitting 7 = .ok (.iload_n 3, 1) := by decide +kernel
theorem dX2_findFitting_8 : decode cX2_findFitting 8 = .ok (.aload_n 1, 1) := by decide +kernel
theorem dX2_findFitting_9 : decode cX2_findFitting 9 = .ok (.getfield 34, 3) := by decide +kernel
theorem dX2_findFitting_12 : decode cX2_findFitting 12 = .ok (.bipush 10, 2) := by decide +kernel
theorem dX2_findFitting_14 : decode cX2_findFitting 14 = .ok (.imul, 1) := by decide +kernel
theorem dX2_findFitting_15 : decode cX2_findFitting 15 = .ok (.if_icmp .ge 43, 3) := by decide +kernel
theorem dX2_findFitting_18 : decode cX2_findFitting 18 = .ok (.aload_n 0, 1) := by decide +kernel
theorem dX2_findFitting_19 : decode cX2_findFitting 19 = .ok (.aload_n 2, 1) := by decide +kernel
theorem dX2_findFitting_20 : decode cX2_findFitting 20 = .ok (.iload_n 3, 1) := by decide +kernel
theorem dX2_findFitting_21 : decode cX2_findFitting 21 = .ok (.invokevirtual 39, 3) := by decide +kernel
theorem dX2_findFitting_24 : decode cX2_findFitting 24 = .ok (.aload_n 0, 1) := by decide +kernel
theorem dX2_findFitting_25 : decode cX2_findFitting 25 = .ok (.aload_n 1, 1) := by decide +kernel
theorem dX2_findFitting_26 : decode cX2_findFitting 26 = .ok (.invokevirtual 43, 3) := by decide +kernel
theorem dX2_findFitting_29 : decode cX2_findFitting 29 = .ok (.ifCond .eq 23, 3) := by decide +kernel
theorem dX2_findFitting_32 : decode cX2_findFitting 32 = .ok (.aload_n 0, 1) := by decide +kernel
theorem dX2_findFitting_33 : decode cX2_findFitting 33 = .ok (.getfield 22, 3) := by decide +kernel
theorem dX2_findFitting_36 : decode cX2_findFitting 36 = .ok (.aload_n 0, 1) := by decide +kernel
theorem dX2_findFitting_37 : decode cX2_findFitting 37 = .ok (.getfield 25, 3) := by decide +kernel
theorem dX2_findFitting_40 : decode cX2_findFitting 40 = .ok (.iload_n 3, 1) := by decide +kernel
theorem dX2_findFitting_41 : decode cX2_findFitting 41 = .ok (.iastore, 1) := by decide +kernel
theorem dX2_findFitting_42 : decode cX2_findFitting 42 = .ok (.aload_n 0, 1) := by decide +kernel
theorem dX2_findFitting_43 : decode cX2_findFitting 43 = .ok (.dup, 1) := by decide +kernel
theorem dX2_findFitting_44 : decode cX2_findFitting 44 = .ok (.getfield 25, 3) := by decide +kernel
theorem dX2_findFitting_47 : decode cX2_findFitting 47 = .ok (.iconst 1, 1) := by decide +kernel
theorem dX2_findFitting_48 : decode cX2_findFitting 48 = .ok (.iadd, 1) := by decide +kernel
theorem dX2_findFitting_49 : decode cX2_findFitting 49 = .ok (.putfield 25, 3) := by decide +kernel
theorem dX2_findFitting_52 : decode cX2_findFitting 52 = .ok (.iinc 3 1, 3) := by decide +kernel
theorem dX2_findFitting_55 : decode cX2_findFitting 55 = .ok (.goto (-48), 3) := by decide +kernel
theorem dX2_findFitting_58 : decode cX2_findFitting 58 = .ok (.return_, 1) := by decide +kernel
theorem dX2_mostAlike_0 : decode cX2_mostAlike 0 = .ok (.aload_n 0, 1) := by decide +kernel
theorem dX2_mostAlike_1 : decode cX2_mostAlike 1 = .ok (.getfield 31, 3) := by decide +kernel
theorem dX2_mostAlike_4 : decode cX2_mostAlike 4 = .ok (.iconst 0, 1) := by decide +kernel
theorem dX2_mostAlike_5 : decode cX2_mostAlike 5 = .ok (.invokestatic 47, 3) := by decide +kernel
theorem dX2_mostAlike_8 : decode cX2_mostAlike 8 = .ok (.iconst 0, 1) := by decide +kernel
theorem dX2_mostAlike_9 : decode cX2_mostAlike 9 = .ok (.istore 4, 2) := by decide +kernel
theorem dX2_mostAlike_11 : decode cX2_mostAlike 11 = .ok (.iconst 0, 1) := by decide +kernel
theorem dX2_mostAlike_12 : decode cX2_mostAlike 12 = .ok (.istore 5, 2) := by decide +kernel
theorem dX2_mostAlike_14 : decode cX2_mostAlike 14 = .ok (.iload 5, 2) := by decide +kernel
theorem dX2_mostAlike_16 : decode cX2_mostAlike 16 = .ok (.aload_n 0, 1) := by decide +kernel
theorem dX2_mostAlike_17 : decode cX2_mostAlike 17 = .ok (.getfield 25, 3) := by decide +kernel
theorem dX2_mostAlike_20 : decode cX2_mostAlike 20 = .ok (.if_icmp .ge 60, 3) := by decide +kernel
theorem dX2_mostAlike_23 : decode cX2_mostAlike 23 = .ok (.aload_n 0, 1) := by decide +kernel
theorem dX2_mostAlike_24 : decode cX2_mostAlike 24 = .ok (.aload_n 2, 1) := by decide +kernel
theorem dX2_mostAlike_25 : decode cX2_mostAlike 25 = .ok (.aload_n 0, 1) := by decide +kernel
theorem dX2_mostAlike_26 : decode cX2_mostAlike 26 = .ok (.getfield 22, 3) := by decide +kernel
theorem dX2_mostAlike_29 : decode cX2_mostAlike 29 = .ok (.iload 5, 2) := by decide +kernel
theorem dX2_mostAlike_31 : decode cX2_mostAlike 31 = .ok (.iaload, 1) := by decide +kernel
theorem dX2_mostAlike_32 : decode cX2_mostAlike 32 = .ok (.invokevirtual 39, 3) := by decide +kernel
theorem dX2_mostAlike_35 : decode cX2_mostAlike 35 = .ok (.aload_n 1, 1) := by decide +kernel
theorem dX2_mostAlike_36 : decode cX2_mostAlike 36 = .ok (.aload_n 0, 1) := by decide +kernel
theorem dX2_mostAlike_37 : decode cX2_mostAlike 37 = .ok (.getfield 28, 3) := by decide +kernel
theorem dX2_mostAlike_40 : decode cX2_mostAlike 40 = .ok (.iload_n 3, 1) := by decide +kernel
theorem dX2_mostAlike_41 : decode cX2_mostAlike 41 = .ok (.invokevirtual 52, 3) := by decide +kernel
theorem dX2_mostAlike_44 : decode cX2_mostAlike 44 = .ok (.invokestatic 56, 3) := by decide +kernel
theorem dX2_mostAlike_47 : decode cX2_mostAlike 47 = .ok (.istore 6, 2) := by decide +kernel
theorem dX2_mostAlike_49 : decode cX2_mostAlike 49 = .ok (.aload_n 0, 1) := by decide +kernel
theorem dX2_mostAlike_50 : decode cX2_mostAlike 50 = .ok (.getfield 31, 3) := by decide +kernel
theorem dX2_mostAlike_53 : decode cX2_mostAlike 53 = .ok (.iload 6, 2) := by decide +kernel
theorem dX2_mostAlike_55 : decode cX2_mostAlike 55 = .ok (.dup2, 1) := by decide +kernel
theorem dX2_mostAlike_56 : decode cX2_mostAlike 56 = .ok (.iaload, 1) := by decide +kernel
theorem dX2_mostAlike_57 : decode cX2_mostAlike 57 = .ok (.iconst 1, 1) := by decide +kernel
theorem dX2_mostAlike_58 : decode cX2_mostAlike 58 = .ok (.iadd, 1) := by decide +kernel
theorem dX2_mostAlike_59 : decode cX2_mostAlike 59 = .ok (.iastore, 1) := by decide +kernel
theorem dX2_mostAlike_60 : decode cX2_mostAlike 60 = .ok (.iload 4, 2) := by decide +kernel
theorem dX2_mostAlike_62 : decode cX2_mostAlike 62 = .ok (.aload_n 0, 1) := by decide +kernel
theorem dX2_mostAlike_63 : decode cX2_mostAlike 63 = .ok (.getfield 31, 3) := by decide +kernel
theorem dX2_mostAlike_66 : decode cX2_mostAlike 66 = .ok (.iload 6, 2) := by decide +kernel
theorem dX2_mostAlike_68 : decode cX2_mostAlike 68 = .ok (.iaload, 1) := by decide +kernel
theorem dX2_mostAlike_69 : decode cX2_mostAlike 69 = .ok (.invokestatic 60, 3) := by decide +kernel
theorem dX2_mostAlike_72 : decode cX2_mostAlike 72 = .ok (.istore 4, 2) := by decide +kernel
theorem dX2_mostAlike_74 : decode cX2_mostAlike 74 = .ok (.iinc 5 1, 3) := by decide +kernel
theorem dX2_mostAlike_77 : decode cX2_mostAlike 77 = .ok (.goto (-63), 3) := by decide +kernel
theorem dX2_mostAlike_80 : decode cX2_mostAlike 80 = .ok (.iload 4, 2) := by decide +kernel
theorem dX2_mostAlike_82 : decode cX2_mostAlike 82 = .ok (.ireturn, 1) := by decide +kernel
theorem dX2_slip_0 : decode cX2_slip 0 = .ok (.aload_n 1, 1) := by decide +kernel
theorem dX2_slip_1 : decode cX2_slip 1 = .ok (.iconst 0, 1) := by decide +kernel
theorem dX2_slip_2 : decode cX2_slip 2 = .ok (.aload_n 0, 1) := by decide +kernel
theorem dX2_slip_3 : decode cX2_slip 3 = .ok (.getfield 28, 3) := by decide +kernel
theorem dX2_slip_6 : decode cX2_slip 6 = .ok (.iconst 0, 1) := by decide +kernel
theorem dX2_slip_7 : decode cX2_slip 7 = .ok (.iconst 5, 1) := by decide +kernel
theorem dX2_slip_8 : decode cX2_slip 8 = .ok (.invokestatic 66, 3) := by decide +kernel
theorem dX2_slip_11 : decode cX2_slip 11 = .ok (.iload_n 2, 1) := by decide +kernel
theorem dX2_slip_12 : decode cX2_slip 12 = .ok (.bipush 10, 2) := by decide +kernel
theorem dX2_slip_14 : decode cX2_slip 14 = .ok (.idiv, 1) := by decide +kernel
theorem dX2_slip_15 : decode cX2_slip 15 = .ok (.istore_n 3, 1) := by decide +kernel
theorem dX2_slip_16 : decode cX2_slip 16 = .ok (.aload_n 0, 1) := by decide +kernel
theorem dX2_slip_17 : decode cX2_slip 17 = .ok (.getfield 28, 3) := by decide +kernel
theorem dX2_slip_20 : decode cX2_slip 20 = .ok (.iload_n 3, 1) := by decide +kernel
theorem dX2_slip_21 : decode cX2_slip 21 = .ok (.aload_n 1, 1) := by decide +kernel
theorem dX2_slip_22 : decode cX2_slip 22 = .ok (.iload_n 3, 1) := by decide +kernel
theorem dX2_slip_23 : decode cX2_slip 23 = .ok (.iaload, 1) := by decide +kernel
theorem dX2_slip_24 : decode cX2_slip 24 = .ok (.iload_n 2, 1) := by decide +kernel
theorem dX2_slip_25 : decode cX2_slip 25 = .ok (.bipush 10, 2) := by decide +kernel
theorem dX2_slip_27 : decode cX2_slip 27 = .ok (.irem, 1) := by decide +kernel
theorem dX2_slip_28 : decode cX2_slip 28 = .ok (.iadd, 1) := by decide +kernel
theorem dX2_slip_29 : decode cX2_slip 29 = .ok (.invokestatic 56, 3) := by decide +kernel
theorem dX2_slip_32 : decode cX2_slip 32 = .ok (.iastore, 1) := by decide +kernel
theorem dX2_slip_33 : decode cX2_slip 33 = .ok (.return_, 1) := by decide +kernel
theorem dX2_fits_0 : decode cX2_fits 0 = .ok (.iconst 0, 1) := by decide +kernel
theorem dX2_fits_1 : decode cX2_fits 1 = .ok (.istore_n 2, 1) := by decide +kernel
theorem dX2_fits_2 : decode cX2_fits 2 = .ok (.iload_n 2, 1) := by decide +kernel
theorem dX2_fits_3 : decode cX2_fits 3 = .ok (.aload_n 0, 1) := by decide +kernel
theorem dX2_fits_4 : decode cX2_fits 4 = .ok (.getfield 18, 3) := by decide +kernel
theorem dX2_fits_7 : decode cX2_fits 7 = .ok (.if_icmp .ge 34, 3) := by decide +kernel
theorem dX2_fits_10 : decode cX2_fits 10 = .ok (.aload_n 1, 1) := by decide +kernel
theorem dX2_fits_11 : decode cX2_fits 11 = .ok (.aload_n 0, 1) := by decide +kernel
theorem dX2_fits_12 : decode cX2_fits 12 = .ok (.getfield 28, 3) := by decide +kernel
theorem dX2_fits_15 : decode cX2_fits 15 = .ok (.aload_n 0, 1) := by decide +kernel
theorem dX2_fits_16 : decode cX2_fits 16 = .ok (.getfield 9, 3) := by decide +kernel
theorem dX2_fits_19 : decode cX2_fits 19 = .ok (.iload_n 2, 1) := by decide +kernel
theorem dX2_fits_20 : decode cX2_fits 20 = .ok (.iaload, 1) := by decide +kernel
theorem dX2_fits_21 : decode cX2_fits 21 = .ok (.invokevirtual 52, 3) := by decide +kernel
theorem dX2_fits_24 : decode cX2_fits 24 = .ok (.aload_n 0, 1) := by decide +kernel
theorem dX2_fits_25 : decode cX2_fits 25 = .ok (.getfield 15, 3) := by decide +kernel
theorem dX2_fits_28 : decode cX2_fits 28 = .ok (.iload_n 2, 1) := by decide +kernel
theorem dX2_fits_29 : decode cX2_fits 29 = .ok (.iaload, 1) := by decide +kernel
theorem dX2_fits_30 : decode cX2_fits 30 = .ok (.if_icmp .eq 5, 3) := by decide +kernel
theorem dX2_fits_33 : decode cX2_fits 33 = .ok (.iconst 0, 1) := by decide +kernel
theorem dX2_fits_34 : decode cX2_fits 34 = .ok (.ireturn, 1) := by decide +kernel
theorem dX2_fits_35 : decode cX2_fits 35 = .ok (.iinc 2 1, 3) := by decide +kernel
theorem dX2_fits_38 : decode cX2_fits 38 = .ok (.goto (-36), 3) := by decide +kernel
theorem dX2_fits_41 : decode cX2_fits 41 = .ok (.iconst 1, 1) := by decide +kernel
theorem dX2_fits_42 : decode cX2_fits 42 = .ok (.ireturn, 1) := by decide +kernel
theorem dX3_init_0 : decode cX3_init 0 = .ok (.aload_n 0, 1) := by decide +kernel
theorem dX3_init_1 : decode cX3_init 1 = .ok (.invokespecial 3, 3) := by decide +kernel
theorem dX3_init_4 : decode cX3_init 4 = .ok (.aload_n 0, 1) := by decide +kernel
theorem dX3_init_5 : decode cX3_init 5 = .ok (.iconst 5, 1) := by decide +kernel
theorem dX3_init_6 : decode cX3_init 6 = .ok (.newarray .int, 2) := by decide +kernel
theorem dX3_init_8 : decode cX3_init 8 = .ok (.putfield 9, 3) := by decide +kernel
theorem dX3_init_11 : decode cX3_init 11 = .ok (.aload_n 0, 1) := by decide +kernel
theorem dX3_init_12 : decode cX3_init 12 = .ok (.iconst 5, 1) := by decide +kernel
theorem dX3_init_13 : decode cX3_init 13 = .ok (.newarray .int, 2) := by decide +kernel
theorem dX3_init_15 : decode cX3_init 15 = .ok (.putfield 15, 3) := by decide +kernel
theorem dX3_init_18 : decode cX3_init 18 = .ok (.aload_n 0, 1) := by decide +kernel
theorem dX3_init_19 : decode cX3_init 19 = .ok (.iconst 0, 1) := by decide +kernel
theorem dX3_init_20 : decode cX3_init 20 = .ok (.putfield 18, 3) := by decide +kernel
theorem dX3_init_23 : decode cX3_init 23 = .ok (.aload_n 0, 1) := by decide +kernel
theorem dX3_init_24 : decode cX3_init 24 = .ok (.iconst 0, 1) := by decide +kernel
theorem dX3_init_25 : decode cX3_init 25 = .ok (.putfield 22, 3) := by decide +kernel
theorem dX3_init_28 : decode cX3_init 28 = .ok (.return_, 1) := by decide +kernel
theorem dX3_begin_0 : decode cX3_begin 0 = .ok (.iconst 0, 1) := by decide +kernel
theorem dX3_begin_1 : decode cX3_begin 1 = .ok (.istore_n 2, 1) := by decide +kernel
theorem dX3_begin_2 : decode cX3_begin 2 = .ok (.iload_n 2, 1) := by decide +kernel
theorem dX3_begin_3 : decode cX3_begin 3 = .ok (.iconst 5, 1) := by decide +kernel
theorem dX3_begin_4 : decode cX3_begin 4 = .ok (.if_icmp .ge 33, 3) := by decide +kernel
theorem dX3_begin_7 : decode cX3_begin 7 = .ok (.aload_n 0, 1) := by decide +kernel
theorem dX3_begin_8 : decode cX3_begin 8 = .ok (.getfield 9, 3) := by decide +kernel
theorem dX3_begin_11 : decode cX3_begin 11 = .ok (.iload_n 2, 1) := by decide +kernel
theorem dX3_begin_12 : decode cX3_begin 12 = .ok (.aload_n 1, 1) := by decide +kernel
theorem dX3_begin_13 : decode cX3_begin 13 = .ok (.getfield 25, 3) := by decide +kernel
theorem dX3_begin_16 : decode cX3_begin 16 = .ok (.iload_n 2, 1) := by decide +kernel
theorem dX3_begin_17 : decode cX3_begin 17 = .ok (.iaload, 1) := by decide +kernel
theorem dX3_begin_18 : decode cX3_begin 18 = .ok (.iastore, 1) := by decide +kernel
theorem dX3_begin_19 : decode cX3_begin 19 = .ok (.aload_n 0, 1) := by decide +kernel
theorem dX3_begin_20 : decode cX3_begin 20 = .ok (.getfield 15, 3) := by decide +kernel
theorem dX3_begin_23 : decode cX3_begin 23 = .ok (.iload_n 2, 1) := by decide +kernel
theorem dX3_begin_24 : decode cX3_begin 24 = .ok (.aload_n 1, 1) := by decide +kernel
theorem dX3_begin_25 : decode cX3_begin 25 = .ok (.getfield 30, 3) := by decide +kernel
theorem dX3_begin_28 : decode cX3_begin 28 = .ok (.iload_n 2, 1) := by decide +kernel
theorem dX3_begin_29 : decode cX3_begin 29 = .ok (.iaload, 1) := by decide +kernel
theorem dX3_begin_30 : decode cX3_begin 30 = .ok (.iastore, 1) := by decide +kernel
theorem dX3_begin_31 : decode cX3_begin 31 = .ok (.iinc 2 1, 3) := by decide +kernel
theorem dX3_begin_34 : decode cX3_begin 34 = .ok (.goto (-32), 3) := by decide +kernel
theorem dX3_begin_37 : decode cX3_begin 37 = .ok (.aload_n 0, 1) := by decide +kernel
theorem dX3_begin_38 : decode cX3_begin 38 = .ok (.iconst 0, 1) := by decide +kernel
theorem dX3_begin_39 : decode cX3_begin 39 = .ok (.putfield 18, 3) := by decide +kernel
theorem dX3_begin_42 : decode cX3_begin 42 = .ok (.aload_n 0, 1) := by decide +kernel
theorem dX3_begin_43 : decode cX3_begin 43 = .ok (.iconst 0, 1) := by decide +kernel
theorem dX3_begin_44 : decode cX3_begin 44 = .ok (.putfield 22, 3) := by decide +kernel
theorem dX3_begin_47 : decode cX3_begin 47 = .ok (.return_, 1) := by decide +kernel
theorem dX3_become_0 : decode cX3_become 0 = .ok (.iconst 0, 1) := by decide +kernel
theorem dX3_become_1 : decode cX3_become 1 = .ok (.istore_n 2, 1) := by decide +kernel
theorem dX3_become_2 : decode cX3_become 2 = .ok (.iload_n 2, 1) := by decide +kernel
theorem dX3_become_3 : decode cX3_become 3 = .ok (.iconst 5, 1) := by decide +kernel
theorem dX3_become_4 : decode cX3_become 4 = .ok (.if_icmp .ge 33, 3) := by decide +kernel
theorem dX3_become_7 : decode cX3_become 7 = .ok (.aload_n 0, 1) := by decide +kernel
theorem dX3_become_8 : decode cX3_become 8 = .ok (.getfield 9, 3) := by decide +kernel
theorem dX3_become_11 : decode cX3_become 11 = .ok (.iload_n 2, 1) := by decide +kernel
theorem dX3_become_12 : decode cX3_become 12 = .ok (.aload_n 1, 1) := by decide +kernel
theorem dX3_become_13 : decode cX3_become 13 = .ok (.getfield 9, 3) := by decide +kernel
theorem dX3_become_16 : decode cX3_become 16 = .ok (.iload_n 2, 1) := by decide +kernel
theorem dX3_become_17 : decode cX3_become 17 = .ok (.iaload, 1) := by decide +kernel
theorem dX3_become_18 : decode cX3_become 18 = .ok (.iastore, 1) := by decide +kernel
theorem dX3_become_19 : decode cX3_become 19 = .ok (.aload_n 0, 1) := by decide +kernel
theorem dX3_become_20 : decode cX3_become 20 = .ok (.getfield 15, 3) := by decide +kernel
theorem dX3_become_23 : decode cX3_become 23 = .ok (.iload_n 2, 1) := by decide +kernel
theorem dX3_become_24 : decode cX3_become 24 = .ok (.aload_n 1, 1) := by decide +kernel
theorem dX3_become_25 : decode cX3_become 25 = .ok (.getfield 15, 3) := by decide +kernel
theorem dX3_become_28 : decode cX3_become 28 = .ok (.iload_n 2, 1) := by decide +kernel
theorem dX3_become_29 : decode cX3_become 29 = .ok (.iaload, 1) := by decide +kernel
theorem dX3_become_30 : decode cX3_become 30 = .ok (.iastore, 1) := by decide +kernel
theorem dX3_become_31 : decode cX3_become 31 = .ok (.iinc 2 1, 3) := by decide +kernel
theorem dX3_become_34 : decode cX3_become 34 = .ok (.goto (-32), 3) := by decide +kernel
theorem dX3_become_37 : decode cX3_become 37 = .ok (.aload_n 0, 1) := by decide +kernel
theorem dX3_become_38 : decode cX3_become 38 = .ok (.aload_n 1, 1) := by decide +kernel
theorem dX3_become_39 : decode cX3_become 39 = .ok (.getfield 18, 3) := by decide +kernel
theorem dX3_become_42 : decode cX3_become 42 = .ok (.putfield 18, 3) := by decide +kernel
theorem dX3_become_45 : decode cX3_become 45 = .ok (.aload_n 0, 1) := by decide +kernel
theorem dX3_become_46 : decode cX3_become 46 = .ok (.aload_n 1, 1) := by decide +kernel
theorem dX3_become_47 : decode cX3_become 47 = .ok (.getfield 22, 3) := by decide +kernel
theorem dX3_become_50 : decode cX3_become 50 = .ok (.putfield 22, 3) := by decide +kernel
theorem dX3_become_53 : decode cX3_become 53 = .ok (.return_, 1) := by decide +kernel
theorem dX3_pass_0 : decode cX3_pass 0 = .ok (.iconst 0, 1) := by decide +kernel
theorem dX3_pass_1 : decode cX3_pass 1 = .ok (.istore 4, 2) := by decide +kernel
theorem dX3_pass_3 : decode cX3_pass 3 = .ok (.iload 4, 2) := by decide +kernel
theorem dX3_pass_5 : decode cX3_pass 5 = .ok (.aload_n 1, 1) := by decide +kernel
theorem dX3_pass_6 : decode cX3_pass 6 = .ok (.getfield 33, 3) := by decide +kernel
theorem dX3_pass_9 : decode cX3_pass 9 = .ok (.if_icmp .ge 76, 3) := by decide +kernel
theorem dX3_pass_12 : decode cX3_pass 12 = .ok (.iconst 0, 1) := by decide +kernel
theorem dX3_pass_13 : decode cX3_pass 13 = .ok (.istore 5, 2) := by decide +kernel
theorem dX3_pass_15 : decode cX3_pass 15 = .ok (.iload_n 2, 1) := by decide +kernel
theorem dX3_pass_16 : decode cX3_pass 16 = .ok (.iload 4, 2) := by decide +kernel
theorem dX3_pass_18 : decode cX3_pass 18 = .ok (.ishr, 1) := by decide +kernel
theorem dX3_pass_19 : decode cX3_pass 19 = .ok (.iconst 1, 1) := by decide +kernel
theorem dX3_pass_20 : decode cX3_pass 20 = .ok (.iand, 1) := by decide +kernel
theorem dX3_pass_21 : decode cX3_pass 21 = .ok (.ifCond .eq 9, 3) := by decide +kernel
theorem dX3_pass_24 : decode cX3_pass 24 = .ok (.iconst 1, 1) := by decide +kernel
theorem dX3_pass_25 : decode cX3_pass 25 = .ok (.istore 5, 2) := by decide +kernel
theorem dX3_pass_27 : decode cX3_pass 27 = .ok (.goto 15, 3) := by decide +kernel
theorem dX3_pass_30 : decode cX3_pass 30 = .ok (.iload_n 3, 1) := by decide +kernel
theorem dX3_pass_31 : decode cX3_pass 31 = .ok (.iload 4, 2) := by decide +kernel
theorem dX3_pass_33 : decode cX3_pass 33 = .ok (.ishr, 1) := by decide +kernel
theorem dX3_pass_34 : decode cX3_pass 34 = .ok (.iconst 1, 1) := by decide +kernel
theorem dX3_pass_35 : decode cX3_pass 35 = .ok (.iand, 1) := by decide +kernel
theorem dX3_pass_36 : decode cX3_pass 36 = .ok (.ifCond .eq 6, 3) := by decide +kernel
theorem dX3_pass_39 : decode cX3_pass 39 = .ok (.iconst (-1), 1) := by decide +kernel
theorem dX3_pass_40 : decode cX3_pass 40 = .ok (.istore 5, 2) := by decide +kernel
theorem dX3_pass_42 : decode cX3_pass 42 = .ok (.aload_n 0, 1) := by decide +kernel
theorem dX3_pass_43 : decode cX3_pass 43 = .ok (.getfield 9, 3) := by decide +kernel
theorem dX3_pass_46 : decode cX3_pass 46 = .ok (.iload 4, 2) := by decide +kernel
theorem dX3_pass_48 : decode cX3_pass 48 = .ok (.aload_n 0, 1) := by decide +kernel
theorem dX3_pass_49 : decode cX3_pass 49 = .ok (.getfield 9, 3) := by decide +kernel
theorem dX3_pass_52 : decode cX3_pass 52 = .ok (.iload 4, 2) := by decide +kernel
theorem dX3_pass_54 : decode cX3_pass 54 = .ok (.iaload, 1) := by decide +kernel
theorem dX3_pass_55 : decode cX3_pass 55 = .ok (.aload_n 1, 1) := by decide +kernel
theorem dX3_pass_56 : decode cX3_pass 56 = .ok (.getfield 36, 3) := by decide +kernel
theorem dX3_pass_59 : decode cX3_pass 59 = .ok (.iload 4, 2) := by decide +kernel
theorem dX3_pass_61 : decode cX3_pass 61 = .ok (.iaload, 1) := by decide +kernel
theorem dX3_pass_62 : decode cX3_pass 62 = .ok (.aload_n 0, 1) := by decide +kernel
theorem dX3_pass_63 : decode cX3_pass 63 = .ok (.getfield 15, 3) := by decide +kernel
theorem dX3_pass_66 : decode cX3_pass 66 = .ok (.iload 4, 2) := by decide +kernel
theorem dX3_pass_68 : decode cX3_pass 68 = .ok (.iaload, 1) := by decide +kernel
theorem dX3_pass_69 : decode cX3_pass 69 = .ok (.aload_n 0, 1) := by decide +kernel
theorem dX3_pass_70 : decode cX3_pass 70 = .ok (.getfield 18, 3) := by decide +kernel
theorem dX3_pass_73 : decode cX3_pass 73 = .ok (.iload 5, 2) := by decide +kernel
theorem dX3_pass_75 : decode cX3_pass 75 = .ok (.invokestatic 39, 3) := by decide +kernel
theorem dX3_pass_78 : decode cX3_pass 78 = .ok (.iastore, 1) := by decide +kernel
theorem dX3_pass_79 : decode cX3_pass 79 = .ok (.iinc 4 1, 3) := by decide +kernel
theorem dX3_pass_82 : decode cX3_pass 82 = .ok (.goto (-79), 3) := by decide +kernel
theorem dX3_pass_85 : decode cX3_pass 85 = .ok (.aload_n 0, 1) := by decide +kernel
theorem dX3_pass_86 : decode cX3_pass 86 = .ok (.dup, 1) := by decide +kernel
theorem dX3_pass_87 : decode cX3_pass 87 = .ok (.getfield 18, 3) := by decide +kernel
theorem dX3_pass_90 : decode cX3_pass 90 = .ok (.iconst 1, 1) := by decide +kernel
theorem dX3_pass_91 : decode cX3_pass 91 = .ok (.iadd, 1) := by decide +kernel
theorem dX3_pass_92 : decode cX3_pass 92 = .ok (.putfield 18, 3) := by decide +kernel
theorem dX3_pass_95 : decode cX3_pass 95 = .ok (.return_, 1) := by decide +kernel
theorem dX3_passAllDown_0 : decode cX3_passAllDown 0 = .ok (.aload_n 0, 1) := by decide +kernel
theorem dX3_passAllDown_1 : decode cX3_passAllDown 1 = .ok (.aload_n 1, 1) := by decide +kernel
theorem dX3_passAllDown_2 : decode cX3_passAllDown 2 = .ok (.aload_n 1, 1) := by decide +kernel
theorem dX3_passAllDown_3 : decode cX3_passAllDown 3 = .ok (.invokevirtual 43, 3) := by decide +kernel
theorem dX3_passAllDown_6 : decode cX3_passAllDown 6 = .ok (.iconst 1, 1) := by decide +kernel
theorem dX3_passAllDown_7 : decode cX3_passAllDown 7 = .ok (.isub, 1) := by decide +kernel
theorem dX3_passAllDown_8 : decode cX3_passAllDown 8 = .ok (.iconst 0, 1) := by decide +kernel
theorem dX3_passAllDown_9 : decode cX3_passAllDown 9 = .ok (.invokevirtual 47, 3) := by decide +kernel
theorem dX3_passAllDown_12 : decode cX3_passAllDown 12 = .ok (.return_, 1) := by decide +kernel
theorem dX4_init_0 : decode cX4_init 0 = .ok (.aload_n 0, 1) := by decide +kernel
theorem dX4_init_1 : decode cX4_init 1 = .ok (.invokespecial 3, 3) := by decide +kernel
theorem dX4_init_4 : decode cX4_init 4 = .ok (.aload_n 0, 1) := by decide +kernel
theorem dX4_init_5 : decode cX4_init 5 = .ok (.bipush (-4), 2) := by decide +kernel
theorem dX4_init_7 : decode cX4_init 7 = .ok (.putfield 9, 3) := by decide +kernel
theorem dX4_init_10 : decode cX4_init 10 = .ok (.aload_n 0, 1) := by decide +kernel
theorem dX4_init_11 : decode cX4_init 11 = .ok (.iconst 5, 1) := by decide +kernel
theorem dX4_init_12 : decode cX4_init 12 = .ok (.newarray .int, 2) := by decide +kernel
theorem dX4_init_14 : decode cX4_init 14 = .ok (.putfield 15, 3) := by decide +kernel
theorem dX4_init_17 : decode cX4_init 17 = .ok (.aload_n 0, 1) := by decide +kernel
theorem dX4_init_18 : decode cX4_init 18 = .ok (.iconst 5, 1) := by decide +kernel
theorem dX4_init_19 : decode cX4_init 19 = .ok (.newarray .int, 2) := by decide +kernel
theorem dX4_init_21 : decode cX4_init 21 = .ok (.putfield 19, 3) := by decide +kernel
theorem dX4_init_24 : decode cX4_init 24 = .ok (.aload_n 0, 1) := by decide +kernel
theorem dX4_init_25 : decode cX4_init 25 = .ok (.iconst 5, 1) := by decide +kernel
theorem dX4_init_26 : decode cX4_init 26 = .ok (.newarray .int, 2) := by decide +kernel
theorem dX4_init_28 : decode cX4_init 28 = .ok (.putfield 22, 3) := by decide +kernel
theorem dX4_init_31 : decode cX4_init 31 = .ok (.aload_n 0, 1) := by decide +kernel
theorem dX4_init_32 : decode cX4_init 32 = .ok (.iconst 5, 1) := by decide +kernel
theorem dX4_init_33 : decode cX4_init 33 = .ok (.iconst 5, 1) := by decide +kernel
theorem dX4_init_34 : decode cX4_init 34 = .ok (.multianewarray 25 2, 4) := by decide +kernel
theorem dX4_init_38 : decode cX4_init 38 = .ok (.putfield 27, 3) := by decide +kernel
theorem dX4_init_41 : decode cX4_init 41 = .ok (.return_, 1) := by decide +kernel
theorem dX4_search_0 : decode cX4_search 0 = .ok (.aload_n 0, 1) := by decide +kernel
theorem dX4_search_1 : decode cX4_search 1 = .ok (.bipush (-4), 2) := by decide +kernel
theorem dX4_search_3 : decode cX4_search 3 = .ok (.putfield 9, 3) := by decide +kernel
theorem dX4_search_6 : decode cX4_search 6 = .ok (.iconst 0, 1) := by decide +kernel
theorem dX4_search_7 : decode cX4_search 7 = .ok (.istore_n 3, 1) := by decide +kernel
theorem dX4_search_8 : decode cX4_search 8 = .ok (.iload_n 3, 1) := by decide +kernel
theorem dX4_search_9 : decode cX4_search 9 = .ok (.aload_n 1, 1) := by decide +kernel
theorem dX4_search_10 : decode cX4_search 10 = .ok (.getfield 30, 3) := by decide +kernel
theorem dX4_search_13 : decode cX4_search 13 = .ok (.if_icmp .ge 46, 3) := by decide +kernel
theorem dX4_search_16 : decode cX4_search 16 = .ok (.iconst 0, 1) := by decide +kernel
theorem dX4_search_17 : decode cX4_search 17 = .ok (.istore 4, 2) := by decide +kernel
theorem dX4_search_19 : decode cX4_search 19 = .ok (.iload 4, 2) := by decide +kernel
theorem dX4_search_21 : decode cX4_search 21 = .ok (.iconst 4, 1) := by decide +kernel
theorem dX4_search_22 : decode cX4_search 22 = .ok (.if_icmp .gt 31, 3) := by decide +kernel
theorem dX4_search_25 : decode cX4_search 25 = .ok (.aload_n 0, 1) := by decide +kernel
theorem dX4_search_26 : decode cX4_search 26 = .ok (.getfield 27, 3) := by decide +kernel
theorem dX4_search_29 : decode cX4_search 29 = .ok (.iload_n 3, 1) := by decide +kernel
theorem dX4_search_30 : decode cX4_search 30 = .ok (.aaload, 1) := by decide +kernel
theorem dX4_search_31 : decode cX4_search 31 = .ok (.iload 4, 2) := by decide +kernel
theorem dX4_search_33 : decode cX4_search 33 = .ok (.aload_n 1, 1) := by decide +kernel
theorem dX4_search_34 : decode cX4_search 34 = .ok (.getfield 35, 3) := by decide +kernel
theorem dX4_search_37 : decode cX4_search 37 = .ok (.iload_n 3, 1) := by decide +kernel
theorem dX4_search_38 : decode cX4_search 38 = .ok (.iaload, 1) := by decide +kernel
theorem dX4_search_39 : decode cX4_search 39 = .ok (.aload_n 2, 1) := by decide +kernel
theorem dX4_search_40 : decode cX4_search 40 = .ok (.iload_n 3, 1) := by decide +kernel
theorem dX4_search_41 : decode cX4_search 41 = .ok (.iload 4, 2) := by decide +kernel
theorem dX4_search_43 : decode cX4_search 43 = .ok (.invokestatic 38, 3) := by decide +kernel
theorem dX4_search_46 : decode cX4_search 46 = .ok (.iastore, 1) := by decide +kernel
theorem dX4_search_47 : decode cX4_search 47 = .ok (.iinc 4 1, 3) := by decide +kernel
theorem dX4_search_50 : decode cX4_search 50 = .ok (.goto (-31), 3) := by decide +kernel
theorem dX4_search_53 : decode cX4_search 53 = .ok (.iinc 3 1, 3) := by decide +kernel
theorem dX4_search_56 : decode cX4_search 56 = .ok (.goto (-48), 3) := by decide +kernel
theorem dX4_search_59 : decode cX4_search 59 = .ok (.aload_n 0, 1) := by decide +kernel
theorem dX4_search_60 : decode cX4_search 60 = .ok (.aload_n 1, 1) := by decide +kernel
theorem dX4_search_61 : decode cX4_search 61 = .ok (.iconst 0, 1) := by decide +kernel
theorem dX4_search_62 : decode cX4_search 62 = .ok (.iconst 0, 1) := by decide +kernel
theorem dX4_search_63 : decode cX4_search 63 = .ok (.invokestatic 42, 3) := by decide +kernel
theorem dX4_search_66 : decode cX4_search 66 = .ok (.return_, 1) := by decide +kernel
theorem dX4_outcome_0 : decode cX4_outcome 0 = .ok (.aload_n 1, 1) := by decide +kernel
theorem dX4_outcome_1 : decode cX4_outcome 1 = .ok (.getfield 46, 3) := by decide +kernel
theorem dX4_outcome_4 : decode cX4_outcome 4 = .ok (.iload_n 2, 1) := by decide +kernel
theorem dX4_outcome_5 : decode cX4_outcome 5 = .ok (.iaload, 1) := by decide +kernel
theorem dX4_outcome_6 : decode cX4_outcome 6 = .ok (.istore 4, 2) := by decide +kernel
theorem dX4_outcome_8 : decode cX4_outcome 8 = .ok (.iconst 0, 1) := by decide +kernel
theorem dX4_outcome_9 : decode cX4_outcome 9 = .ok (.istore 5, 2) := by decide +kernel
theorem dX4_outcome_11 : decode cX4_outcome 11 = .ok (.iload 5, 2) := by decide +kernel
theorem dX4_outcome_13 : decode cX4_outcome 13 = .ok (.iconst 4, 1) := by decide +kernel
theorem dX4_outcome_14 : decode cX4_outcome 14 = .ok (.if_icmp .ge 41, 3) := by decide +kernel
theorem dX4_outcome_17 : decode cX4_outcome 17 = .ok (.iload 4, 2) := by decide +kernel
theorem dX4_outcome_19 : decode cX4_outcome 19 = .ok (.iload_n 0, 1) := by decide +kernel
theorem dX4_outcome_20 : decode cX4_outcome 20 = .ok (.aload_n 1, 1) := by decide +kernel
theorem dX4_outcome_21 : decode cX4_outcome 21 = .ok (.getfield 49, 3) := by decide +kernel
theorem dX4_outcome_24 : decode cX4_outcome 24 = .ok (.iload_n 2, 1) := by decide +kernel
theorem dX4_outcome_25 : decode cX4_outcome 25 = .ok (.iaload, 1) := by decide +kernel
theorem dX4_outcome_26 : decode cX4_outcome 26 = .ok (.aload_n 1, 1) := by decide +kernel
theorem dX4_outcome_27 : decode cX4_outcome 27 = .ok (.getfield 52, 3) := by decide +kernel
theorem dX4_outcome_30 : decode cX4_outcome 30 = .ok (.iload 5, 2) := by decide +kernel
theorem dX4_outcome_32 : decode cX4_outcome 32 = .ok (.iadd, 1) := by decide +kernel
theorem dX4_outcome_33 : decode cX4_outcome 33 = .ok (.iload 5, 2) := by decide +kernel
theorem dX4_outcome_35 : decode cX4_outcome 35 = .ok (.iload_n 3, 1) := by decide +kernel
theorem dX4_outcome_36 : decode cX4_outcome 36 = .ok (.if_icmp .ge 7, 3) := by decide +kernel
theorem dX4_outcome_39 : decode cX4_outcome 39 = .ok (.iconst 1, 1) := by decide +kernel
theorem dX4_outcome_40 : decode cX4_outcome 40 = .ok (.goto 4, 3) := by decide +kernel
theorem dX4_outcome_43 : decode cX4_outcome 43 = .ok (.iconst 0, 1) := by decide +kernel
theorem dX4_outcome_44 : decode cX4_outcome 44 = .ok (.invokestatic 54, 3) := by decide +kernel
theorem dX4_outcome_47 : decode cX4_outcome 47 = .ok (.istore 4, 2) := by decide +kernel
theorem dX4_outcome_49 : decode cX4_outcome 49 = .ok (.iinc 5 1, 3) := by decide +kernel
theorem dX4_outcome_52 : decode cX4_outcome 52 = .ok (.goto (-41), 3) := by decide +kernel
theorem dX4_outcome_55 : decode cX4_outcome 55 = .ok (.iload 4, 2) := by decide +kernel
theorem dX4_outcome_57 : decode cX4_outcome 57 = .ok (.ireturn, 1) := by decide +kernel
theorem dX4_choose_0 : decode cX4_choose 0 = .ok (.aload_n 0, 1) := by decide +kernel
theorem dX4_choose_1 : decode cX4_choose 1 = .ok (.getfield 9, 3) := by decide +kernel
theorem dX4_choose_4 : decode cX4_choose 4 = .ok (.bipush (-4), 2) := by decide +kernel
theorem dX4_choose_6 : decode cX4_choose 6 = .ok (.if_icmp .eq 12, 3) := by decide +kernel
theorem dX4_choose_9 : decode cX4_choose 9 = .ok (.iload_n 3, 1) := by decide +kernel
theorem dX4_choose_10 : decode cX4_choose 10 = .ok (.aload_n 0, 1) := by decide +kernel
theorem dX4_choose_11 : decode cX4_choose 11 = .ok (.getfield 9, 3) := by decide +kernel
theorem dX4_choose_14 : decode cX4_choose 14 = .ok (.if_icmp .lt 4, 3) := by decide +kernel
theorem dX4_choose_17 : decode cX4_choose 17 = .ok (.return_, 1) := by decide +kernel
theorem dX4_choose_18 : decode cX4_choose 18 = .ok (.iload_n 2, 1) := by decide +kernel
theorem dX4_choose_19 : decode cX4_choose 19 = .ok (.aload_n 1, 1) := by decide +kernel
theorem dX4_choose_20 : decode cX4_choose 20 = .ok (.getfield 30, 3) := by decide +kernel
theorem dX4_choose_23 : decode cX4_choose 23 = .ok (.if_icmp .lt 23, 3) := by decide +kernel
theorem dX4_choose_26 : decode cX4_choose 26 = .ok (.aload_n 0, 1) := by decide +kernel
theorem dX4_choose_27 : decode cX4_choose 27 = .ok (.iload_n 3, 1) := by decide +kernel
theorem dX4_choose_28 : decode cX4_choose 28 = .ok (.putfield 9, 3) := by decide +kernel
theorem dX4_choose_31 : decode cX4_choose 31 = .ok (.aload_n 0, 1) := by decide +kernel
theorem dX4_choose_32 : decode cX4_choose 32 = .ok (.getfield 19, 3) := by decide +kernel
theorem dX4_choose_35 : decode cX4_choose 35 = .ok (.iconst 0, 1) := by decide +kernel
theorem dX4_choose_36 : decode cX4_choose 36 = .ok (.aload_n 0, 1) := by decide +kernel
theorem dX4_choose_37 : decode cX4_choose 37 = .ok (.getfield 15, 3) := by decide +kernel
theorem dX4_choose_40 : decode cX4_choose 40 = .ok (.iconst 0, 1) := by decide +kernel
theorem dX4_choose_41 : decode cX4_choose 41 = .ok (.iconst 5, 1) := by decide +kernel
theorem dX4_choose_42 : decode cX4_choose 42 = .ok (.invokestatic 58, 3) := by decide +kernel
theorem dX4_choose_45 : decode cX4_choose 45 = .ok (.return_, 1) := by decide +kernel
theorem dX4_choose_46 : decode cX4_choose 46 = .ok (.iconst 0, 1) := by decide +kernel
theorem dX4_choose_47 : decode cX4_choose 47 = .ok (.istore 4, 2) := by decide +kernel
theorem dX4_choose_49 : decode cX4_choose 49 = .ok (.iload 4, 2) := by decide +kernel
theorem dX4_choose_51 : decode cX4_choose 51 = .ok (.iconst 4, 1) := by decide +kernel
theorem dX4_choose_52 : decode cX4_choose 52 = .ok (.if_icmp .gt 56, 3) := by decide +kernel
theorem dX4_choose_55 : decode cX4_choose 55 = .ok (.aload_n 0, 1) := by decide +kernel
theorem dX4_choose_56 : decode cX4_choose 56 = .ok (.getfield 19, 3) := by decide +kernel
theorem dX4_choose_59 : decode cX4_choose 59 = .ok (.iload_n 2, 1) := by decide +kernel
theorem dX4_choose_60 : decode cX4_choose 60 = .ok (.iload 4, 2) := by decide +kernel
theorem dX4_choose_62 : decode cX4_choose 62 = .ok (.iastore, 1) := by decide +kernel
theorem dX4_choose_63 : decode cX4_choose 63 = .ok (.aload_n 0, 1) := by decide +kernel
theorem dX4_choose_64 : decode cX4_choose 64 = .ok (.getfield 22, 3) := by decide +kernel
theorem dX4_choose_67 : decode cX4_choose 67 = .ok (.iload_n 2, 1) := by decide +kernel
theorem dX4_choose_68 : decode cX4_choose 68 = .ok (.aload_n 0, 1) := by decide +kernel
theorem dX4_choose_69 : decode cX4_choose 69 = .ok (.getfield 27, 3) := by decide +kernel
theorem dX4_choose_72 : decode cX4_choose 72 = .ok (.iload_n 2, 1) := by decide +kernel
theorem dX4_choose_73 : decode cX4_choose 73 = .ok (.aaload, 1) := by decide +kernel
theorem dX4_choose_74 : decode cX4_choose 74 = .ok (.iload 4, 2) := by decide +kernel
theorem dX4_choose_76 : decode cX4_choose 76 = .ok (.iaload, 1) := by decide +kernel
theorem dX4_choose_77 : decode cX4_choose 77 = .ok (.iastore, 1) := by decide +kernel
theorem dX4_choose_78 : decode cX4_choose 78 = .ok (.aload_n 1, 1) := by decide +kernel
theorem dX4_choose_79 : decode cX4_choose 79 = .ok (.iload_n 2, 1) := by decide +kernel
theorem dX4_choose_80 : decode cX4_choose 80 = .ok (.aload_n 0, 1) := by decide +kernel
theorem dX4_choose_81 : decode cX4_choose 81 = .ok (.getfield 22, 3) := by decide +kernel
theorem dX4_choose_84 : decode cX4_choose 84 = .ok (.invokevirtual 64, 3) := by decide +kernel
theorem dX4_choose_87 : decode cX4_choose 87 = .ok (.ifCond .eq 15, 3) := by decide +kernel
theorem dX4_choose_90 : decode cX4_choose 90 = .ok (.aload_n 0, 1) := by decide +kernel
theorem dX4_choose_91 : decode cX4_choose 91 = .ok (.aload_n 1, 1) := by decide +kernel
theorem dX4_choose_92 : decode cX4_choose 92 = .ok (.iload_n 2, 1) := by decide +kernel
theorem dX4_choose_93 : decode cX4_choose 93 = .ok (.iconst 1, 1) := by decide +kernel
theorem dX4_choose_94 : decode cX4_choose 94 = .ok (.iadd, 1) := by decide +kernel
theorem dX4_choose_95 : decode cX4_choose 95 = .ok (.iload_n 3, 1) := by decide +kernel
theorem dX4_choose_96 : decode cX4_choose 96 = .ok (.iload 4, 2) := by decide +kernel
theorem dX4_choose_98 : decode cX4_choose 98 = .ok (.iadd, 1) := by decide +kernel
theorem dX4_choose_99 : decode cX4_choose 99 = .ok (.invokestatic 42, 3) := by decide +kernel
theorem dX4_choose_102 : decode cX4_choose 102 = .ok (.iinc 4 1, 3) := by decide +kernel
theorem dX4_choose_105 : decode cX4_choose 105 = .ok (.goto (-56), 3) := by decide +kernel
theorem dX4_choose_108 : decode cX4_choose 108 = .ok (.return_, 1) := by decide +kernel
theorem dX5_init_0 : decode cX5_init 0 = .ok (.aload_n 0, 1) := by decide +kernel
theorem dX5_init_1 : decode cX5_init 1 = .ok (.invokespecial 3, 3) := by decide +kernel
theorem dX5_init_4 : decode cX5_init 4 = .ok (.aload_n 0, 1) := by decide +kernel
theorem dX5_init_5 : decode cX5_init 5 = .ok (.bipush (-4), 2) := by decide +kernel
theorem dX5_init_7 : decode cX5_init 7 = .ok (.putfield 9, 3) := by decide +kernel
theorem dX5_init_10 : decode cX5_init 10 = .ok (.aload_n 0, 1) := by decide +kernel
theorem dX5_init_11 : decode cX5_init 11 = .ok (.iconst 5, 1) := by decide +kernel
theorem dX5_init_12 : decode cX5_init 12 = .ok (.newarray .int, 2) := by decide +kernel
theorem dX5_init_14 : decode cX5_init 14 = .ok (.putfield 15, 3) := by decide +kernel
theorem dX5_init_17 : decode cX5_init 17 = .ok (.aload_n 0, 1) := by decide +kernel
theorem dX5_init_18 : decode cX5_init 18 = .ok (.iconst 5, 1) := by decide +kernel
theorem dX5_init_19 : decode cX5_init 19 = .ok (.newarray .int, 2) := by decide +kernel
theorem dX5_init_21 : decode cX5_init 21 = .ok (.putfield 19, 3) := by decide +kernel
theorem dX5_init_24 : decode cX5_init 24 = .ok (.return_, 1) := by decide +kernel
theorem dX5_search_0 : decode cX5_search 0 = .ok (.aload_n 0, 1) := by decide +kernel
theorem dX5_search_1 : decode cX5_search 1 = .ok (.bipush (-4), 2) := by decide +kernel
theorem dX5_search_3 : decode cX5_search 3 = .ok (.putfield 9, 3) := by decide +kernel
theorem dX5_search_6 : decode cX5_search 6 = .ok (.aload_n 1, 1) := by decide +kernel
theorem dX5_search_7 : decode cX5_search 7 = .ok (.getfield 22, 3) := by decide +kernel
theorem dX5_search_10 : decode cX5_search 10 = .ok (.aload_n 1, 1) := by decide +kernel
theorem dX5_search_11 : decode cX5_search 11 = .ok (.getfield 27, 3) := by decide +kernel
theorem dX5_search_14 : decode cX5_search 14 = .ok (.if_icmp .lt 11, 3) := by decide +kernel
theorem dX5_search_17 : decode cX5_search 17 = .ok (.aload_n 0, 1) := by decide +kernel
theorem dX5_search_18 : decode cX5_search 18 = .ok (.aload_n 1, 1) := by decide +kernel
theorem dX5_search_19 : decode cX5_search 19 = .ok (.iconst 0, 1) := by decide +kernel
theorem dX5_search_20 : decode cX5_search 20 = .ok (.iconst 0, 1) := by decide +kernel
theorem dX5_search_21 : decode cX5_search 21 = .ok (.iconst 0, 1) := by decide +kernel
theorem dX5_search_22 : decode cX5_search 22 = .ok (.invokestatic 30, 3) := by decide +kernel
theorem dX5_search_25 : decode cX5_search 25 = .ok (.return_, 1) := by decide +kernel
theorem dX5_choose_0 : decode cX5_choose 0 = .ok (.aload_n 0, 1) := by decide +kernel
theorem dX5_choose_1 : decode cX5_choose 1 = .ok (.getfield 9, 3) := by decide +kernel
theorem dX5_choose_4 : decode cX5_choose 4 = .ok (.bipush (-4), 2) := by decide +kernel
theorem dX5_choose_6 : decode cX5_choose 6 = .ok (.if_icmp .eq 13, 3) := by decide +kernel
theorem dX5_choose_9 : decode cX5_choose 9 = .ok (.iload 4, 2) := by decide +kernel
theorem dX5_choose_11 : decode cX5_choose 11 = .ok (.aload_n 0, 1) := by decide +kernel
theorem dX5_choose_12 : decode cX5_choose 12 = .ok (.getfield 9, 3) := by decide +kernel
theorem dX5_choose_15 : decode cX5_choose 15 = .ok (.if_icmp .lt 4, 3) := by decide +kernel
theorem dX5_choose_18 : decode cX5_choose 18 = .ok (.return_, 1) := by decide +kernel
theorem dX5_choose_19 : decode cX5_choose 19 = .ok (.iload_n 2, 1) := by decide +kernel
theorem dX5_choose_20 : decode cX5_choose 20 = .ok (.aload_n 1, 1) := by decide +kernel
theorem dX5_choose_21 : decode cX5_choose 21 = .ok (.getfield 27, 3) := by decide +kernel
theorem dX5_choose_24 : decode cX5_choose 24 = .ok (.if_icmp .lt 24, 3) := by decide +kernel
theorem dX5_choose_27 : decode cX5_choose 27 = .ok (.aload_n 0, 1) := by decide +kernel
theorem dX5_choose_28 : decode cX5_choose 28 = .ok (.iload 4, 2) := by decide +kernel
theorem dX5_choose_30 : decode cX5_choose 30 = .ok (.putfield 9, 3) := by decide +kernel
theorem dX5_choose_33 : decode cX5_choose 33 = .ok (.aload_n 0, 1) := by decide +kernel
theorem dX5_choose_34 : decode cX5_choose 34 = .ok (.getfield 19, 3) := by decide +kernel
theorem dX5_choose_37 : decode cX5_choose 37 = .ok (.iconst 0, 1) := by decide +kernel
theorem dX5_choose_38 : decode cX5_choose 38 = .ok (.aload_n 0, 1) := by decide +kernel
theorem dX5_choose_39 : decode cX5_choose 39 = .ok (.getfield 15, 3) := by decide +kernel
theorem dX5_choose_42 : decode cX5_choose 42 = .ok (.iconst 0, 1) := by decide +kernel
theorem dX5_choose_43 : decode cX5_choose 43 = .ok (.iconst 5, 1) := by decide +kernel
theorem dX5_choose_44 : decode cX5_choose 44 = .ok (.invokestatic 34, 3) := by decide +kernel
theorem dX5_choose_47 : decode cX5_choose 47 = .ok (.return_, 1) := by decide +kernel
theorem dX5_choose_48 : decode cX5_choose 48 = .ok (.iconst 0, 1) := by decide +kernel
theorem dX5_choose_49 : decode cX5_choose 49 = .ok (.istore 5, 2) := by decide +kernel
theorem dX5_choose_51 : decode cX5_choose 51 = .ok (.iload 5, 2) := by decide +kernel
theorem dX5_choose_53 : decode cX5_choose 53 = .ok (.aload_n 1, 1) := by decide +kernel
theorem dX5_choose_54 : decode cX5_choose 54 = .ok (.getfield 22, 3) := by decide +kernel
theorem dX5_choose_57 : decode cX5_choose 57 = .ok (.if_icmp .ge 64, 3) := by decide +kernel
theorem dX5_choose_60 : decode cX5_choose 60 = .ok (.iload_n 3, 1) := by decide +kernel
theorem dX5_choose_61 : decode cX5_choose 61 = .ok (.iload 5, 2) := by decide +kernel
theorem dX5_choose_63 : decode cX5_choose 63 = .ok (.ishr, 1) := by decide +kernel
theorem dX5_choose_64 : decode cX5_choose 64 = .ok (.iconst 1, 1) := by decide +kernel
theorem dX5_choose_65 : decode cX5_choose 65 = .ok (.iand, 1) := by decide +kernel
theorem dX5_choose_66 : decode cX5_choose 66 = .ok (.ifCond .ne 49, 3) := by decide +kernel
theorem dX5_choose_69 : decode cX5_choose 69 = .ok (.aload_n 0, 1) := by decide +kernel
theorem dX5_choose_70 : decode cX5_choose 70 = .ok (.getfield 19, 3) := by decide +kernel
theorem dX5_choose_73 : decode cX5_choose 73 = .ok (.iload_n 2, 1) := by decide +kernel
theorem dX5_choose_74 : decode cX5_choose 74 = .ok (.iload 5, 2) := by decide +kernel
theorem dX5_choose_76 : decode cX5_choose 76 = .ok (.iastore, 1) := by decide +kernel
theorem dX5_choose_77 : decode cX5_choose 77 = .ok (.aload_n 1, 1) := by decide +kernel
theorem dX5_choose_78 : decode cX5_choose 78 = .ok (.getfield 40, 3) := by decide +kernel
theorem dX5_choose_81 : decode cX5_choose 81 = .ok (.iload 5, 2) := by decide +kernel
theorem dX5_choose_83 : decode cX5_choose 83 = .ok (.iaload, 1) := by decide +kernel
theorem dX5_choose_84 : decode cX5_choose 84 = .ok (.aload_n 1, 1) := by decide +kernel
theorem dX5_choose_85 : decode cX5_choose 85 = .ok (.getfield 43, 3) := by decide +kernel
theorem dX5_choose_88 : decode cX5_choose 88 = .ok (.iload_n 2, 1) := by decide +kernel
