theorem dX9_lowness_93 : decode cX9_lowness 93 = .ok (.imul, 1) := by decide +kernel
theorem dX9_lowness_94 : decode cX9_lowness 94 = .ok (.iadd, 1) := by decide +kernel
theorem dX9_lowness_95 : decode cX9_lowness 95 = .ok (.iload 5, 2) := by decide +kernel
theorem dX9_lowness_97 : decode cX9_lowness 97 = .ok (.idiv, 1) := by decide +kernel
theorem dX9_lowness_98 : decode cX9_lowness 98 = .ok (.ireturn, 1) := by decide +kernel
theorem dX9_lightOver_0 : decode cX9_lightOver 0 = .ok (.aload_n 0, 1) := by decide +kernel
theorem dX9_lightOver_1 : decode cX9_lightOver 1 = .ok (.aload_n 1, 1) := by decide +kernel
theorem dX9_lightOver_2 : decode cX9_lightOver 2 = .ok (.iload_n 2, 1) := by decide +kernel
theorem dX9_lightOver_3 : decode cX9_lightOver 3 = .ok (.invokevirtual 98, 3) := by decide +kernel
theorem dX9_lightOver_6 : decode cX9_lightOver 6 = .ok (.invokestatic 102, 3) := by decide +kernel
theorem dX9_lightOver_9 : decode cX9_lightOver 9 = .ok (.ireturn, 1) := by decide +kernel
theorem dX9_isMet_0 : decode cX9_isMet 0 = .ok (.aload_n 0, 1) := by decide +kernel
theorem dX9_isMet_1 : decode cX9_isMet 1 = .ok (.aload_n 1, 1) := by decide +kernel
theorem dX9_isMet_2 : decode cX9_isMet 2 = .ok (.aload_n 0, 1) := by decide +kernel
theorem dX9_isMet_3 : decode cX9_isMet 3 = .ok (.getfield 24, 3) := by decide +kernel
theorem dX9_isMet_6 : decode cX9_isMet 6 = .ok (.iload_n 2, 1) := by decide +kernel
theorem dX9_isMet_7 : decode cX9_isMet 7 = .ok (.iaload, 1) := by decide +kernel
theorem dX9_isMet_8 : decode cX9_isMet 8 = .ok (.invokevirtual 105, 3) := by decide +kernel
theorem dX9_isMet_11 : decode cX9_isMet 11 = .ok (.aload_n 0, 1) := by decide +kernel
theorem dX9_isMet_12 : decode cX9_isMet 12 = .ok (.getfield 27, 3) := by decide +kernel
theorem dX9_isMet_15 : decode cX9_isMet 15 = .ok (.iload_n 2, 1) := by decide +kernel
theorem dX9_isMet_16 : decode cX9_isMet 16 = .ok (.iaload, 1) := by decide +kernel
theorem dX9_isMet_17 : decode cX9_isMet 17 = .ok (.if_icmp .ne 7, 3) := by decide +kernel
theorem dX9_isMet_20 : decode cX9_isMet 20 = .ok (.iconst 1, 1) := by decide +kernel
theorem dX9_isMet_21 : decode cX9_isMet 21 = .ok (.goto 4, 3) := by decide +kernel
theorem dX9_isMet_24 : decode cX9_isMet 24 = .ok (.iconst 0, 1) := by decide +kernel
theorem dX9_isMet_25 : decode cX9_isMet 25 = .ok (.ireturn, 1) := by decide +kernel
theorem dX9_metBits_0 : decode cX9_metBits 0 = .ok (.iconst 0, 1) := by decide +kernel
theorem dX9_metBits_1 : decode cX9_metBits 1 = .ok (.istore_n 2, 1) := by decide +kernel
theorem dX9_metBits_2 : decode cX9_metBits 2 = .ok (.iconst 0, 1) := by decide +kernel
theorem dX9_metBits_3 : decode cX9_metBits 3 = .ok (.istore_n 3, 1) := by decide +kernel
theorem dX9_metBits_4 : decode cX9_metBits 4 = .ok (.iload_n 3, 1) := by decide +kernel
theorem dX9_metBits_5 : decode cX9_metBits 5 = .ok (.aload_n 0, 1) := by decide +kernel
theorem dX9_metBits_6 : decode cX9_metBits 6 = .ok (.getfield 46, 3) := by decide +kernel
theorem dX9_metBits_9 : decode cX9_metBits 9 = .ok (.if_icmp .ge 24, 3) := by decide +kernel
theorem dX9_metBits_12 : decode cX9_metBits 12 = .ok (.aload_n 0, 1) := by decide +kernel
theorem dX9_metBits_13 : decode cX9_metBits 13 = .ok (.aload_n 1, 1) := by decide +kernel
theorem dX9_metBits_14 : decode cX9_metBits 14 = .ok (.iload_n 3, 1) := by decide +kernel
theorem dX9_metBits_15 : decode cX9_metBits 15 = .ok (.invokevirtual 108, 3) := by decide +kernel
theorem dX9_metBits_18 : decode cX9_metBits 18 = .ok (.ifCond .eq 9, 3) := by decide +kernel
theorem dX9_metBits_21 : decode cX9_metBits 21 = .ok (.iload_n 2, 1) := by decide +kernel
theorem dX9_metBits_22 : decode cX9_metBits 22 = .ok (.iconst 1, 1) := by decide +kernel
theorem dX9_metBits_23 : decode cX9_metBits 23 = .ok (.iload_n 3, 1) := by decide +kernel
theorem dX9_metBits_24 : decode cX9_metBits 24 = .ok (.ishl, 1) := by decide +kernel
theorem dX9_metBits_25 : decode cX9_metBits 25 = .ok (.ior, 1) := by decide +kernel
theorem dX9_metBits_26 : decode cX9_metBits 26 = .ok (.istore_n 2, 1) := by decide +kernel
theorem dX9_metBits_27 : decode cX9_metBits 27 = .ok (.iinc 3 1, 3) := by decide +kernel
theorem dX9_metBits_30 : decode cX9_metBits 30 = .ok (.goto (-26), 3) := by decide +kernel
theorem dX9_metBits_33 : decode cX9_metBits 33 = .ok (.iload_n 2, 1) := by decide +kernel
theorem dX9_metBits_34 : decode cX9_metBits 34 = .ok (.ireturn, 1) := by decide +kernel
theorem dX9_meetsWantsEndingAt_0 : decode cX9_meetsWantsEndingAt 0 = .ok (.iconst 0, 1) := by decide +kernel
theorem dX9_meetsWantsEndingAt_1 : decode cX9_meetsWantsEndingAt 1 = .ok (.istore_n 3, 1) := by decide +kernel
theorem dX9_meetsWantsEndingAt_2 : decode cX9_meetsWantsEndingAt 2 = .ok (.iload_n 3, 1) := by decide +kernel
theorem dX9_meetsWantsEndingAt_3 : decode cX9_meetsWantsEndingAt 3 = .ok (.aload_n 0, 1) := by decide +kernel
theorem dX9_meetsWantsEndingAt_4 : decode cX9_meetsWantsEndingAt 4 = .ok (.getfield 46, 3) := by decide +kernel
theorem dX9_meetsWantsEndingAt_7 : decode cX9_meetsWantsEndingAt 7 = .ok (.if_icmp .ge 49, 3) := by decide +kernel
theorem dX9_meetsWantsEndingAt_10 : decode cX9_meetsWantsEndingAt 10 = .ok (.aload_n 0, 1) := by decide +kernel
theorem dX9_meetsWantsEndingAt_11 : decode cX9_meetsWantsEndingAt 11 = .ok (.getfield 24, 3) := by decide +kernel
theorem dX9_meetsWantsEndingAt_14 : decode cX9_meetsWantsEndingAt 14 = .ok (.iload_n 3, 1) := by decide +kernel
theorem dX9_meetsWantsEndingAt_15 : decode cX9_meetsWantsEndingAt 15 = .ok (.iaload, 1) := by decide +kernel
theorem dX9_meetsWantsEndingAt_16 : decode cX9_meetsWantsEndingAt 16 = .ok (.istore 4, 2) := by decide +kernel
theorem dX9_meetsWantsEndingAt_18 : decode cX9_meetsWantsEndingAt 18 = .ok (.aload_n 0, 1) := by decide +kernel
theorem dX9_meetsWantsEndingAt_19 : decode cX9_meetsWantsEndingAt 19 = .ok (.getfield 33, 3) := by decide +kernel
theorem dX9_meetsWantsEndingAt_22 : decode cX9_meetsWantsEndingAt 22 = .ok (.iload 4, 2) := by decide +kernel
theorem dX9_meetsWantsEndingAt_24 : decode cX9_meetsWantsEndingAt 24 = .ok (.iaload, 1) := by decide +kernel
theorem dX9_meetsWantsEndingAt_25 : decode cX9_meetsWantsEndingAt 25 = .ok (.aload_n 0, 1) := by decide +kernel
theorem dX9_meetsWantsEndingAt_26 : decode cX9_meetsWantsEndingAt 26 = .ok (.getfield 36, 3) := by decide +kernel
theorem dX9_meetsWantsEndingAt_29 : decode cX9_meetsWantsEndingAt 29 = .ok (.iload 4, 2) := by decide +kernel
theorem dX9_meetsWantsEndingAt_31 : decode cX9_meetsWantsEndingAt 31 = .ok (.iaload, 1) := by decide +kernel
theorem dX9_meetsWantsEndingAt_32 : decode cX9_meetsWantsEndingAt 32 = .ok (.invokestatic 112, 3) := by decide +kernel
theorem dX9_meetsWantsEndingAt_35 : decode cX9_meetsWantsEndingAt 35 = .ok (.iload_n 1, 1) := by decide +kernel
theorem dX9_meetsWantsEndingAt_36 : decode cX9_meetsWantsEndingAt 36 = .ok (.if_icmp .ne 14, 3) := by decide +kernel
theorem dX9_meetsWantsEndingAt_39 : decode cX9_meetsWantsEndingAt 39 = .ok (.aload_n 0, 1) := by decide +kernel
theorem dX9_meetsWantsEndingAt_40 : decode cX9_meetsWantsEndingAt 40 = .ok (.aload_n 2, 1) := by decide +kernel
theorem dX9_meetsWantsEndingAt_41 : decode cX9_meetsWantsEndingAt 41 = .ok (.iload_n 3, 1) := by decide +kernel
theorem dX9_meetsWantsEndingAt_42 : decode cX9_meetsWantsEndingAt 42 = .ok (.invokevirtual 108, 3) := by decide +kernel
theorem dX9_meetsWantsEndingAt_45 : decode cX9_meetsWantsEndingAt 45 = .ok (.ifCond .ne 5, 3) := by decide +kernel
theorem dX9_meetsWantsEndingAt_48 : decode cX9_meetsWantsEndingAt 48 = .ok (.iconst 0, 1) := by decide +kernel
theorem dX9_meetsWantsEndingAt_49 : decode cX9_meetsWantsEndingAt 49 = .ok (.ireturn, 1) := by decide +kernel
theorem dX9_meetsWantsEndingAt_50 : decode cX9_meetsWantsEndingAt 50 = .ok (.iinc 3 1, 3) := by decide +kernel
theorem dX9_meetsWantsEndingAt_53 : decode cX9_meetsWantsEndingAt 53 = .ok (.goto (-51), 3) := by decide +kernel
theorem dX9_meetsWantsEndingAt_56 : decode cX9_meetsWantsEndingAt 56 = .ok (.iconst 1, 1) := by decide +kernel
theorem dX9_meetsWantsEndingAt_57 : decode cX9_meetsWantsEndingAt 57 = .ok (.ireturn, 1) := by decide +kernel
theorem dX9_nights_0 : decode cX9_nights 0 = .ok (.iconst 0, 1) := by decide +kernel
theorem dX9_nights_1 : decode cX9_nights 1 = .ok (.istore_n 2, 1) := by decide +kernel
theorem dX9_nights_2 : decode cX9_nights 2 = .ok (.iconst 0, 1) := by decide +kernel
theorem dX9_nights_3 : decode cX9_nights 3 = .ok (.istore_n 3, 1) := by decide +kernel
theorem dX9_nights_4 : decode cX9_nights 4 = .ok (.iload_n 3, 1) := by decide +kernel
theorem dX9_nights_5 : decode cX9_nights 5 = .ok (.bipush 24, 2) := by decide +kernel
theorem dX9_nights_7 : decode cX9_nights 7 = .ok (.if_icmp .ge 22, 3) := by decide +kernel
theorem dX9_nights_10 : decode cX9_nights 10 = .ok (.aload_n 0, 1) := by decide +kernel
theorem dX9_nights_11 : decode cX9_nights 11 = .ok (.aload_n 1, 1) := by decide +kernel
theorem dX9_nights_12 : decode cX9_nights 12 = .ok (.iload_n 3, 1) := by decide +kernel
theorem dX9_nights_13 : decode cX9_nights 13 = .ok (.invokevirtual 105, 3) := by decide +kernel
theorem dX9_nights_16 : decode cX9_nights 16 = .ok (.iconst 3, 1) := by decide +kernel
theorem dX9_nights_17 : decode cX9_nights 17 = .ok (.if_icmp .ne 6, 3) := by decide +kernel
theorem dX9_nights_20 : decode cX9_nights 20 = .ok (.iinc 2 1, 3) := by decide +kernel
theorem dX9_nights_23 : decode cX9_nights 23 = .ok (.iinc 3 1, 3) := by decide +kernel
theorem dX9_nights_26 : decode cX9_nights 26 = .ok (.goto (-22), 3) := by decide +kernel
theorem dX9_nights_29 : decode cX9_nights 29 = .ok (.iload_n 2, 1) := by decide +kernel
theorem dX9_nights_30 : decode cX9_nights 30 = .ok (.ireturn, 1) := by decide +kernel
theorem dX10_init_0 : decode cX10_init 0 = .ok (.aload_n 0, 1) := by decide +kernel
theorem dX10_init_1 : decode cX10_init 1 = .ok (.invokespecial 1, 3) := by decide +kernel
theorem dX10_init_4 : decode cX10_init 4 = .ok (.aload_n 0, 1) := by decide +kernel
theorem dX10_init_5 : decode cX10_init 5 = .ok (.new 7, 3) := by decide +kernel
theorem dX10_init_8 : decode cX10_init 8 = .ok (.dup, 1) := by decide +kernel
theorem dX10_init_9 : decode cX10_init 9 = .ok (.invokespecial 9, 3) := by decide +kernel
theorem dX10_init_12 : decode cX10_init 12 = .ok (.putfield 10, 3) := by decide +kernel
theorem dX10_init_15 : decode cX10_init 15 = .ok (.aload_n 0, 1) := by decide +kernel
theorem dX10_init_16 : decode cX10_init 16 = .ok (.new 16, 3) := by decide +kernel
theorem dX10_init_19 : decode cX10_init 19 = .ok (.dup, 1) := by decide +kernel
theorem dX10_init_20 : decode cX10_init 20 = .ok (.invokespecial 18, 3) := by decide +kernel
theorem dX10_init_23 : decode cX10_init 23 = .ok (.putfield 19, 3) := by decide +kernel
theorem dX10_init_26 : decode cX10_init 26 = .ok (.aload_n 0, 1) := by decide +kernel
theorem dX10_init_27 : decode cX10_init 27 = .ok (.new 23, 3) := by decide +kernel
theorem dX10_init_30 : decode cX10_init 30 = .ok (.dup, 1) := by decide +kernel
theorem dX10_init_31 : decode cX10_init 31 = .ok (.invokespecial 25, 3) := by decide +kernel
theorem dX10_init_34 : decode cX10_init 34 = .ok (.putfield 26, 3) := by decide +kernel
theorem dX10_init_37 : decode cX10_init 37 = .ok (.aload_n 0, 1) := by decide +kernel
theorem dX10_init_38 : decode cX10_init 38 = .ok (.new 23, 3) := by decide +kernel
theorem dX10_init_41 : decode cX10_init 41 = .ok (.dup, 1) := by decide +kernel
theorem dX10_init_42 : decode cX10_init 42 = .ok (.invokespecial 25, 3) := by decide +kernel
theorem dX10_init_45 : decode cX10_init 45 = .ok (.putfield 30, 3) := by decide +kernel
theorem dX10_init_48 : decode cX10_init 48 = .ok (.aload_n 0, 1) := by decide +kernel
theorem dX10_init_49 : decode cX10_init 49 = .ok (.new 33, 3) := by decide +kernel
theorem dX10_init_52 : decode cX10_init 52 = .ok (.dup, 1) := by decide +kernel
theorem dX10_init_53 : decode cX10_init 53 = .ok (.invokespecial 35, 3) := by decide +kernel
theorem dX10_init_56 : decode cX10_init 56 = .ok (.putfield 36, 3) := by decide +kernel
theorem dX10_init_59 : decode cX10_init 59 = .ok (.aload_n 0, 1) := by decide +kernel
theorem dX10_init_60 : decode cX10_init 60 = .ok (.new 40, 3) := by decide +kernel
theorem dX10_init_63 : decode cX10_init 63 = .ok (.dup, 1) := by decide +kernel
theorem dX10_init_64 : decode cX10_init 64 = .ok (.bipush 8, 2) := by decide +kernel
theorem dX10_init_66 : decode cX10_init 66 = .ok (.invokespecial 42, 3) := by decide +kernel
theorem dX10_init_69 : decode cX10_init 69 = .ok (.putfield 45, 3) := by decide +kernel
theorem dX10_init_72 : decode cX10_init 72 = .ok (.aload_n 0, 1) := by decide +kernel
theorem dX10_init_73 : decode cX10_init 73 = .ok (.new 40, 3) := by decide +kernel
theorem dX10_init_76 : decode cX10_init 76 = .ok (.dup, 1) := by decide +kernel
theorem dX10_init_77 : decode cX10_init 77 = .ok (.iconst 2, 1) := by decide +kernel
theorem dX10_init_78 : decode cX10_init 78 = .ok (.invokespecial 42, 3) := by decide +kernel
theorem dX10_init_81 : decode cX10_init 81 = .ok (.putfield 49, 3) := by decide +kernel
theorem dX10_init_84 : decode cX10_init 84 = .ok (.aload_n 0, 1) := by decide +kernel
theorem dX10_init_85 : decode cX10_init 85 = .ok (.new 52, 3) := by decide +kernel
theorem dX10_init_88 : decode cX10_init 88 = .ok (.dup, 1) := by decide +kernel
theorem dX10_init_89 : decode cX10_init 89 = .ok (.invokespecial 54, 3) := by decide +kernel
theorem dX10_init_92 : decode cX10_init 92 = .ok (.putfield 55, 3) := by decide +kernel
theorem dX10_init_95 : decode cX10_init 95 = .ok (.aload_n 0, 1) := by decide +kernel
theorem dX10_init_96 : decode cX10_init 96 = .ok (.new 59, 3) := by decide +kernel
theorem dX10_init_99 : decode cX10_init 99 = .ok (.dup, 1) := by decide +kernel
theorem dX10_init_100 : decode cX10_init 100 = .ok (.invokespecial 61, 3) := by decide +kernel
theorem dX10_init_103 : decode cX10_init 103 = .ok (.putfield 62, 3) := by decide +kernel
theorem dX10_init_106 : decode cX10_init 106 = .ok (.aload_n 0, 1) := by decide +kernel
theorem dX10_init_107 : decode cX10_init 107 = .ok (.new 66, 3) := by decide +kernel
theorem dX10_init_110 : decode cX10_init 110 = .ok (.dup, 1) := by decide +kernel
theorem dX10_init_111 : decode cX10_init 111 = .ok (.invokespecial 68, 3) := by decide +kernel
theorem dX10_init_114 : decode cX10_init 114 = .ok (.putfield 69, 3) := by decide +kernel
theorem dX10_init_117 : decode cX10_init 117 = .ok (.aload_n 0, 1) := by decide +kernel
theorem dX10_init_118 : decode cX10_init 118 = .ok (.new 73, 3) := by decide +kernel
theorem dX10_init_121 : decode cX10_init 121 = .ok (.dup, 1) := by decide +kernel
theorem dX10_init_122 : decode cX10_init 122 = .ok (.invokespecial 75, 3) := by decide +kernel
theorem dX10_init_125 : decode cX10_init 125 = .ok (.putfield 76, 3) := by decide +kernel
theorem dX10_init_128 : decode cX10_init 128 = .ok (.aload_n 0, 1) := by decide +kernel
theorem dX10_init_129 : decode cX10_init 129 = .ok (.new 80, 3) := by decide +kernel
theorem dX10_init_132 : decode cX10_init 132 = .ok (.dup, 1) := by decide +kernel
theorem dX10_init_133 : decode cX10_init 133 = .ok (.invokespecial 82, 3) := by decide +kernel
theorem dX10_init_136 : decode cX10_init 136 = .ok (.putfield 83, 3) := by decide +kernel
theorem dX10_init_139 : decode cX10_init 139 = .ok (.aload_n 0, 1) := by decide +kernel
theorem dX10_init_140 : decode cX10_init 140 = .ok (.invokevirtual 87, 3) := by decide +kernel
theorem dX10_init_143 : decode cX10_init 143 = .ok (.return_, 1) := by decide +kernel
theorem dX10_write_0 : decode cX10_write 0 = .ok (.iload_n 1, 1) := by decide +kernel
theorem dX10_write_1 : decode cX10_write 1 = .ok (.bipush 32, 2) := by decide +kernel
theorem dX10_write_3 : decode cX10_write 3 = .ok (.if_icmp .lt 9, 3) := by decide +kernel
theorem dX10_write_6 : decode cX10_write 6 = .ok (.iload_n 1, 1) := by decide +kernel
theorem dX10_write_7 : decode cX10_write 7 = .ok (.bipush 126, 2) := by decide +kernel
theorem dX10_write_9 : decode cX10_write 9 = .ok (.if_icmp .le 5, 3) := by decide +kernel
theorem dX10_write_12 : decode cX10_write 12 = .ok (.iconst (-1), 1) := by decide +kernel
theorem dX10_write_13 : decode cX10_write 13 = .ok (.ireturn, 1) := by decide +kernel
theorem dX10_write_14 : decode cX10_write 14 = .ok (.aload_n 0, 1) := by decide +kernel
theorem dX10_write_15 : decode cX10_write 15 = .ok (.getfield 10, 3) := by decide +kernel
theorem dX10_write_18 : decode cX10_write 18 = .ok (.invokevirtual 90, 3) := by decide +kernel
theorem dX10_write_21 : decode cX10_write 21 = .ok (.ifCond .eq 6, 3) := by decide +kernel
theorem dX10_write_24 : decode cX10_write 24 = .ok (.bipush (-3), 2) := by decide +kernel
theorem dX10_write_26 : decode cX10_write 26 = .ok (.ireturn, 1) := by decide +kernel
theorem dX10_write_27 : decode cX10_write 27 = .ok (.aload_n 0, 1) := by decide +kernel
theorem dX10_write_28 : decode cX10_write 28 = .ok (.getfield 10, 3) := by decide +kernel
theorem dX10_write_31 : decode cX10_write 31 = .ok (.iload_n 1, 1) := by decide +kernel
theorem dX10_write_32 : decode cX10_write 32 = .ok (.i2c, 1) := by decide +kernel
theorem dX10_write_33 : decode cX10_write 33 = .ok (.invokevirtual 94, 3) := by decide +kernel
theorem dX10_write_36 : decode cX10_write 36 = .ok (.aload_n 0, 1) := by decide +kernel
theorem dX10_write_37 : decode cX10_write 37 = .ok (.getfield 10, 3) := by decide +kernel
theorem dX10_write_40 : decode cX10_write 40 = .ok (.invokevirtual 98, 3) := by decide +kernel
theorem dX10_write_43 : decode cX10_write 43 = .ok (.ireturn, 1) := by decide +kernel
theorem dX10_wipe_0 : decode cX10_wipe 0 = .ok (.aload_n 0, 1) := by decide +kernel
theorem dX10_wipe_1 : decode cX10_wipe 1 = .ok (.getfield 10, 3) := by decide +kernel
theorem dX10_wipe_4 : decode cX10_wipe 4 = .ok (.invokevirtual 98, 3) := by decide +kernel
theorem dX10_wipe_7 : decode cX10_wipe 7 = .ok (.istore_n 1, 1) := by decide +kernel
theorem dX10_wipe_8 : decode cX10_wipe 8 = .ok (.aload_n 0, 1) := by decide +kernel
theorem dX10_wipe_9 : decode cX10_wipe 9 = .ok (.getfield 10, 3) := by decide +kernel
theorem dX10_wipe_12 : decode cX10_wipe 12 = .ok (.invokevirtual 102, 3) := by decide +kernel
theorem dX10_wipe_15 : decode cX10_wipe 15 = .ok (.iload_n 1, 1) := by decide +kernel
theorem dX10_wipe_16 : decode cX10_wipe 16 = .ok (.ireturn, 1) := by decide +kernel
theorem dX10_fault_0 : decode cX10_fault 0 = .ok (.aload_n 0, 1) := by decide +kernel
theorem dX10_fault_1 : decode cX10_fault 1 = .ok (.getfield 19, 3) := by decide +kernel
theorem dX10_fault_4 : decode cX10_fault 4 = .ok (.aload_n 0, 1) := by decide +kernel
theorem dX10_fault_5 : decode cX10_fault 5 = .ok (.getfield 10, 3) := by decide +kernel
theorem dX10_fault_8 : decode cX10_fault 8 = .ok (.aload_n 0, 1) := by decide +kernel
theorem dX10_fault_9 : decode cX10_fault 9 = .ok (.getfield 30, 3) := by decide +kernel
theorem dX10_fault_12 : decode cX10_fault 12 = .ok (.invokevirtual 105, 3) := by decide +kernel
theorem dX10_fault_15 : decode cX10_fault 15 = .ok (.ireturn, 1) := by decide +kernel
theorem dX10_lay_0 : decode cX10_lay 0 = .ok (.aload_n 0, 1) := by decide +kernel
theorem dX10_lay_1 : decode cX10_lay 1 = .ok (.getfield 19, 3) := by decide +kernel
theorem dX10_lay_4 : decode cX10_lay 4 = .ok (.aload_n 0, 1) := by decide +kernel
theorem dX10_lay_5 : decode cX10_lay 5 = .ok (.getfield 10, 3) := by decide +kernel
theorem dX10_lay_8 : decode cX10_lay 8 = .ok (.aload_n 0, 1) := by decide +kernel
theorem dX10_lay_9 : decode cX10_lay 9 = .ok (.getfield 30, 3) := by decide +kernel
theorem dX10_lay_12 : decode cX10_lay 12 = .ok (.invokevirtual 105, 3) := by decide +kernel
theorem dX10_lay_15 : decode cX10_lay 15 = .ok (.bipush (-4), 2) := by decide +kernel
theorem dX10_lay_17 : decode cX10_lay 17 = .ok (.if_icmp .ne 13, 3) := by decide +kernel
theorem dX10_lay_20 : decode cX10_lay 20 = .ok (.aload_n 0, 1) := by decide +kernel
theorem dX10_lay_21 : decode cX10_lay 21 = .ok (.getfield 30, 3) := by decide +kernel
theorem dX10_lay_24 : decode cX10_lay 24 = .ok (.getfield 109, 3) := by decide +kernel
theorem dX10_lay_27 : decode cX10_lay 27 = .ok (.ifCond .ne 6, 3) := by decide +kernel
theorem dX10_lay_30 : decode cX10_lay 30 = .ok (.bipush (-2), 2) := by decide +kernel
theorem dX10_lay_32 : decode cX10_lay 32 = .ok (.ireturn, 1) := by decide +kernel
theorem dX10_lay_33 : decode cX10_lay 33 = .ok (.aload_n 0, 1) := by decide +kernel
theorem dX10_lay_34 : decode cX10_lay 34 = .ok (.getfield 26, 3) := by decide +kernel
theorem dX10_lay_37 : decode cX10_lay 37 = .ok (.astore_n 1, 1) := by decide +kernel
theorem dX10_lay_38 : decode cX10_lay 38 = .ok (.aload_n 0, 1) := by decide +kernel
theorem dX10_lay_39 : decode cX10_lay 39 = .ok (.aload_n 0, 1) := by decide +kernel
theorem dX10_lay_40 : decode cX10_lay 40 = .ok (.getfield 30, 3) := by decide +kernel
theorem dX10_lay_43 : decode cX10_lay 43 = .ok (.putfield 26, 3) := by decide +kernel
theorem dX10_lay_46 : decode cX10_lay 46 = .ok (.aload_n 0, 1) := by decide +kernel
theorem dX10_lay_47 : decode cX10_lay 47 = .ok (.aload_n 1, 1) := by decide +kernel
theorem dX10_lay_48 : decode cX10_lay 48 = .ok (.putfield 30, 3) := by decide +kernel
theorem dX10_lay_51 : decode cX10_lay 51 = .ok (.aload_n 0, 1) := by decide +kernel
theorem dX10_lay_52 : decode cX10_lay 52 = .ok (.getfield 36, 3) := by decide +kernel
theorem dX10_lay_55 : decode cX10_lay 55 = .ok (.aload_n 0, 1) := by decide +kernel
theorem dX10_lay_56 : decode cX10_lay 56 = .ok (.getfield 26, 3) := by decide +kernel
theorem dX10_lay_59 : decode cX10_lay 59 = .ok (.invokevirtual 113, 3) := by decide +kernel
theorem dX10_lay_62 : decode cX10_lay 62 = .ok (.aload_n 0, 1) := by decide +kernel
theorem dX10_lay_63 : decode cX10_lay 63 = .ok (.getfield 45, 3) := by decide +kernel
theorem dX10_lay_66 : decode cX10_lay 66 = .ok (.invokevirtual 117, 3) := by decide +kernel
theorem dX10_lay_69 : decode cX10_lay 69 = .ok (.aload_n 0, 1) := by decide +kernel
theorem dX10_lay_70 : decode cX10_lay 70 = .ok (.getfield 49, 3) := by decide +kernel
theorem dX10_lay_73 : decode cX10_lay 73 = .ok (.invokevirtual 117, 3) := by decide +kernel
theorem dX10_lay_76 : decode cX10_lay 76 = .ok (.aload_n 0, 1) := by decide +kernel
theorem dX10_lay_77 : decode cX10_lay 77 = .ok (.getfield 76, 3) := by decide +kernel
theorem dX10_lay_80 : decode cX10_lay 80 = .ok (.invokevirtual 118, 3) := by decide +kernel
theorem dX10_lay_83 : decode cX10_lay 83 = .ok (.aload_n 0, 1) := by decide +kernel
theorem dX10_lay_84 : decode cX10_lay 84 = .ok (.getfield 26, 3) := by decide +kernel
theorem dX10_lay_87 : decode cX10_lay 87 = .ok (.getfield 109, 3) := by decide +kernel
theorem dX10_lay_90 : decode cX10_lay 90 = .ok (.ireturn, 1) := by decide +kernel
theorem dX10_rope_0 : decode cX10_rope 0 = .ok (.aload_n 0, 1) := by decide +kernel
theorem dX10_rope_1 : decode cX10_rope 1 = .ok (.getfield 26, 3) := by decide +kernel
theorem dX10_rope_4 : decode cX10_rope 4 = .ok (.iload_n 1, 1) := by decide +kernel
theorem dX10_rope_5 : decode cX10_rope 5 = .ok (.invokevirtual 119, 3) := by decide +kernel
theorem dX10_rope_8 : decode cX10_rope 8 = .ok (.ifCond .ne 5, 3) := by decide +kernel
theorem dX10_rope_11 : decode cX10_rope 11 = .ok (.iconst (-1), 1) := by decide +kernel
theorem dX10_rope_12 : decode cX10_rope 12 = .ok (.ireturn, 1) := by decide +kernel
theorem dX10_rope_13 : decode cX10_rope 13 = .ok (.iload_n 2, 1) := by decide +kernel
theorem dX10_rope_14 : decode cX10_rope 14 = .ok (.tableswitch 70 0 3 #[30, 40, 50, 60], 30) := by decide +kernel
theorem dX10_rope_44 : decode cX10_rope 44 = .ok (.aload_n 0, 1) := by decide +kernel
theorem dX10_rope_45 : decode cX10_rope 45 = .ok (.getfield 26, 3) := by decide +kernel
theorem dX10_rope_48 : decode cX10_rope 48 = .ok (.getfield 123, 3) := by decide +kernel
theorem dX10_rope_51 : decode cX10_rope 51 = .ok (.iload_n 1, 1) := by decide +kernel
theorem dX10_rope_52 : decode cX10_rope 52 = .ok (.iaload, 1) := by decide +kernel
theorem dX10_rope_53 : decode cX10_rope 53 = .ok (.ireturn, 1) := by decide +kernel
theorem dX10_rope_54 : decode cX10_rope 54 = .ok (.aload_n 0, 1) := by decide +kernel
theorem dX10_rope_55 : decode cX10_rope 55 = .ok (.getfield 26, 3) := by decide +kernel
theorem dX10_rope_58 : decode cX10_rope 58 = .ok (.getfield 127, 3) := by decide +kernel
theorem dX10_rope_61 : decode cX10_rope 61 = .ok (.iload_n 1, 1) := by decide +kernel
theorem dX10_rope_62 : decode cX10_rope 62 = .ok (.iaload, 1) := by decide +kernel
theorem dX10_rope_63 : decode cX10_rope 63 = .ok (.ireturn, 1) := by decide +kernel
theorem dX10_rope_64 : decode cX10_rope 64 = .ok (.aload_n 0, 1) := by decide +kernel
theorem dX10_rope_65 : decode cX10_rope 65 = .ok (.getfield 36, 3) := by decide +kernel
theorem dX10_rope_68 : decode cX10_rope 68 = .ok (.getfield 130, 3) := by decide +kernel
theorem dX10_rope_71 : decode cX10_rope 71 = .ok (.iload_n 1, 1) := by decide +kernel
theorem dX10_rope_72 : decode cX10_rope 72 = .ok (.iaload, 1) := by decide +kernel
theorem dX10_rope_73 : decode cX10_rope 73 = .ok (.ireturn, 1) := by decide +kernel
theorem dX10_rope_74 : decode cX10_rope 74 = .ok (.aload_n 0, 1) := by decide +kernel
theorem dX10_rope_75 : decode cX10_rope 75 = .ok (.getfield 36, 3) := by decide +kernel
theorem dX10_rope_78 : decode cX10_rope 78 = .ok (.getfield 133, 3) := by decide +kernel
theorem dX10_rope_81 : decode cX10_rope 81 = .ok (.iload_n 1, 1) := by decide +kernel
theorem dX10_rope_82 : decode cX10_rope 82 = .ok (.iaload, 1) := by decide +kernel
theorem dX10_rope_83 : decode cX10_rope 83 = .ok (.ireturn, 1) := by decide +kernel
theorem dX10_rope_84 : decode cX10_rope 84 = .ok (.iconst (-1), 1) := by decide +kernel
theorem dX10_rope_85 : decode cX10_rope 85 = .ok (.ireturn, 1) := by decide +kernel
theorem dX10_sky_0 : decode cX10_sky 0 = .ok (.iload_n 1, 1) := by decide +kernel
theorem dX10_sky_1 : decode cX10_sky 1 = .ok (.invokestatic 136, 3) := by decide +kernel
theorem dX10_sky_4 : decode cX10_sky 4 = .ok (.ifCond .eq 21, 3) := by decide +kernel
theorem dX10_sky_7 : decode cX10_sky 7 = .ok (.aload_n 0, 1) := by decide +kernel
theorem dX10_sky_8 : decode cX10_sky 8 = .ok (.getfield 26, 3) := by decide +kernel
theorem dX10_sky_11 : decode cX10_sky 11 = .ok (.aload_n 0, 1) := by decide +kernel
theorem dX10_sky_12 : decode cX10_sky 12 = .ok (.getfield 36, 3) := by decide +kernel
theorem dX10_sky_15 : decode cX10_sky 15 = .ok (.getfield 133, 3) := by decide +kernel
theorem dX10_sky_18 : decode cX10_sky 18 = .ok (.iload_n 1, 1) := by decide +kernel
theorem dX10_sky_19 : decode cX10_sky 19 = .ok (.invokevirtual 139, 3) := by decide +kernel
theorem dX10_sky_22 : decode cX10_sky 22 = .ok (.goto 4, 3) := by decide +kernel
theorem dX10_sky_25 : decode cX10_sky 25 = .ok (.iconst (-1), 1) := by decide +kernel
theorem dX10_sky_26 : decode cX10_sky 26 = .ok (.ireturn, 1) := by decide +kernel
theorem dX10_light_0 : decode cX10_light 0 = .ok (.iload_n 1, 1) := by decide +kernel
theorem dX10_light_1 : decode cX10_light 1 = .ok (.invokestatic 136, 3) := by decide +kernel
theorem dX10_light_4 : decode cX10_light 4 = .ok (.ifCond .eq 21, 3) := by decide +kernel
theorem dX10_light_7 : decode cX10_light 7 = .ok (.aload_n 0, 1) := by decide +kernel
theorem dX10_light_8 : decode cX10_light 8 = .ok (.getfield 26, 3) := by decide +kernel
theorem dX10_light_11 : decode cX10_light 11 = .ok (.aload_n 0, 1) := by decide +kernel
theorem dX10_light_12 : decode cX10_light 12 = .ok (.getfield 36, 3) := by decide +kernel
theorem dX10_light_15 : decode cX10_light 15 = .ok (.getfield 133, 3) := by decide +kernel
theorem dX10_light_18 : decode cX10_light 18 = .ok (.iload_n 1, 1) := by decide +kernel
theorem dX10_light_19 : decode cX10_light 19 = .ok (.invokevirtual 143, 3) := by decide +kernel
theorem dX10_light_22 : decode cX10_light 22 = .ok (.goto 4, 3) := by decide +kernel
theorem dX10_light_25 : decode cX10_light 25 = .ok (.iconst (-1), 1) := by decide +kernel
theorem dX10_light_26 : decode cX10_light 26 = .ok (.ireturn, 1) := by decide +kernel
theorem dX10_hour_0 : decode cX10_hour 0 = .ok (.aload_n 0, 1) := by decide +kernel
theorem dX10_hour_1 : decode cX10_hour 1 = .ok (.getfield 26, 3) := by decide +kernel
theorem dX10_hour_4 : decode cX10_hour 4 = .ok (.iload_n 1, 1) := by decide +kernel
theorem dX10_hour_5 : decode cX10_hour 5 = .ok (.invokevirtual 146, 3) := by decide +kernel
theorem dX10_hour_8 : decode cX10_hour 8 = .ok (.ifCond .eq 20, 3) := by decide +kernel
theorem dX10_hour_11 : decode cX10_hour 11 = .ok (.aload_n 0, 1) := by decide +kernel
theorem dX10_hour_12 : decode cX10_hour 12 = .ok (.getfield 26, 3) := by decide +kernel
theorem dX10_hour_15 : decode cX10_hour 15 = .ok (.iload_n 2, 1) := by decide +kernel
theorem dX10_hour_16 : decode cX10_hour 16 = .ok (.invokevirtual 146, 3) := by decide +kernel
theorem dX10_hour_19 : decode cX10_hour 19 = .ok (.ifCond .eq 9, 3) := by decide +kernel
theorem dX10_hour_22 : decode cX10_hour 22 = .ok (.iload_n 1, 1) := by decide +kernel
theorem dX10_hour_23 : decode cX10_hour 23 = .ok (.iload_n 2, 1) := by decide +kernel
theorem dX10_hour_24 : decode cX10_hour 24 = .ok (.iand, 1) := by decide +kernel
theorem dX10_hour_25 : decode cX10_hour 25 = .ok (.ifCond .eq 5, 3) := by decide +kernel
theorem dX10_hour_28 : decode cX10_hour 28 = .ok (.iconst (-1), 1) := by decide +kernel
theorem dX10_hour_29 : decode cX10_hour 29 = .ok (.ireturn, 1) := by decide +kernel
theorem dX10_hour_30 : decode cX10_hour 30 = .ok (.aload_n 0, 1) := by decide +kernel
theorem dX10_hour_31 : decode cX10_hour 31 = .ok (.getfield 36, 3) := by decide +kernel
theorem dX10_hour_34 : decode cX10_hour 34 = .ok (.getfield 149, 3) := by decide +kernel
theorem dX10_hour_37 : decode cX10_hour 37 = .ok (.bipush 99, 2) := by decide +kernel
theorem dX10_hour_39 : decode cX10_hour 39 = .ok (.if_icmp .lt 6, 3) := by decide +kernel
theorem dX10_hour_42 : decode cX10_hour 42 = .ok (.bipush (-2), 2) := by decide +kernel
theorem dX10_hour_44 : decode cX10_hour 44 = .ok (.ireturn, 1) := by decide +kernel
theorem dX10_hour_45 : decode cX10_hour 45 = .ok (.aload_n 0, 1) := by decide +kernel
theorem dX10_hour_46 : decode cX10_hour 46 = .ok (.getfield 45, 3) := by decide +kernel
theorem dX10_hour_49 : decode cX10_hour 49 = .ok (.aload_n 0, 1) := by decide +kernel
theorem dX10_hour_50 : decode cX10_hour 50 = .ok (.getfield 36, 3) := by decide +kernel
theorem dX10_hour_53 : decode cX10_hour 53 = .ok (.invokevirtual 152, 3) := by decide +kernel
theorem dX10_hour_56 : decode cX10_hour 56 = .ok (.aload_n 0, 1) := by decide +kernel
theorem dX10_hour_57 : decode cX10_hour 57 = .ok (.getfield 26, 3) := by decide +kernel
theorem dX10_hour_60 : decode cX10_hour 60 = .ok (.iload_n 1, 1) := by decide +kernel
theorem dX10_hour_61 : decode cX10_hour 61 = .ok (.iload_n 2, 1) := by decide +kernel
theorem dX10_hour_62 : decode cX10_hour 62 = .ok (.invokevirtual 156, 3) := by decide +kernel
theorem dX10_hour_65 : decode cX10_hour 65 = .ok (.istore_n 3, 1) := by decide +kernel
theorem dX10_hour_66 : decode cX10_hour 66 = .ok (.aload_n 0, 1) := by decide +kernel
theorem dX10_hour_67 : decode cX10_hour 67 = .ok (.getfield 36, 3) := by decide +kernel
theorem dX10_hour_70 : decode cX10_hour 70 = .ok (.aload_n 0, 1) := by decide +kernel
theorem dX10_hour_71 : decode cX10_hour 71 = .ok (.getfield 26, 3) := by decide +kernel
theorem dX10_hour_74 : decode cX10_hour 74 = .ok (.iload_n 1, 1) := by decide +kernel
theorem dX10_hour_75 : decode cX10_hour 75 = .ok (.iload_n 2, 1) := by decide +kernel
theorem dX10_hour_76 : decode cX10_hour 76 = .ok (.invokevirtual 160, 3) := by decide +kernel
theorem dX10_hour_79 : decode cX10_hour 79 = .ok (.aload_n 0, 1) := by decide +kernel
theorem dX10_hour_80 : decode cX10_hour 80 = .ok (.getfield 36, 3) := by decide +kernel
theorem dX10_hour_83 : decode cX10_hour 83 = .ok (.dup, 1) := by decide +kernel
theorem dX10_hour_84 : decode cX10_hour 84 = .ok (.getfield 164, 3) := by decide +kernel
theorem dX10_hour_87 : decode cX10_hour 87 = .ok (.iload_n 3, 1) := by decide +kernel
theorem dX10_hour_88 : decode cX10_hour 88 = .ok (.iadd, 1) := by decide +kernel
theorem dX10_hour_89 : decode cX10_hour 89 = .ok (.putfield 164, 3) := by decide +kernel
theorem dX10_hour_92 : decode cX10_hour 92 = .ok (.iload_n 3, 1) := by decide +kernel
theorem dX10_hour_93 : decode cX10_hour 93 = .ok (.ireturn, 1) := by decide +kernel
theorem dX10_grease_0 : decode cX10_grease 0 = .ok (.aload_n 0, 1) := by decide +kernel
theorem dX10_grease_1 : decode cX10_grease 1 = .ok (.getfield 26, 3) := by decide +kernel
theorem dX10_grease_4 : decode cX10_grease 4 = .ok (.iload_n 1, 1) := by decide +kernel
theorem dX10_grease_5 : decode cX10_grease 5 = .ok (.invokevirtual 119, 3) := by decide +kernel
theorem dX10_grease_8 : decode cX10_grease 8 = .ok (.ifCond .ne 5, 3) := by decide +kernel
theorem dX10_grease_11 : decode cX10_grease 11 = .ok (.iconst (-1), 1) := by decide +kernel
theorem dX10_grease_12 : decode cX10_grease 12 = .ok (.ireturn, 1) := by decide +kernel
theorem dX10_grease_13 : decode cX10_grease 13 = .ok (.aload_n 0, 1) := by decide +kernel
theorem dX10_grease_14 : decode cX10_grease 14 = .ok (.getfield 45, 3) := by decide +kernel
theorem dX10_grease_17 : decode cX10_grease 17 = .ok (.aload_n 0, 1) := by decide +kernel
theorem dX10_grease_18 : decode cX10_grease 18 = .ok (.getfield 36, 3) := by decide +kernel
theorem dX10_grease_21 : decode cX10_grease 21 = .ok (.invokevirtual 152, 3) := by decide +kernel
theorem dX10_grease_24 : decode cX10_grease 24 = .ok (.aload_n 0, 1) := by decide +kernel
theorem dX10_grease_25 : decode cX10_grease 25 = .ok (.getfield 36, 3) := by decide +kernel
theorem dX10_grease_28 : decode cX10_grease 28 = .ok (.getfield 130, 3) := by decide +kernel
theorem dX10_grease_31 : decode cX10_grease 31 = .ok (.iload_n 1, 1) := by decide +kernel
theorem dX10_grease_32 : decode cX10_grease 32 = .ok (.iaload, 1) := by decide +kernel
theorem dX10_grease_33 : decode cX10_grease 33 = .ok (.istore_n 2, 1) := by decide +kernel
theorem dX10_grease_34 : decode cX10_grease 34 = .ok (.aload_n 0, 1) := by decide +kernel
theorem dX10_grease_35 : decode cX10_grease 35 = .ok (.getfield 36, 3) := by decide +kernel
theorem dX10_grease_38 : decode cX10_grease 38 = .ok (.getfield 130, 3) := by decide +kernel
theorem dX10_grease_41 : decode cX10_grease 41 = .ok (.iload_n 1, 1) := by decide +kernel
theorem dX10_grease_42 : decode cX10_grease 42 = .ok (.iconst 1, 1) := by decide +kernel
theorem dX10_grease_43 : decode cX10_grease 43 = .ok (.iastore, 1) := by decide +kernel
theorem dX10_grease_44 : decode cX10_grease 44 = .ok (.iload_n 2, 1) := by decide +kernel
theorem dX10_grease_45 : decode cX10_grease 45 = .ok (.ireturn, 1) := by decide +kernel
theorem dX10_undo_0 : decode cX10_undo 0 = .ok (.aload_n 0, 1) := by decide +kernel
theorem dX10_undo_1 : decode cX10_undo 1 = .ok (.getfield 45, 3) := by decide +kernel
theorem dX10_undo_4 : decode cX10_undo 4 = .ok (.invokevirtual 167, 3) := by decide +kernel
theorem dX10_undo_7 : decode cX10_undo 7 = .ok (.ifCond .ne 6, 3) := by decide +kernel
theorem dX10_undo_10 : decode cX10_undo 10 = .ok (.bipush (-2), 2) := by decide +kernel
theorem dX10_undo_12 : decode cX10_undo 12 = .ok (.ireturn, 1) := by decide +kernel
theorem dX10_undo_13 : decode cX10_undo 13 = .ok (.aload_n 0, 1) := by decide +kernel
theorem dX10_undo_14 : decode cX10_undo 14 = .ok (.getfield 45, 3) := by decide +kernel
theorem dX10_undo_17 : decode cX10_undo 17 = .ok (.aload_n 0, 1) := by decide +kernel
theorem dX10_undo_18 : decode cX10_undo 18 = .ok (.getfield 36, 3) := by decide +kernel
theorem dX10_undo_21 : decode cX10_undo 21 = .ok (.invokevirtual 170, 3) := by decide +kernel
theorem dX10_undo_24 : decode cX10_undo 24 = .ok (.aload_n 0, 1) := by decide +kernel
theorem dX10_undo_25 : decode cX10_undo 25 = .ok (.getfield 45, 3) := by decide +kernel
theorem dX10_undo_28 : decode cX10_undo 28 = .ok (.invokevirtual 167, 3) := by decide +kernel
theorem dX10_undo_31 : decode cX10_undo 31 = .ok (.ireturn, 1) := by decide +kernel
theorem dX10_met_0 : decode cX10_met 0 = .ok (.aload_n 0, 1) := by decide +kernel
theorem dX10_met_1 : decode cX10_met 1 = .ok (.getfield 26, 3) := by decide +kernel
theorem dX10_met_4 : decode cX10_met 4 = .ok (.aload_n 0, 1) := by decide +kernel
theorem dX10_met_5 : decode cX10_met 5 = .ok (.getfield 36, 3) := by decide +kernel
theorem dX10_met_8 : decode cX10_met 8 = .ok (.getfield 133, 3) := by decide +kernel
theorem dX10_met_11 : decode cX10_met 11 = .ok (.invokevirtual 173, 3) := by decide +kernel
theorem dX10_met_14 : decode cX10_met 14 = .ok (.ireturn, 1) := by decide +kernel
theorem dX10_noon_0 : decode cX10_noon 0 = .ok (.iconst 0, 1) := by decide +kernel
theorem dX10_noon_1 : decode cX10_noon 1 = .ok (.istore_n 1, 1) := by decide +kernel
theorem dX10_noon_2 : decode cX10_noon 2 = .ok (.iload_n 1, 1) := by decide +kernel
theorem dX10_noon_3 : decode cX10_noon 3 = .ok (.bipush 24, 2) := by decide +kernel
theorem dX10_noon_5 : decode cX10_noon 5 = .ok (.if_icmp .ge 29, 3) := by decide +kernel
theorem dX10_noon_8 : decode cX10_noon 8 = .ok (.aload_n 0, 1) := by decide +kernel
theorem dX10_noon_9 : decode cX10_noon 9 = .ok (.getfield 26, 3) := by decide +kernel
theorem dX10_noon_12 : decode cX10_noon 12 = .ok (.aload_n 0, 1) := by decide +kernel
theorem dX10_noon_13 : decode cX10_noon 13 = .ok (.getfield 36, 3) := by decide +kernel
theorem dX10_noon_16 : decode cX10_noon 16 = .ok (.getfield 133, 3) := by decide +kernel
theorem dX10_noon_19 : decode cX10_noon 19 = .ok (.iload_n 1, 1) := by decide +kernel
theorem dX10_noon_20 : decode cX10_noon 20 = .ok (.invokevirtual 143, 3) := by decide +kernel
theorem dX10_noon_23 : decode cX10_noon 23 = .ok (.ifCond .ne 5, 3) := by decide +kernel
theorem dX10_noon_26 : decode cX10_noon 26 = .ok (.iload_n 1, 1) := by decide +kernel
theorem dX10_noon_27 : decode cX10_noon 27 = .ok (.ireturn, 1) := by decide +kernel
theorem dX10_noon_28 : decode cX10_noon 28 = .ok (.iinc 1 1, 3) := by decide +kernel
theorem dX10_noon_31 : decode cX10_noon 31 = .ok (.goto (-29), 3) := by decide +kernel
theorem dX10_noon_34 : decode cX10_noon 34 = .ok (.bipush (-4), 2) := by decide +kernel
theorem dX10_noon_36 : decode cX10_noon 36 = .ok (.ireturn, 1) := by decide +kernel
theorem dX10_soon_0 : decode cX10_soon 0 = .ok (.iload_n 1, 1) := by decide +kernel
theorem dX10_soon_1 : decode cX10_soon 1 = .ok (.invokestatic 136, 3) := by decide +kernel
theorem dX10_soon_4 : decode cX10_soon 4 = .ok (.ifCond .eq 10, 3) := by decide +kernel
theorem dX10_soon_7 : decode cX10_soon 7 = .ok (.iload_n 2, 1) := by decide +kernel
theorem dX10_soon_8 : decode cX10_soon 8 = .ok (.invokestatic 177, 3) := by decide +kernel
theorem dX10_soon_11 : decode cX10_soon 11 = .ok (.ifCond .ne 5, 3) := by decide +kernel
theorem dX10_soon_14 : decode cX10_soon 14 = .ok (.iconst (-1), 1) := by decide +kernel
theorem dX10_soon_15 : decode cX10_soon 15 = .ok (.ireturn, 1) := by decide +kernel
theorem dX10_soon_16 : decode cX10_soon 16 = .ok (.aload_n 0, 1) := by decide +kernel
theorem dX10_soon_17 : decode cX10_soon 17 = .ok (.getfield 55, 3) := by decide +kernel
theorem dX10_soon_20 : decode cX10_soon 20 = .ok (.aload_n 0, 1) := by decide +kernel
theorem dX10_soon_21 : decode cX10_soon 21 = .ok (.getfield 26, 3) := by decide +kernel
theorem dX10_soon_24 : decode cX10_soon 24 = .ok (.aload_n 0, 1) := by decide +kernel
theorem dX10_soon_25 : decode cX10_soon 25 = .ok (.getfield 36, 3) := by decide +kernel
theorem dX10_soon_28 : decode cX10_soon 28 = .ok (.iload_n 1, 1) := by decide +kernel
theorem dX10_soon_29 : decode cX10_soon 29 = .ok (.iload_n 2, 1) := by decide +kernel
theorem dX10_soon_30 : decode cX10_soon 30 = .ok (.invokevirtual 180, 3) := by decide +kernel
theorem dX10_soon_33 : decode cX10_soon 33 = .ok (.ireturn, 1) := by decide +kernel
theorem dX10_plan_0 : decode cX10_plan 0 = .ok (.iload_n 1, 1) := by decide +kernel
theorem dX10_plan_1 : decode cX10_plan 1 = .ok (.iconst (-1), 1) := by decide +kernel
theorem dX10_plan_2 : decode cX10_plan 2 = .ok (.if_icmp .eq 16, 3) := by decide +kernel
theorem dX10_plan_5 : decode cX10_plan 5 = .ok (.aload_n 0, 1) := by decide +kernel
theorem dX10_plan_6 : decode cX10_plan 6 = .ok (.getfield 26, 3) := by decide +kernel
theorem dX10_plan_9 : decode cX10_plan 9 = .ok (.iload_n 1, 1) := by decide +kernel
theorem dX10_plan_10 : decode cX10_plan 10 = .ok (.invokevirtual 119, 3) := by decide +kernel
theorem dX10_plan_13 : decode cX10_plan 13 = .ok (.ifCond .ne 5, 3) := by decide +kernel
theorem dX10_plan_16 : decode cX10_plan 16 = .ok (.iconst (-1), 1) := by decide +kernel
theorem dX10_plan_17 : decode cX10_plan 17 = .ok (.ireturn, 1) := by decide +kernel
theorem dX10_plan_18 : decode cX10_plan 18 = .ok (.aload_n 0, 1) := by decide +kernel
theorem dX10_plan_19 : decode cX10_plan 19 = .ok (.getfield 62, 3) := by decide +kernel
theorem dX10_plan_22 : decode cX10_plan 22 = .ok (.aload_n 0, 1) := by decide +kernel
theorem dX10_plan_23 : decode cX10_plan 23 = .ok (.getfield 26, 3) := by decide +kernel
theorem dX10_plan_26 : decode cX10_plan 26 = .ok (.aload_n 0, 1) := by decide +kernel
theorem dX10_plan_27 : decode cX10_plan 27 = .ok (.getfield 36, 3) := by decide +kernel
theorem dX10_plan_30 : decode cX10_plan 30 = .ok (.invokevirtual 184, 3) := by decide +kernel
theorem dX10_plan_33 : decode cX10_plan 33 = .ok (.aload_n 0, 1) := by decide +kernel
theorem dX10_plan_34 : decode cX10_plan 34 = .ok (.getfield 62, 3) := by decide +kernel
theorem dX10_plan_37 : decode cX10_plan 37 = .ok (.getfield 188, 3) := by decide +kernel
theorem dX10_plan_40 : decode cX10_plan 40 = .ok (.bipush (-4), 2) := by decide +kernel
theorem dX10_plan_42 : decode cX10_plan 42 = .ok (.if_icmp .ne 6, 3) := by decide +kernel
theorem dX10_plan_45 : decode cX10_plan 45 = .ok (.bipush (-4), 2) := by decide +kernel
theorem dX10_plan_47 : decode cX10_plan 47 = .ok (.ireturn, 1) := by decide +kernel
theorem dX10_plan_48 : decode cX10_plan 48 = .ok (.iload_n 1, 1) := by decide +kernel
theorem dX10_plan_49 : decode cX10_plan 49 = .ok (.iconst (-1), 1) := by decide +kernel
theorem dX10_plan_50 : decode cX10_plan 50 = .ok (.if_icmp .ne 13, 3) := by decide +kernel
theorem dX10_plan_53 : decode cX10_plan 53 = .ok (.aload_n 0, 1) := by decide +kernel
theorem dX10_plan_54 : decode cX10_plan 54 = .ok (.getfield 62, 3) := by decide +kernel
theorem dX10_plan_57 : decode cX10_plan 57 = .ok (.getfield 188, 3) := by decide +kernel
theorem dX10_plan_60 : decode cX10_plan 60 = .ok (.goto 12, 3) := by decide +kernel
theorem dX10_plan_63 : decode cX10_plan 63 = .ok (.aload_n 0, 1) := by decide +kernel
theorem dX10_plan_64 : decode cX10_plan 64 = .ok (.getfield 62, 3) := by decide +kernel
theorem dX10_plan_67 : decode cX10_plan 67 = .ok (.getfield 191, 3) := by decide +kernel
theorem dX10_plan_70 : decode cX10_plan 70 = .ok (.iload_n 1, 1) := by decide +kernel
theorem dX10_plan_71 : decode cX10_plan 71 = .ok (.iaload, 1) := by decide +kernel
theorem dX10_plan_72 : decode cX10_plan 72 = .ok (.ireturn, 1) := by decide +kernel
theorem dX10_best_0 : decode cX10_best 0 = .ok (.iload_n 1, 1) := by decide +kernel
theorem dX10_best_1 : decode cX10_best 1 = .ok (.iconst 1, 1) := by decide +kernel
theorem dX10_best_2 : decode cX10_best 2 = .ok (.if_icmp .lt 18, 3) := by decide +kernel
theorem dX10_best_5 : decode cX10_best 5 = .ok (.iload_n 1, 1) := by decide +kernel
theorem dX10_best_6 : decode cX10_best 6 = .ok (.bipush 12, 2) := by decide +kernel
theorem dX10_best_8 : decode cX10_best 8 = .ok (.if_icmp .gt 12, 3) := by decide +kernel
theorem dX10_best_11 : decode cX10_best 11 = .ok (.iload_n 2, 1) := by decide +kernel
theorem dX10_best_12 : decode cX10_best 12 = .ok (.ifCond .lt 8, 3) := by decide +kernel
theorem dX10_best_15 : decode cX10_best 15 = .ok (.iload_n 2, 1) := by decide +kernel
theorem dX10_best_16 : decode cX10_best 16 = .ok (.iconst 1, 1) := by decide +kernel
theorem dX10_best_17 : decode cX10_best 17 = .ok (.if_icmp .le 5, 3) := by decide +kernel
theorem dX10_best_20 : decode cX10_best 20 = .ok (.iconst (-1), 1) := by decide +kernel
theorem dX10_best_21 : decode cX10_best 21 = .ok (.ireturn, 1) := by decide +kernel
theorem dX10_best_22 : decode cX10_best 22 = .ok (.iconst 0, 1) := by decide +kernel
theorem dX10_best_23 : decode cX10_best 23 = .ok (.istore_n 3, 1) := by decide +kernel
theorem dX10_best_24 : decode cX10_best 24 = .ok (.iconst (-1), 1) := by decide +kernel
theorem dX10_best_25 : decode cX10_best 25 = .ok (.istore 4, 2) := by decide +kernel
theorem dX10_best_27 : decode cX10_best 27 = .ok (.iconst 0, 1) := by decide +kernel
theorem dX10_best_28 : decode cX10_best 28 = .ok (.istore 5, 2) := by decide +kernel
theorem dX10_best_30 : decode cX10_best 30 = .ok (.iload 5, 2) := by decide +kernel
theorem dX10_best_32 : decode cX10_best 32 = .ok (.aload_n 0, 1) := by decide +kernel
theorem dX10_best_33 : decode cX10_best 33 = .ok (.getfield 26, 3) := by decide +kernel
theorem dX10_best_36 : decode cX10_best 36 = .ok (.getfield 109, 3) := by decide +kernel
theorem dX10_best_39 : decode cX10_best 39 = .ok (.if_icmp .ge 43, 3) := by decide +kernel
theorem dX10_best_42 : decode cX10_best 42 = .ok (.aload_n 0, 1) := by decide +kernel
theorem dX10_best_43 : decode cX10_best 43 = .ok (.getfield 55, 3) := by decide +kernel
theorem dX10_best_46 : decode cX10_best 46 = .ok (.aload_n 0, 1) := by decide +kernel
theorem dX10_best_47 : decode cX10_best 47 = .ok (.getfield 26, 3) := by decide +kernel
theorem dX10_best_50 : decode cX10_best 50 = .ok (.aload_n 0, 1) := by decide +kernel
theorem dX10_best_51 : decode cX10_best 51 = .ok (.getfield 36, 3) := by decide +kernel
theorem dX10_best_54 : decode cX10_best 54 = .ok (.iload 5, 2) := by decide +kernel
theorem dX10_best_56 : decode cX10_best 56 = .ok (.iload_n 1, 1) := by decide +kernel
theorem dX10_best_57 : decode cX10_best 57 = .ok (.invokevirtual 194, 3) := by decide +kernel
theorem dX10_best_60 : decode cX10_best 60 = .ok (.istore 6, 2) := by decide +kernel
theorem dX10_best_62 : decode cX10_best 62 = .ok (.iload 6, 2) := by decide +kernel
theorem dX10_best_64 : decode cX10_best 64 = .ok (.iload 4, 2) := by decide +kernel
theorem dX10_best_66 : decode cX10_best 66 = .ok (.if_icmp .le 10, 3) := by decide +kernel
theorem dX10_best_69 : decode cX10_best 69 = .ok (.iload 6, 2) := by decide +kernel
theorem dX10_best_71 : decode cX10_best 71 = .ok (.istore 4, 2) := by decide +kernel
theorem dX10_best_73 : decode cX10_best 73 = .ok (.iload 5, 2) := by decide +kernel
theorem dX10_best_75 : decode cX10_best 75 = .ok (.istore_n 3, 1) := by decide +kernel
theorem dX10_best_76 : decode cX10_best 76 = .ok (.iinc 5 1, 3) := by decide +kernel
theorem dX10_best_79 : decode cX10_best 79 = .ok (.goto (-49), 3) := by decide +kernel
theorem dX10_best_82 : decode cX10_best 82 = .ok (.iload_n 2, 1) := by decide +kernel
theorem dX10_best_83 : decode cX10_best 83 = .ok (.ifCond .ne 7, 3) := by decide +kernel
theorem dX10_best_86 : decode cX10_best 86 = .ok (.iload_n 3, 1) := by decide +kernel
theorem dX10_best_87 : decode cX10_best 87 = .ok (.goto 5, 3) := by decide +kernel
theorem dX10_best_90 : decode cX10_best 90 = .ok (.iload 4, 2) := by decide +kernel
theorem dX10_best_92 : decode cX10_best 92 = .ok (.ireturn, 1) := by decide +kernel
theorem dX10_posts_0 : decode cX10_posts 0 = .ok (.iload_n 1, 1) := by decide +kernel
theorem dX10_posts_1 : decode cX10_posts 1 = .ok (.iconst (-1), 1) := by decide +kernel
theorem dX10_posts_2 : decode cX10_posts 2 = .ok (.if_icmp .eq 16, 3) := by decide +kernel
theorem dX10_posts_5 : decode cX10_posts 5 = .ok (.aload_n 0, 1) := by decide +kernel
theorem dX10_posts_6 : decode cX10_posts 6 = .ok (.getfield 26, 3) := by decide +kernel
theorem dX10_posts_9 : decode cX10_posts 9 = .ok (.iload_n 1, 1) := by decide +kernel
theorem dX10_posts_10 : decode cX10_posts 10 = .ok (.invokevirtual 119, 3) := by decide +kernel
theorem dX10_posts_13 : decode cX10_posts 13 = .ok (.ifCond .ne 5, 3) := by decide +kernel
theorem dX10_posts_16 : decode cX10_posts 16 = .ok (.iconst (-1), 1) := by decide +kernel
theorem dX10_posts_17 : decode cX10_posts 17 = .ok (.ireturn, 1) := by decide +kernel
theorem dX10_posts_18 : decode cX10_posts 18 = .ok (.aload_n 0, 1) := by decide +kernel
theorem dX10_posts_19 : decode cX10_posts 19 = .ok (.getfield 69, 3) := by decide +kernel
theorem dX10_posts_22 : decode cX10_posts 22 = .ok (.aload_n 0, 1) := by decide +kernel
theorem dX10_posts_23 : decode cX10_posts 23 = .ok (.getfield 26, 3) := by decide +kernel
theorem dX10_posts_26 : decode cX10_posts 26 = .ok (.invokevirtual 197, 3) := by decide +kernel
theorem dX10_posts_29 : decode cX10_posts 29 = .ok (.aload_n 0, 1) := by decide +kernel
theorem dX10_posts_30 : decode cX10_posts 30 = .ok (.getfield 69, 3) := by decide +kernel
theorem dX10_posts_33 : decode cX10_posts 33 = .ok (.getfield 199, 3) := by decide +kernel
theorem dX10_posts_36 : decode cX10_posts 36 = .ok (.bipush (-4), 2) := by decide +kernel
theorem dX10_posts_38 : decode cX10_posts 38 = .ok (.if_icmp .ne 6, 3) := by decide +kernel
theorem dX10_posts_41 : decode cX10_posts 41 = .ok (.bipush (-4), 2) := by decide +kernel
theorem dX10_posts_43 : decode cX10_posts 43 = .ok (.ireturn, 1) := by decide +kernel
theorem dX10_posts_44 : decode cX10_posts 44 = .ok (.iload_n 1, 1) := by decide +kernel
theorem dX10_posts_45 : decode cX10_posts 45 = .ok (.iconst (-1), 1) := by decide +kernel
theorem dX10_posts_46 : decode cX10_posts 46 = .ok (.if_icmp .ne 13, 3) := by decide +kernel
theorem dX10_posts_49 : decode cX10_posts 49 = .ok (.aload_n 0, 1) := by decide +kernel
theorem dX10_posts_50 : decode cX10_posts 50 = .ok (.getfield 69, 3) := by decide +kernel
theorem dX10_posts_53 : decode cX10_posts 53 = .ok (.getfield 199, 3) := by decide +kernel
theorem dX10_posts_56 : decode cX10_posts 56 = .ok (.goto 12, 3) := by decide +kernel
theorem dX10_posts_59 : decode cX10_posts 59 = .ok (.aload_n 0, 1) := by decide +kernel
theorem dX10_posts_60 : decode cX10_posts 60 = .ok (.getfield 69, 3) := by decide +kernel
theorem dX10_posts_63 : decode cX10_posts 63 = .ok (.getfield 200, 3) := by decide +kernel
theorem dX10_posts_66 : decode cX10_posts 66 = .ok (.iload_n 1, 1) := by decide +kernel
theorem dX10_posts_67 : decode cX10_posts 67 = .ok (.iaload, 1) := by decide +kernel
theorem dX10_posts_68 : decode cX10_posts 68 = .ok (.ireturn, 1) := by decide +kernel
theorem dX10_brown_0 : decode cX10_brown 0 = .ok (.iload_n 1, 1) := by decide +kernel
theorem dX10_brown_1 : decode cX10_brown 1 = .ok (.ifCond .lt 8, 3) := by decide +kernel
theorem dX10_brown_4 : decode cX10_brown 4 = .ok (.iload_n 1, 1) := by decide +kernel
theorem dX10_brown_5 : decode cX10_brown 5 = .ok (.iconst 2, 1) := by decide +kernel
theorem dX10_brown_6 : decode cX10_brown 6 = .ok (.if_icmp .le 5, 3) := by decide +kernel
theorem dX10_brown_9 : decode cX10_brown 9 = .ok (.iconst (-1), 1) := by decide +kernel
theorem dX10_brown_10 : decode cX10_brown 10 = .ok (.ireturn, 1) := by decide +kernel
theorem dX10_brown_11 : decode cX10_brown 11 = .ok (.iconst 0, 1) := by decide +kernel
theorem dX10_brown_12 : decode cX10_brown 12 = .ok (.istore_n 2, 1) := by decide +kernel
theorem dX10_brown_13 : decode cX10_brown 13 = .ok (.iconst 0, 1) := by decide +kernel
theorem dX10_brown_14 : decode cX10_brown 14 = .ok (.istore_n 3, 1) := by decide +kernel
theorem dX10_brown_15 : decode cX10_brown 15 = .ok (.iconst 0, 1) := by decide +kernel
theorem dX10_brown_16 : decode cX10_brown 16 = .ok (.istore 4, 2) := by decide +kernel
theorem dX10_brown_18 : decode cX10_brown 18 = .ok (.bipush (-4), 2) := by decide +kernel
theorem dX10_brown_20 : decode cX10_brown 20 = .ok (.istore 5, 2) := by decide +kernel
theorem dX10_brown_22 : decode cX10_brown 22 = .ok (.iconst 0, 1) := by decide +kernel
theorem dX10_brown_23 : decode cX10_brown 23 = .ok (.istore 6, 2) := by decide +kernel
theorem dX10_brown_25 : decode cX10_brown 25 = .ok (.iload 6, 2) := by decide +kernel
theorem dX10_brown_27 : decode cX10_brown 27 = .ok (.bipush 24, 2) := by decide +kernel
theorem dX10_brown_29 : decode cX10_brown 29 = .ok (.if_icmp .ge 57, 3) := by decide +kernel
theorem dX10_brown_32 : decode cX10_brown 32 = .ok (.aload_n 0, 1) := by decide +kernel
theorem dX10_brown_33 : decode cX10_brown 33 = .ok (.getfield 26, 3) := by decide +kernel
theorem dX10_brown_36 : decode cX10_brown 36 = .ok (.aload_n 0, 1) := by decide +kernel
theorem dX10_brown_37 : decode cX10_brown 37 = .ok (.getfield 36, 3) := by decide +kernel
theorem dX10_brown_40 : decode cX10_brown 40 = .ok (.getfield 133, 3) := by decide +kernel
theorem dX10_brown_43 : decode cX10_brown 43 = .ok (.iload 6, 2) := by decide +kernel
theorem dX10_brown_45 : decode cX10_brown 45 = .ok (.invokevirtual 143, 3) := by decide +kernel
theorem dX10_brown_48 : decode cX10_brown 48 = .ok (.iconst 2, 1) := by decide +kernel
theorem dX10_brown_49 : decode cX10_brown 49 = .ok (.if_icmp .ne 12, 3) := by decide +kernel
theorem dX10_brown_52 : decode cX10_brown 52 = .ok (.iinc 2 1, 3) := by decide +kernel
theorem dX10_brown_55 : decode cX10_brown 55 = .ok (.iinc 3 1, 3) := by decide +kernel
theorem dX10_brown_58 : decode cX10_brown 58 = .ok (.goto 5, 3) := by decide +kernel
theorem dX10_brown_61 : decode cX10_brown 61 = .ok (.iconst 0, 1) := by decide +kernel
theorem dX10_brown_62 : decode cX10_brown 62 = .ok (.istore_n 3, 1) := by decide +kernel
theorem dX10_brown_63 : decode cX10_brown 63 = .ok (.iload_n 3, 1) := by decide +kernel
theorem dX10_brown_64 : decode cX10_brown 64 = .ok (.iload 4, 2) := by decide +kernel
theorem dX10_brown_66 : decode cX10_brown 66 = .ok (.if_icmp .le 14, 3) := by decide +kernel
theorem dX10_brown_69 : decode cX10_brown 69 = .ok (.iload_n 3, 1) := by decide +kernel
theorem dX10_brown_70 : decode cX10_brown 70 = .ok (.istore 4, 2) := by decide +kernel
theorem dX10_brown_72 : decode cX10_brown 72 = .ok (.iload 6, 2) := by decide +kernel
theorem dX10_brown_74 : decode cX10_brown 74 = .ok (.iload_n 3, 1) := by decide +kernel
theorem dX10_brown_75 : decode cX10_brown 75 = .ok (.isub, 1) := by decide +kernel
theorem dX10_brown_76 : decode cX10_brown 76 = .ok (.iconst 1, 1) := by decide +kernel
theorem dX10_brown_77 : decode cX10_brown 77 = .ok (.iadd, 1) := by decide +kernel
theorem dX10_brown_78 : decode cX10_brown 78 = .ok (.istore 5, 2) := by decide +kernel
theorem dX10_brown_80 : decode cX10_brown 80 = .ok (.iinc 6 1, 3) := by decide +kernel
theorem dX10_brown_83 : decode cX10_brown 83 = .ok (.goto (-58), 3) := by decide +kernel
theorem dX10_brown_86 : decode cX10_brown 86 = .ok (.iload_n 1, 1) := by decide +kernel
theorem dX10_brown_87 : decode cX10_brown 87 = .ok (.ifCond .ne 5, 3) := by decide +kernel
theorem dX10_brown_90 : decode cX10_brown 90 = .ok (.iload_n 2, 1) := by decide +kernel
theorem dX10_brown_91 : decode cX10_brown 91 = .ok (.ireturn, 1) := by decide +kernel
theorem dX10_brown_92 : decode cX10_brown 92 = .ok (.iload_n 1, 1) := by decide +kernel
theorem dX10_brown_93 : decode cX10_brown 93 = .ok (.iconst 1, 1) := by decide +kernel
theorem dX10_brown_94 : decode cX10_brown 94 = .ok (.if_icmp .ne 8, 3) := by decide +kernel
theorem dX10_brown_97 : decode cX10_brown 97 = .ok (.iload 4, 2) := by decide +kernel
theorem dX10_brown_99 : decode cX10_brown 99 = .ok (.goto 5, 3) := by decide +kernel
theorem dX10_brown_102 : decode cX10_brown 102 = .ok (.iload 5, 2) := by decide +kernel
theorem dX10_brown_104 : decode cX10_brown 104 = .ok (.ireturn, 1) := by decide +kernel
theorem dX10_seen_0 : decode cX10_seen 0 = .ok (.iload_n 1, 1) := by decide +kernel
theorem dX10_seen_1 : decode cX10_seen 1 = .ok (.invokestatic 136, 3) := by decide +kernel
theorem dX10_seen_4 : decode cX10_seen 4 = .ok (.ifCond .eq 10, 3) := by decide +kernel
theorem dX10_seen_7 : decode cX10_seen 7 = .ok (.iload_n 2, 1) := by decide +kernel
theorem dX10_seen_8 : decode cX10_seen 8 = .ok (.invokestatic 203, 3) := by decide +kernel
theorem dX10_seen_11 : decode cX10_seen 11 = .ok (.ifCond .ne 5, 3) := by decide +kernel
theorem dX10_seen_14 : decode cX10_seen 14 = .ok (.iconst (-1), 1) := by decide +kernel
theorem dX10_seen_15 : decode cX10_seen 15 = .ok (.ireturn, 1) := by decide +kernel
theorem dX10_seen_16 : decode cX10_seen 16 = .ok (.aload_n 0, 1) := by decide +kernel
theorem dX10_seen_17 : decode cX10_seen 17 = .ok (.getfield 76, 3) := by decide +kernel
theorem dX10_seen_20 : decode cX10_seen 20 = .ok (.invokevirtual 206, 3) := by decide +kernel
theorem dX10_seen_23 : decode cX10_seen 23 = .ok (.ifCond .eq 6, 3) := by decide +kernel
theorem dX10_seen_26 : decode cX10_seen 26 = .ok (.bipush (-3), 2) := by decide +kernel
theorem dX10_seen_28 : decode cX10_seen 28 = .ok (.ireturn, 1) := by decide +kernel
theorem dX10_seen_29 : decode cX10_seen 29 = .ok (.aload_n 0, 1) := by decide +kernel
theorem dX10_seen_30 : decode cX10_seen 30 = .ok (.getfield 76, 3) := by decide +kernel
theorem dX10_seen_33 : decode cX10_seen 33 = .ok (.iload_n 1, 1) := by decide +kernel
theorem dX10_seen_34 : decode cX10_seen 34 = .ok (.iload_n 2, 1) := by decide +kernel
theorem dX10_seen_35 : decode cX10_seen 35 = .ok (.invokevirtual 207, 3) := by decide +kernel
theorem dX10_seen_38 : decode cX10_seen 38 = .ok (.aload_n 0, 1) := by decide +kernel
theorem dX10_seen_39 : decode cX10_seen 39 = .ok (.getfield 76, 3) := by decide +kernel
theorem dX10_seen_42 : decode cX10_seen 42 = .ok (.invokevirtual 210, 3) := by decide +kernel
theorem dX10_seen_45 : decode cX10_seen 45 = .ok (.ireturn, 1) := by decide +kernel
theorem dX10_forget_0 : decode cX10_forget 0 = .ok (.aload_n 0, 1) := by decide +kernel
theorem dX10_forget_1 : decode cX10_forget 1 = .ok (.getfield 76, 3) := by decide +kernel
theorem dX10_forget_4 : decode cX10_forget 4 = .ok (.invokevirtual 210, 3) := by decide +kernel
theorem dX10_forget_7 : decode cX10_forget 7 = .ok (.istore_n 1, 1) := by decide +kernel
theorem dX10_forget_8 : decode cX10_forget 8 = .ok (.aload_n 0, 1) := by decide +kernel
theorem dX10_forget_9 : decode cX10_forget 9 = .ok (.getfield 76, 3) := by decide +kernel
theorem dX10_forget_12 : decode cX10_forget 12 = .ok (.invokevirtual 118, 3) := by decide +kernel
theorem dX10_forget_15 : decode cX10_forget 15 = .ok (.iload_n 1, 1) := by decide +kernel
theorem dX10_forget_16 : decode cX10_forget 16 = .ok (.ireturn, 1) := by decide +kernel
theorem dX10_slipped_0 : decode cX10_slipped 0 = .ok (.iload_n 1, 1) := by decide +kernel
theorem dX10_slipped_1 : decode cX10_slipped 1 = .ok (.ifCond .lt 8, 3) := by decide +kernel
theorem dX10_slipped_4 : decode cX10_slipped 4 = .ok (.iload_n 1, 1) := by decide +kernel
theorem dX10_slipped_5 : decode cX10_slipped 5 = .ok (.iconst 1, 1) := by decide +kernel
theorem dX10_slipped_6 : decode cX10_slipped 6 = .ok (.if_icmp .le 5, 3) := by decide +kernel
theorem dX10_slipped_9 : decode cX10_slipped 9 = .ok (.iconst (-1), 1) := by decide +kernel
theorem dX10_slipped_10 : decode cX10_slipped 10 = .ok (.ireturn, 1) := by decide +kernel
theorem dX10_slipped_11 : decode cX10_slipped 11 = .ok (.aload_n 0, 1) := by decide +kernel
theorem dX10_slipped_12 : decode cX10_slipped 12 = .ok (.getfield 76, 3) := by decide +kernel
theorem dX10_slipped_15 : decode cX10_slipped 15 = .ok (.aload_n 0, 1) := by decide +kernel
theorem dX10_slipped_16 : decode cX10_slipped 16 = .ok (.getfield 26, 3) := by decide +kernel
theorem dX10_slipped_19 : decode cX10_slipped 19 = .ok (.aload_n 0, 1) := by decide +kernel
theorem dX10_slipped_20 : decode cX10_slipped 20 = .ok (.getfield 36, 3) := by decide +kernel
theorem dX10_slipped_23 : decode cX10_slipped 23 = .ok (.getfield 133, 3) := by decide +kernel
theorem dX10_slipped_26 : decode cX10_slipped 26 = .ok (.invokevirtual 211, 3) := by decide +kernel
theorem dX10_slipped_29 : decode cX10_slipped 29 = .ok (.iload_n 1, 1) := by decide +kernel
theorem dX10_slipped_30 : decode cX10_slipped 30 = .ok (.ifCond .ne 11, 3) := by decide +kernel
theorem dX10_slipped_33 : decode cX10_slipped 33 = .ok (.aload_n 0, 1) := by decide +kernel
theorem dX10_slipped_34 : decode cX10_slipped 34 = .ok (.getfield 76, 3) := by decide +kernel
theorem dX10_slipped_37 : decode cX10_slipped 37 = .ok (.getfield 215, 3) := by decide +kernel
theorem dX10_slipped_40 : decode cX10_slipped 40 = .ok (.ireturn, 1) := by decide +kernel
theorem dX10_slipped_41 : decode cX10_slipped 41 = .ok (.aload_n 0, 1) := by decide +kernel
theorem dX10_slipped_42 : decode cX10_slipped 42 = .ok (.getfield 76, 3) := by decide +kernel
theorem dX10_slipped_45 : decode cX10_slipped 45 = .ok (.getfield 215, 3) := by decide +kernel
theorem dX10_slipped_48 : decode cX10_slipped 48 = .ok (.ifCond .ne 8, 3) := by decide +kernel
theorem dX10_slipped_51 : decode cX10_slipped 51 = .ok (.bipush (-4), 2) := by decide +kernel
theorem dX10_slipped_53 : decode cX10_slipped 53 = .ok (.goto 12, 3) := by decide +kernel
theorem dX10_slipped_56 : decode cX10_slipped 56 = .ok (.aload_n 0, 1) := by decide +kernel
theorem dX10_slipped_57 : decode cX10_slipped 57 = .ok (.getfield 76, 3) := by decide +kernel
theorem dX10_slipped_60 : decode cX10_slipped 60 = .ok (.getfield 218, 3) := by decide +kernel
theorem dX10_slipped_63 : decode cX10_slipped 63 = .ok (.iconst 0, 1) := by decide +kernel
theorem dX10_slipped_64 : decode cX10_slipped 64 = .ok (.iaload, 1) := by decide +kernel
theorem dX10_slipped_65 : decode cX10_slipped 65 = .ok (.ireturn, 1) := by decide +kernel
theorem dX10_look_0 : decode cX10_look 0 = .ok (.iload_n 1, 1) := by decide +kernel
theorem dX10_look_1 : decode cX10_look 1 = .ok (.ifCond .lt 8, 3) := by decide +kernel
theorem dX10_look_4 : decode cX10_look 4 = .ok (.iload_n 1, 1) := by decide +kernel
theorem dX10_look_5 : decode cX10_look 5 = .ok (.iconst 1, 1) := by decide +kernel
theorem dX10_look_6 : decode cX10_look 6 = .ok (.if_icmp .le 5, 3) := by decide +kernel
theorem dX10_look_9 : decode cX10_look 9 = .ok (.iconst (-1), 1) := by decide +kernel
theorem dX10_look_10 : decode cX10_look 10 = .ok (.ireturn, 1) := by decide +kernel
theorem dX10_look_11 : decode cX10_look 11 = .ok (.aload_n 0, 1) := by decide +kernel
theorem dX10_look_12 : decode cX10_look 12 = .ok (.getfield 76, 3) := by decide +kernel
theorem dX10_look_15 : decode cX10_look 15 = .ok (.aload_n 0, 1) := by decide +kernel
theorem dX10_look_16 : decode cX10_look 16 = .ok (.getfield 26, 3) := by decide +kernel
theorem dX10_look_19 : decode cX10_look 19 = .ok (.aload_n 0, 1) := by decide +kernel
theorem dX10_look_20 : decode cX10_look 20 = .ok (.getfield 36, 3) := by decide +kernel
theorem dX10_look_23 : decode cX10_look 23 = .ok (.getfield 133, 3) := by decide +kernel
theorem dX10_look_26 : decode cX10_look 26 = .ok (.invokevirtual 211, 3) := by decide +kernel
theorem dX10_look_29 : decode cX10_look 29 = .ok (.aload_n 0, 1) := by decide +kernel
theorem dX10_look_30 : decode cX10_look 30 = .ok (.getfield 76, 3) := by decide +kernel
theorem dX10_look_33 : decode cX10_look 33 = .ok (.getfield 215, 3) := by decide +kernel
theorem dX10_look_36 : decode cX10_look 36 = .ok (.ifCond .ne 6, 3) := by decide +kernel
theorem dX10_look_39 : decode cX10_look 39 = .ok (.bipush (-4), 2) := by decide +kernel
theorem dX10_look_41 : decode cX10_look 41 = .ok (.ireturn, 1) := by decide +kernel
theorem dX10_look_42 : decode cX10_look 42 = .ok (.iconst 0, 1) := by decide +kernel
theorem dX10_look_43 : decode cX10_look 43 = .ok (.istore_n 2, 1) := by decide +kernel
theorem dX10_look_44 : decode cX10_look 44 = .ok (.aload_n 0, 1) := by decide +kernel
theorem dX10_look_45 : decode cX10_look 45 = .ok (.getfield 76, 3) := by decide +kernel
theorem dX10_look_48 : decode cX10_look 48 = .ok (.getfield 215, 3) := by decide +kernel
theorem dX10_look_51 : decode cX10_look 51 = .ok (.iconst 1, 1) := by decide +kernel
theorem dX10_look_52 : decode cX10_look 52 = .ok (.iadd, 1) := by decide +kernel
theorem dX10_look_53 : decode cX10_look 53 = .ok (.istore_n 3, 1) := by decide +kernel
theorem dX10_look_54 : decode cX10_look 54 = .ok (.iconst 0, 1) := by decide +kernel
theorem dX10_look_55 : decode cX10_look 55 = .ok (.istore 4, 2) := by decide +kernel
theorem dX10_look_57 : decode cX10_look 57 = .ok (.iload 4, 2) := by decide +kernel
theorem dX10_look_59 : decode cX10_look 59 = .ok (.bipush 24, 2) := by decide +kernel
theorem dX10_look_61 : decode cX10_look 61 = .ok (.if_icmp .ge 43, 3) := by decide +kernel
theorem dX10_look_64 : decode cX10_look 64 = .ok (.aload_n 0, 1) := by decide +kernel
theorem dX10_look_65 : decode cX10_look 65 = .ok (.getfield 76, 3) := by decide +kernel
theorem dX10_look_68 : decode cX10_look 68 = .ok (.aload_n 0, 1) := by decide +kernel
theorem dX10_look_69 : decode cX10_look 69 = .ok (.getfield 26, 3) := by decide +kernel
theorem dX10_look_72 : decode cX10_look 72 = .ok (.aload_n 0, 1) := by decide +kernel
theorem dX10_look_73 : decode cX10_look 73 = .ok (.getfield 36, 3) := by decide +kernel
theorem dX10_look_76 : decode cX10_look 76 = .ok (.getfield 133, 3) := by decide +kernel
theorem dX10_look_79 : decode cX10_look 79 = .ok (.iload 4, 2) := by decide +kernel
theorem dX10_look_81 : decode cX10_look 81 = .ok (.invokevirtual 221, 3) := by decide +kernel
theorem dX10_look_84 : decode cX10_look 84 = .ok (.istore 5, 2) := by decide +kernel
theorem dX10_look_86 : decode cX10_look 86 = .ok (.iload 5, 2) := by decide +kernel
theorem dX10_look_88 : decode cX10_look 88 = .ok (.iload_n 3, 1) := by decide +kernel
theorem dX10_look_89 : decode cX10_look 89 = .ok (.if_icmp .ge 9, 3) := by decide +kernel
theorem dX10_look_92 : decode cX10_look 92 = .ok (.iload 5, 2) := by decide +kernel
theorem dX10_look_94 : decode cX10_look 94 = .ok (.istore_n 3, 1) := by decide +kernel
theorem dX10_look_95 : decode cX10_look 95 = .ok (.iload 4, 2) := by decide +kernel
theorem dX10_look_97 : decode cX10_look 97 = .ok (.istore_n 2, 1) := by decide +kernel
theorem dX10_look_98 : decode cX10_look 98 = .ok (.iinc 4 1, 3) := by decide +kernel
theorem dX10_look_101 : decode cX10_look 101 = .ok (.goto (-44), 3) := by decide +kernel
theorem dX10_look_104 : decode cX10_look 104 = .ok (.iload_n 1, 1) := by decide +kernel
theorem dX10_look_105 : decode cX10_look 105 = .ok (.ifCond .ne 7, 3) := by decide +kernel
theorem dX10_look_108 : decode cX10_look 108 = .ok (.iload_n 2, 1) := by decide +kernel
theorem dX10_look_109 : decode cX10_look 109 = .ok (.goto 4, 3) := by decide +kernel
theorem dX10_look_112 : decode cX10_look 112 = .ok (.iload_n 3, 1) := by decide +kernel
theorem dX10_look_113 : decode cX10_look 113 = .ok (.ireturn, 1) := by decide +kernel
theorem dX10_paces_0 : decode cX10_paces 0 = .ok (.aload_n 0, 1) := by decide +kernel
theorem dX10_paces_1 : decode cX10_paces 1 = .ok (.getfield 26, 3) := by decide +kernel
theorem dX10_paces_4 : decode cX10_paces 4 = .ok (.iload_n 1, 1) := by decide +kernel
theorem dX10_paces_5 : decode cX10_paces 5 = .ok (.invokevirtual 119, 3) := by decide +kernel
theorem dX10_paces_8 : decode cX10_paces 8 = .ok (.ifCond .eq 21, 3) := by decide +kernel
theorem dX10_paces_11 : decode cX10_paces 11 = .ok (.iload_n 2, 1) := by decide +kernel
theorem dX10_paces_12 : decode cX10_paces 12 = .ok (.iconst 1, 1) := by decide +kernel
theorem dX10_paces_13 : decode cX10_paces 13 = .ok (.if_icmp .lt 16, 3) := by decide +kernel
theorem dX10_paces_16 : decode cX10_paces 16 = .ok (.iload_n 2, 1) := by decide +kernel
theorem dX10_paces_17 : decode cX10_paces 17 = .ok (.bipush 8, 2) := by decide +kernel
theorem dX10_paces_19 : decode cX10_paces 19 = .ok (.if_icmp .gt 10, 3) := by decide +kernel
theorem dX10_paces_22 : decode cX10_paces 22 = .ok (.iload_n 3, 1) := by decide +kernel
theorem dX10_paces_23 : decode cX10_paces 23 = .ok (.invokestatic 203, 3) := by decide +kernel
theorem dX10_paces_26 : decode cX10_paces 26 = .ok (.ifCond .ne 5, 3) := by decide +kernel
theorem dX10_paces_29 : decode cX10_paces 29 = .ok (.iconst (-1), 1) := by decide +kernel
theorem dX10_paces_30 : decode cX10_paces 30 = .ok (.ireturn, 1) := by decide +kernel
theorem dX10_paces_31 : decode cX10_paces 31 = .ok (.iconst 0, 1) := by decide +kernel
theorem dX10_paces_32 : decode cX10_paces 32 = .ok (.istore 4, 2) := by decide +kernel
theorem dX10_paces_34 : decode cX10_paces 34 = .ok (.iconst 1, 1) := by decide +kernel
theorem dX10_paces_35 : decode cX10_paces 35 = .ok (.istore 5, 2) := by decide +kernel
theorem dX10_paces_37 : decode cX10_paces 37 = .ok (.iload 5, 2) := by decide +kernel
theorem dX10_paces_39 : decode cX10_paces 39 = .ok (.iconst 5, 1) := by decide +kernel
theorem dX10_paces_40 : decode cX10_paces 40 = .ok (.if_icmp .gt 79, 3) := by decide +kernel
theorem dX10_paces_43 : decode cX10_paces 43 = .ok (.aload_n 0, 1) := by decide +kernel
theorem dX10_paces_44 : decode cX10_paces 44 = .ok (.getfield 36, 3) := by decide +kernel
theorem dX10_paces_47 : decode cX10_paces 47 = .ok (.getfield 133, 3) := by decide +kernel
theorem dX10_paces_50 : decode cX10_paces 50 = .ok (.iload_n 1, 1) := by decide +kernel
theorem dX10_paces_51 : decode cX10_paces 51 = .ok (.iaload, 1) := by decide +kernel
theorem dX10_paces_52 : decode cX10_paces 52 = .ok (.istore 6, 2) := by decide +kernel
theorem dX10_paces_54 : decode cX10_paces 54 = .ok (.iconst 0, 1) := by decide +kernel
theorem dX10_paces_55 : decode cX10_paces 55 = .ok (.istore 7, 2) := by decide +kernel
theorem dX10_paces_57 : decode cX10_paces 57 = .ok (.iload 7, 2) := by decide +kernel
theorem dX10_paces_59 : decode cX10_paces 59 = .ok (.iload_n 2, 1) := by decide +kernel
theorem dX10_paces_60 : decode cX10_paces 60 = .ok (.if_icmp .ge 38, 3) := by decide +kernel
theorem dX10_paces_63 : decode cX10_paces 63 = .ok (.iload 6, 2) := by decide +kernel
theorem dX10_paces_65 : decode cX10_paces 65 = .ok (.iload 5, 2) := by decide +kernel
theorem dX10_paces_67 : decode cX10_paces 67 = .ok (.aload_n 0, 1) := by decide +kernel
theorem dX10_paces_68 : decode cX10_paces 68 = .ok (.getfield 36, 3) := by decide +kernel
theorem dX10_paces_71 : decode cX10_paces 71 = .ok (.getfield 130, 3) := by decide +kernel
theorem dX10_paces_74 : decode cX10_paces 74 = .ok (.iload_n 1, 1) := by decide +kernel
theorem dX10_paces_75 : decode cX10_paces 75 = .ok (.iaload, 1) := by decide +kernel
theorem dX10_paces_76 : decode cX10_paces 76 = .ok (.aload_n 0, 1) := by decide +kernel
theorem dX10_paces_77 : decode cX10_paces 77 = .ok (.getfield 36, 3) := by decide +kernel
theorem dX10_paces_80 : decode cX10_paces 80 = .ok (.getfield 149, 3) := by decide +kernel
theorem dX10_paces_83 : decode cX10_paces 83 = .ok (.iload 7, 2) := by decide +kernel
theorem dX10_paces_85 : decode cX10_paces 85 = .ok (.iadd, 1) := by decide +kernel
theorem dX10_paces_86 : decode cX10_paces 86 = .ok (.iconst 1, 1) := by decide +kernel
theorem dX10_paces_87 : decode cX10_paces 87 = .ok (.invokestatic 225, 3) := by decide +kernel
theorem dX10_paces_90 : decode cX10_paces 90 = .ok (.istore 6, 2) := by decide +kernel
theorem dX10_paces_92 : decode cX10_paces 92 = .ok (.iinc 7 1, 3) := by decide +kernel
