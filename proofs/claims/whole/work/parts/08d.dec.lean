theorem dX10_paces_95 : decode cX10_paces 95 = .ok (.goto (-38), 3) := by decide +kernel
theorem dX10_paces_98 : decode cX10_paces 98 = .ok (.iload 6, 2) := by decide +kernel
theorem dX10_paces_100 : decode cX10_paces 100 = .ok (.iload_n 3, 1) := by decide +kernel
theorem dX10_paces_101 : decode cX10_paces 101 = .ok (.if_icmp .ne 12, 3) := by decide +kernel
theorem dX10_paces_104 : decode cX10_paces 104 = .ok (.iload 4, 2) := by decide +kernel
theorem dX10_paces_106 : decode cX10_paces 106 = .ok (.iconst 1, 1) := by decide +kernel
theorem dX10_paces_107 : decode cX10_paces 107 = .ok (.iload 5, 2) := by decide +kernel
theorem dX10_paces_109 : decode cX10_paces 109 = .ok (.ishl, 1) := by decide +kernel
theorem dX10_paces_110 : decode cX10_paces 110 = .ok (.ior, 1) := by decide +kernel
theorem dX10_paces_111 : decode cX10_paces 111 = .ok (.istore 4, 2) := by decide +kernel
theorem dX10_paces_113 : decode cX10_paces 113 = .ok (.iinc 5 1, 3) := by decide +kernel
theorem dX10_paces_116 : decode cX10_paces 116 = .ok (.goto (-79), 3) := by decide +kernel
theorem dX10_paces_119 : decode cX10_paces 119 = .ok (.iload 4, 2) := by decide +kernel
theorem dX10_paces_121 : decode cX10_paces 121 = .ok (.ireturn, 1) := by decide +kernel
theorem dX10_slips_0 : decode cX10_slips 0 = .ok (.aload_n 0, 1) := by decide +kernel
theorem dX10_slips_1 : decode cX10_slips 1 = .ok (.getfield 26, 3) := by decide +kernel
theorem dX10_slips_4 : decode cX10_slips 4 = .ok (.iload_n 1, 1) := by decide +kernel
theorem dX10_slips_5 : decode cX10_slips 5 = .ok (.invokevirtual 119, 3) := by decide +kernel
theorem dX10_slips_8 : decode cX10_slips 8 = .ok (.ifCond .eq 23, 3) := by decide +kernel
theorem dX10_slips_11 : decode cX10_slips 11 = .ok (.iload_n 2, 1) := by decide +kernel
theorem dX10_slips_12 : decode cX10_slips 12 = .ok (.ifCond .lt 19, 3) := by decide +kernel
theorem dX10_slips_15 : decode cX10_slips 15 = .ok (.iload_n 2, 1) := by decide +kernel
theorem dX10_slips_16 : decode cX10_slips 16 = .ok (.bipush 6, 2) := by decide +kernel
theorem dX10_slips_18 : decode cX10_slips 18 = .ok (.if_icmp .gt 13, 3) := by decide +kernel
theorem dX10_slips_21 : decode cX10_slips 21 = .ok (.iload_n 3, 1) := by decide +kernel
theorem dX10_slips_22 : decode cX10_slips 22 = .ok (.ifCond .lt 9, 3) := by decide +kernel
theorem dX10_slips_25 : decode cX10_slips 25 = .ok (.iload_n 3, 1) := by decide +kernel
theorem dX10_slips_26 : decode cX10_slips 26 = .ok (.bipush 10, 2) := by decide +kernel
theorem dX10_slips_28 : decode cX10_slips 28 = .ok (.if_icmp .le 5, 3) := by decide +kernel
theorem dX10_slips_31 : decode cX10_slips 31 = .ok (.iconst (-1), 1) := by decide +kernel
theorem dX10_slips_32 : decode cX10_slips 32 = .ok (.ireturn, 1) := by decide +kernel
theorem dX10_slips_33 : decode cX10_slips 33 = .ok (.iload 4, 2) := by decide +kernel
theorem dX10_slips_35 : decode cX10_slips 35 = .ok (.invokestatic 177, 3) := by decide +kernel
theorem dX10_slips_38 : decode cX10_slips 38 = .ok (.ifCond .eq 14, 3) := by decide +kernel
theorem dX10_slips_41 : decode cX10_slips 41 = .ok (.iload 5, 2) := by decide +kernel
theorem dX10_slips_43 : decode cX10_slips 43 = .ok (.ifCond .lt 9, 3) := by decide +kernel
theorem dX10_slips_46 : decode cX10_slips 46 = .ok (.iload 5, 2) := by decide +kernel
theorem dX10_slips_48 : decode cX10_slips 48 = .ok (.iconst 1, 1) := by decide +kernel
theorem dX10_slips_49 : decode cX10_slips 49 = .ok (.if_icmp .le 5, 3) := by decide +kernel
theorem dX10_slips_52 : decode cX10_slips 52 = .ok (.iconst (-1), 1) := by decide +kernel
theorem dX10_slips_53 : decode cX10_slips 53 = .ok (.ireturn, 1) := by decide +kernel
theorem dX10_slips_54 : decode cX10_slips 54 = .ok (.aload_n 0, 1) := by decide +kernel
theorem dX10_slips_55 : decode cX10_slips 55 = .ok (.getfield 83, 3) := by decide +kernel
theorem dX10_slips_58 : decode cX10_slips 58 = .ok (.iload_n 2, 1) := by decide +kernel
theorem dX10_slips_59 : decode cX10_slips 59 = .ok (.iload_n 3, 1) := by decide +kernel
theorem dX10_slips_60 : decode cX10_slips 60 = .ok (.invokevirtual 229, 3) := by decide +kernel
theorem dX10_slips_63 : decode cX10_slips 63 = .ok (.aload_n 0, 1) := by decide +kernel
theorem dX10_slips_64 : decode cX10_slips 64 = .ok (.getfield 83, 3) := by decide +kernel
theorem dX10_slips_67 : decode cX10_slips 67 = .ok (.aload_n 0, 1) := by decide +kernel
theorem dX10_slips_68 : decode cX10_slips 68 = .ok (.getfield 36, 3) := by decide +kernel
theorem dX10_slips_71 : decode cX10_slips 71 = .ok (.getfield 133, 3) := by decide +kernel
theorem dX10_slips_74 : decode cX10_slips 74 = .ok (.iload_n 1, 1) := by decide +kernel
theorem dX10_slips_75 : decode cX10_slips 75 = .ok (.iaload, 1) := by decide +kernel
theorem dX10_slips_76 : decode cX10_slips 76 = .ok (.iload_n 2, 1) := by decide +kernel
theorem dX10_slips_77 : decode cX10_slips 77 = .ok (.iload 4, 2) := by decide +kernel
theorem dX10_slips_79 : decode cX10_slips 79 = .ok (.invokevirtual 232, 3) := by decide +kernel
theorem dX10_slips_82 : decode cX10_slips 82 = .ok (.istore 6, 2) := by decide +kernel
theorem dX10_slips_84 : decode cX10_slips 84 = .ok (.aload_n 0, 1) := by decide +kernel
theorem dX10_slips_85 : decode cX10_slips 85 = .ok (.getfield 83, 3) := by decide +kernel
theorem dX10_slips_88 : decode cX10_slips 88 = .ok (.iload_n 2, 1) := by decide +kernel
theorem dX10_slips_89 : decode cX10_slips 89 = .ok (.invokevirtual 236, 3) := by decide +kernel
theorem dX10_slips_92 : decode cX10_slips 92 = .ok (.istore 7, 2) := by decide +kernel
theorem dX10_slips_94 : decode cX10_slips 94 = .ok (.iload 6, 2) := by decide +kernel
theorem dX10_slips_96 : decode cX10_slips 96 = .ok (.iload 7, 2) := by decide +kernel
theorem dX10_slips_98 : decode cX10_slips 98 = .ok (.invokestatic 240, 3) := by decide +kernel
theorem dX10_slips_101 : decode cX10_slips 101 = .ok (.istore 8, 2) := by decide +kernel
theorem dX10_slips_103 : decode cX10_slips 103 = .ok (.iload 8, 2) := by decide +kernel
theorem dX10_slips_105 : decode cX10_slips 105 = .ok (.iconst 1, 1) := by decide +kernel
theorem dX10_slips_106 : decode cX10_slips 106 = .ok (.if_icmp .ge 5, 3) := by decide +kernel
theorem dX10_slips_109 : decode cX10_slips 109 = .ok (.iconst (-1), 1) := by decide +kernel
theorem dX10_slips_110 : decode cX10_slips 110 = .ok (.ireturn, 1) := by decide +kernel
theorem dX10_slips_111 : decode cX10_slips 111 = .ok (.iload 5, 2) := by decide +kernel
theorem dX10_slips_113 : decode cX10_slips 113 = .ok (.ifCond .ne 8, 3) := by decide +kernel
theorem dX10_slips_116 : decode cX10_slips 116 = .ok (.iload 6, 2) := by decide +kernel
theorem dX10_slips_118 : decode cX10_slips 118 = .ok (.goto 5, 3) := by decide +kernel
theorem dX10_slips_121 : decode cX10_slips 121 = .ok (.iload 7, 2) := by decide +kernel
theorem dX10_slips_123 : decode cX10_slips 123 = .ok (.iload 8, 2) := by decide +kernel
theorem dX10_slips_125 : decode cX10_slips 125 = .ok (.idiv, 1) := by decide +kernel
theorem dX10_slips_126 : decode cX10_slips 126 = .ok (.ireturn, 1) := by decide +kernel
theorem dX10_spent_0 : decode cX10_spent 0 = .ok (.iload_n 1, 1) := by decide +kernel
theorem dX10_spent_1 : decode cX10_spent 1 = .ok (.ifCond .lt 8, 3) := by decide +kernel
theorem dX10_spent_4 : decode cX10_spent 4 = .ok (.iload_n 1, 1) := by decide +kernel
theorem dX10_spent_5 : decode cX10_spent 5 = .ok (.iconst 1, 1) := by decide +kernel
theorem dX10_spent_6 : decode cX10_spent 6 = .ok (.if_icmp .le 5, 3) := by decide +kernel
theorem dX10_spent_9 : decode cX10_spent 9 = .ok (.iconst (-1), 1) := by decide +kernel
theorem dX10_spent_10 : decode cX10_spent 10 = .ok (.ireturn, 1) := by decide +kernel
theorem dX10_spent_11 : decode cX10_spent 11 = .ok (.iload_n 1, 1) := by decide +kernel
theorem dX10_spent_12 : decode cX10_spent 12 = .ok (.ifCond .ne 13, 3) := by decide +kernel
theorem dX10_spent_15 : decode cX10_spent 15 = .ok (.aload_n 0, 1) := by decide +kernel
theorem dX10_spent_16 : decode cX10_spent 16 = .ok (.getfield 36, 3) := by decide +kernel
theorem dX10_spent_19 : decode cX10_spent 19 = .ok (.getfield 164, 3) := by decide +kernel
theorem dX10_spent_22 : decode cX10_spent 22 = .ok (.goto 10, 3) := by decide +kernel
theorem dX10_spent_25 : decode cX10_spent 25 = .ok (.aload_n 0, 1) := by decide +kernel
theorem dX10_spent_26 : decode cX10_spent 26 = .ok (.getfield 36, 3) := by decide +kernel
theorem dX10_spent_29 : decode cX10_spent 29 = .ok (.getfield 149, 3) := by decide +kernel
theorem dX10_spent_32 : decode cX10_spent 32 = .ok (.ireturn, 1) := by decide +kernel
theorem dX10_evening_0 : decode cX10_evening 0 = .ok (.iload_n 1, 1) := by decide +kernel
theorem dX10_evening_1 : decode cX10_evening 1 = .ok (.ifCond .lt 30, 3) := by decide +kernel
theorem dX10_evening_4 : decode cX10_evening 4 = .ok (.iload_n 1, 1) := by decide +kernel
theorem dX10_evening_5 : decode cX10_evening 5 = .ok (.sipush 9999, 3) := by decide +kernel
theorem dX10_evening_8 : decode cX10_evening 8 = .ok (.if_icmp .gt 23, 3) := by decide +kernel
theorem dX10_evening_11 : decode cX10_evening 11 = .ok (.iload_n 2, 1) := by decide +kernel
theorem dX10_evening_12 : decode cX10_evening 12 = .ok (.iconst 1, 1) := by decide +kernel
theorem dX10_evening_13 : decode cX10_evening 13 = .ok (.if_icmp .lt 18, 3) := by decide +kernel
theorem dX10_evening_16 : decode cX10_evening 16 = .ok (.iload_n 2, 1) := by decide +kernel
theorem dX10_evening_17 : decode cX10_evening 17 = .ok (.bipush 24, 2) := by decide +kernel
theorem dX10_evening_19 : decode cX10_evening 19 = .ok (.if_icmp .gt 12, 3) := by decide +kernel
theorem dX10_evening_22 : decode cX10_evening 22 = .ok (.iload_n 3, 1) := by decide +kernel
theorem dX10_evening_23 : decode cX10_evening 23 = .ok (.ifCond .lt 8, 3) := by decide +kernel
theorem dX10_evening_26 : decode cX10_evening 26 = .ok (.iload_n 3, 1) := by decide +kernel
theorem dX10_evening_27 : decode cX10_evening 27 = .ok (.iconst 1, 1) := by decide +kernel
theorem dX10_evening_28 : decode cX10_evening 28 = .ok (.if_icmp .le 5, 3) := by decide +kernel
theorem dX10_evening_31 : decode cX10_evening 31 = .ok (.iconst (-1), 1) := by decide +kernel
theorem dX10_evening_32 : decode cX10_evening 32 = .ok (.ireturn, 1) := by decide +kernel
theorem dX10_evening_33 : decode cX10_evening 33 = .ok (.aload_n 0, 1) := by decide +kernel
theorem dX10_evening_34 : decode cX10_evening 34 = .ok (.getfield 55, 3) := by decide +kernel
theorem dX10_evening_37 : decode cX10_evening 37 = .ok (.aload_n 0, 1) := by decide +kernel
theorem dX10_evening_38 : decode cX10_evening 38 = .ok (.getfield 26, 3) := by decide +kernel
theorem dX10_evening_41 : decode cX10_evening 41 = .ok (.aload_n 0, 1) := by decide +kernel
theorem dX10_evening_42 : decode cX10_evening 42 = .ok (.getfield 36, 3) := by decide +kernel
theorem dX10_evening_45 : decode cX10_evening 45 = .ok (.iload_n 1, 1) := by decide +kernel
theorem dX10_evening_46 : decode cX10_evening 46 = .ok (.iload_n 2, 1) := by decide +kernel
theorem dX10_evening_47 : decode cX10_evening 47 = .ok (.invokevirtual 243, 3) := by decide +kernel
theorem dX10_evening_50 : decode cX10_evening 50 = .ok (.astore 4, 2) := by decide +kernel
theorem dX10_evening_52 : decode cX10_evening 52 = .ok (.iload_n 3, 1) := by decide +kernel
theorem dX10_evening_53 : decode cX10_evening 53 = .ok (.ifCond .ne 19, 3) := by decide +kernel
theorem dX10_evening_56 : decode cX10_evening 56 = .ok (.aload_n 0, 1) := by decide +kernel
theorem dX10_evening_57 : decode cX10_evening 57 = .ok (.getfield 26, 3) := by decide +kernel
theorem dX10_evening_60 : decode cX10_evening 60 = .ok (.aload 4, 2) := by decide +kernel
theorem dX10_evening_62 : decode cX10_evening 62 = .ok (.getfield 133, 3) := by decide +kernel
theorem dX10_evening_65 : decode cX10_evening 65 = .ok (.invokevirtual 173, 3) := by decide +kernel
theorem dX10_evening_68 : decode cX10_evening 68 = .ok (.invokestatic 247, 3) := by decide +kernel
theorem dX10_evening_71 : decode cX10_evening 71 = .ok (.ireturn, 1) := by decide +kernel
theorem dX10_evening_72 : decode cX10_evening 72 = .ok (.aload_n 0, 1) := by decide +kernel
theorem dX10_evening_73 : decode cX10_evening 73 = .ok (.getfield 26, 3) := by decide +kernel
theorem dX10_evening_76 : decode cX10_evening 76 = .ok (.aload 4, 2) := by decide +kernel
theorem dX10_evening_78 : decode cX10_evening 78 = .ok (.getfield 133, 3) := by decide +kernel
theorem dX10_evening_81 : decode cX10_evening 81 = .ok (.invokevirtual 252, 3) := by decide +kernel
theorem dX10_evening_84 : decode cX10_evening 84 = .ok (.ireturn, 1) := by decide +kernel
theorem dX10_keep_0 : decode cX10_keep 0 = .ok (.aload_n 0, 1) := by decide +kernel
theorem dX10_keep_1 : decode cX10_keep 1 = .ok (.getfield 49, 3) := by decide +kernel
theorem dX10_keep_4 : decode cX10_keep 4 = .ok (.invokevirtual 255, 3) := by decide +kernel
theorem dX10_keep_7 : decode cX10_keep 7 = .ok (.ifCond .eq 6, 3) := by decide +kernel
theorem dX10_keep_10 : decode cX10_keep 10 = .ok (.bipush (-3), 2) := by decide +kernel
theorem dX10_keep_12 : decode cX10_keep 12 = .ok (.ireturn, 1) := by decide +kernel
theorem dX10_keep_13 : decode cX10_keep 13 = .ok (.aload_n 0, 1) := by decide +kernel
theorem dX10_keep_14 : decode cX10_keep 14 = .ok (.getfield 49, 3) := by decide +kernel
theorem dX10_keep_17 : decode cX10_keep 17 = .ok (.aload_n 0, 1) := by decide +kernel
theorem dX10_keep_18 : decode cX10_keep 18 = .ok (.getfield 36, 3) := by decide +kernel
theorem dX10_keep_21 : decode cX10_keep 21 = .ok (.invokevirtual 152, 3) := by decide +kernel
theorem dX10_keep_24 : decode cX10_keep 24 = .ok (.aload_n 0, 1) := by decide +kernel
theorem dX10_keep_25 : decode cX10_keep 25 = .ok (.getfield 49, 3) := by decide +kernel
theorem dX10_keep_28 : decode cX10_keep 28 = .ok (.invokevirtual 167, 3) := by decide +kernel
theorem dX10_keep_31 : decode cX10_keep 31 = .ok (.ireturn, 1) := by decide +kernel
theorem dX10_back_0 : decode cX10_back 0 = .ok (.aload_n 0, 1) := by decide +kernel
theorem dX10_back_1 : decode cX10_back 1 = .ok (.getfield 49, 3) := by decide +kernel
theorem dX10_back_4 : decode cX10_back 4 = .ok (.invokevirtual 167, 3) := by decide +kernel
theorem dX10_back_7 : decode cX10_back 7 = .ok (.ifCond .ne 6, 3) := by decide +kernel
theorem dX10_back_10 : decode cX10_back 10 = .ok (.bipush (-2), 2) := by decide +kernel
theorem dX10_back_12 : decode cX10_back 12 = .ok (.ireturn, 1) := by decide +kernel
theorem dX10_back_13 : decode cX10_back 13 = .ok (.aload_n 0, 1) := by decide +kernel
theorem dX10_back_14 : decode cX10_back 14 = .ok (.getfield 49, 3) := by decide +kernel
theorem dX10_back_17 : decode cX10_back 17 = .ok (.aload_n 0, 1) := by decide +kernel
theorem dX10_back_18 : decode cX10_back 18 = .ok (.getfield 36, 3) := by decide +kernel
theorem dX10_back_21 : decode cX10_back 21 = .ok (.invokevirtual 170, 3) := by decide +kernel
theorem dX10_back_24 : decode cX10_back 24 = .ok (.aload_n 0, 1) := by decide +kernel
theorem dX10_back_25 : decode cX10_back 25 = .ok (.getfield 45, 3) := by decide +kernel
theorem dX10_back_28 : decode cX10_back 28 = .ok (.invokevirtual 117, 3) := by decide +kernel
theorem dX10_back_31 : decode cX10_back 31 = .ok (.aload_n 0, 1) := by decide +kernel
theorem dX10_back_32 : decode cX10_back 32 = .ok (.getfield 49, 3) := by decide +kernel
theorem dX10_back_35 : decode cX10_back 35 = .ok (.invokevirtual 167, 3) := by decide +kernel
theorem dX10_back_38 : decode cX10_back 38 = .ok (.ireturn, 1) := by decide +kernel
theorem dX10_count_0 : decode cX10_count 0 = .ok (.iload_n 1, 1) := by decide +kernel
theorem dX10_count_1 : decode cX10_count 1 = .ok (.tableswitch 99 0 6 #[43, 51, 59, 67, 75, 83, 91], 43) := by decide +kernel
theorem dX10_count_44 : decode cX10_count 44 = .ok (.aload_n 0, 1) := by decide +kernel
theorem dX10_count_45 : decode cX10_count 45 = .ok (.getfield 26, 3) := by decide +kernel
theorem dX10_count_48 : decode cX10_count 48 = .ok (.getfield 109, 3) := by decide +kernel
theorem dX10_count_51 : decode cX10_count 51 = .ok (.ireturn, 1) := by decide +kernel
theorem dX10_count_52 : decode cX10_count 52 = .ok (.aload_n 0, 1) := by decide +kernel
theorem dX10_count_53 : decode cX10_count 53 = .ok (.getfield 26, 3) := by decide +kernel
theorem dX10_count_56 : decode cX10_count 56 = .ok (.getfield 256, 3) := by decide +kernel
theorem dX10_count_59 : decode cX10_count 59 = .ok (.ireturn, 1) := by decide +kernel
theorem dX10_count_60 : decode cX10_count 60 = .ok (.aload_n 0, 1) := by decide +kernel
theorem dX10_count_61 : decode cX10_count 61 = .ok (.getfield 26, 3) := by decide +kernel
theorem dX10_count_64 : decode cX10_count 64 = .ok (.getfield 259, 3) := by decide +kernel
theorem dX10_count_67 : decode cX10_count 67 = .ok (.ireturn, 1) := by decide +kernel
theorem dX10_count_68 : decode cX10_count 68 = .ok (.aload_n 0, 1) := by decide +kernel
theorem dX10_count_69 : decode cX10_count 69 = .ok (.getfield 76, 3) := by decide +kernel
theorem dX10_count_72 : decode cX10_count 72 = .ok (.invokevirtual 210, 3) := by decide +kernel
theorem dX10_count_75 : decode cX10_count 75 = .ok (.ireturn, 1) := by decide +kernel
theorem dX10_count_76 : decode cX10_count 76 = .ok (.aload_n 0, 1) := by decide +kernel
theorem dX10_count_77 : decode cX10_count 77 = .ok (.getfield 45, 3) := by decide +kernel
theorem dX10_count_80 : decode cX10_count 80 = .ok (.invokevirtual 167, 3) := by decide +kernel
theorem dX10_count_83 : decode cX10_count 83 = .ok (.ireturn, 1) := by decide +kernel
theorem dX10_count_84 : decode cX10_count 84 = .ok (.aload_n 0, 1) := by decide +kernel
theorem dX10_count_85 : decode cX10_count 85 = .ok (.getfield 49, 3) := by decide +kernel
theorem dX10_count_88 : decode cX10_count 88 = .ok (.invokevirtual 167, 3) := by decide +kernel
theorem dX10_count_91 : decode cX10_count 91 = .ok (.ireturn, 1) := by decide +kernel
theorem dX10_count_92 : decode cX10_count 92 = .ok (.aload_n 0, 1) := by decide +kernel
theorem dX10_count_93 : decode cX10_count 93 = .ok (.getfield 10, 3) := by decide +kernel
theorem dX10_count_96 : decode cX10_count 96 = .ok (.invokevirtual 98, 3) := by decide +kernel
theorem dX10_count_99 : decode cX10_count 99 = .ok (.ireturn, 1) := by decide +kernel
theorem dX10_count_100 : decode cX10_count 100 = .ok (.iconst (-1), 1) := by decide +kernel
theorem dX10_count_101 : decode cX10_count 101 = .ok (.ireturn, 1) := by decide +kernel
theorem dX10_layFirstText_0 : decode cX10_layFirstText 0 = .ok (.iconst 0, 1) := by decide +kernel
theorem dX10_layFirstText_1 : decode cX10_layFirstText 1 = .ok (.istore_n 1, 1) := by decide +kernel
theorem dX10_layFirstText_2 : decode cX10_layFirstText 2 = .ok (.iload_n 1, 1) := by decide +kernel
theorem dX10_layFirstText_3 : decode cX10_layFirstText 3 = .ok (.ldc_w 262, 3) := by decide +kernel
theorem dX10_layFirstText_6 : decode cX10_layFirstText 6 = .ok (.invokevirtual 264, 3) := by decide +kernel
theorem dX10_layFirstText_9 : decode cX10_layFirstText 9 = .ok (.if_icmp .ge 23, 3) := by decide +kernel
theorem dX10_layFirstText_12 : decode cX10_layFirstText 12 = .ok (.aload_n 0, 1) := by decide +kernel
theorem dX10_layFirstText_13 : decode cX10_layFirstText 13 = .ok (.getfield 10, 3) := by decide +kernel
theorem dX10_layFirstText_16 : decode cX10_layFirstText 16 = .ok (.ldc_w 262, 3) := by decide +kernel
theorem dX10_layFirstText_19 : decode cX10_layFirstText 19 = .ok (.iload_n 1, 1) := by decide +kernel
theorem dX10_layFirstText_20 : decode cX10_layFirstText 20 = .ok (.invokevirtual 267, 3) := by decide +kernel
theorem dX10_layFirstText_23 : decode cX10_layFirstText 23 = .ok (.invokevirtual 94, 3) := by decide +kernel
theorem dX10_layFirstText_26 : decode cX10_layFirstText 26 = .ok (.iinc 1 1, 3) := by decide +kernel
theorem dX10_layFirstText_29 : decode cX10_layFirstText 29 = .ok (.goto (-27), 3) := by decide +kernel
theorem dX10_layFirstText_32 : decode cX10_layFirstText 32 = .ok (.aload_n 0, 1) := by decide +kernel
theorem dX10_layFirstText_33 : decode cX10_layFirstText 33 = .ok (.getfield 19, 3) := by decide +kernel
theorem dX10_layFirstText_36 : decode cX10_layFirstText 36 = .ok (.aload_n 0, 1) := by decide +kernel
theorem dX10_layFirstText_37 : decode cX10_layFirstText 37 = .ok (.getfield 10, 3) := by decide +kernel
theorem dX10_layFirstText_40 : decode cX10_layFirstText 40 = .ok (.aload_n 0, 1) := by decide +kernel
theorem dX10_layFirstText_41 : decode cX10_layFirstText 41 = .ok (.getfield 26, 3) := by decide +kernel
theorem dX10_layFirstText_44 : decode cX10_layFirstText 44 = .ok (.invokevirtual 105, 3) := by decide +kernel
theorem dX10_layFirstText_47 : decode cX10_layFirstText 47 = .ok (.pop, 1) := by decide +kernel
theorem dX10_layFirstText_48 : decode cX10_layFirstText 48 = .ok (.aload_n 0, 1) := by decide +kernel
theorem dX10_layFirstText_49 : decode cX10_layFirstText 49 = .ok (.getfield 36, 3) := by decide +kernel
theorem dX10_layFirstText_52 : decode cX10_layFirstText 52 = .ok (.aload_n 0, 1) := by decide +kernel
theorem dX10_layFirstText_53 : decode cX10_layFirstText 53 = .ok (.getfield 26, 3) := by decide +kernel
theorem dX10_layFirstText_56 : decode cX10_layFirstText 56 = .ok (.invokevirtual 113, 3) := by decide +kernel
theorem dX10_layFirstText_59 : decode cX10_layFirstText 59 = .ok (.aload_n 0, 1) := by decide +kernel
theorem dX10_layFirstText_60 : decode cX10_layFirstText 60 = .ok (.getfield 10, 3) := by decide +kernel
theorem dX10_layFirstText_63 : decode cX10_layFirstText 63 = .ok (.invokevirtual 102, 3) := by decide +kernel
theorem dX10_layFirstText_66 : decode cX10_layFirstText 66 = .ok (.return_, 1) := by decide +kernel
theorem dX10_isYard_0 : decode cX10_isYard 0 = .ok (.iload_n 0, 1) := by decide +kernel
theorem dX10_isYard_1 : decode cX10_isYard 1 = .ok (.ifCond .lt 13, 3) := by decide +kernel
theorem dX10_isYard_4 : decode cX10_isYard 4 = .ok (.iload_n 0, 1) := by decide +kernel
theorem dX10_isYard_5 : decode cX10_isYard 5 = .ok (.bipush 24, 2) := by decide +kernel
theorem dX10_isYard_7 : decode cX10_isYard 7 = .ok (.if_icmp .ge 7, 3) := by decide +kernel
theorem dX10_isYard_10 : decode cX10_isYard 10 = .ok (.iconst 1, 1) := by decide +kernel
theorem dX10_isYard_11 : decode cX10_isYard 11 = .ok (.goto 4, 3) := by decide +kernel
theorem dX10_isYard_14 : decode cX10_isYard 14 = .ok (.iconst 0, 1) := by decide +kernel
theorem dX10_isYard_15 : decode cX10_isYard 15 = .ok (.ireturn, 1) := by decide +kernel
theorem dX10_isLight_0 : decode cX10_isLight 0 = .ok (.iload_n 0, 1) := by decide +kernel
theorem dX10_isLight_1 : decode cX10_isLight 1 = .ok (.ifCond .lt 12, 3) := by decide +kernel
theorem dX10_isLight_4 : decode cX10_isLight 4 = .ok (.iload_n 0, 1) := by decide +kernel
theorem dX10_isLight_5 : decode cX10_isLight 5 = .ok (.iconst 3, 1) := by decide +kernel
theorem dX10_isLight_6 : decode cX10_isLight 6 = .ok (.if_icmp .gt 7, 3) := by decide +kernel
theorem dX10_isLight_9 : decode cX10_isLight 9 = .ok (.iconst 1, 1) := by decide +kernel
theorem dX10_isLight_10 : decode cX10_isLight 10 = .ok (.goto 4, 3) := by decide +kernel
theorem dX10_isLight_13 : decode cX10_isLight 13 = .ok (.iconst 0, 1) := by decide +kernel
theorem dX10_isLight_14 : decode cX10_isLight 14 = .ok (.ireturn, 1) := by decide +kernel
theorem dX10_isLowness_0 : decode cX10_isLowness 0 = .ok (.iload_n 0, 1) := by decide +kernel
theorem dX10_isLowness_1 : decode cX10_isLowness 1 = .ok (.ifCond .lt 13, 3) := by decide +kernel
theorem dX10_isLowness_4 : decode cX10_isLowness 4 = .ok (.iload_n 0, 1) := by decide +kernel
theorem dX10_isLowness_5 : decode cX10_isLowness 5 = .ok (.bipush 40, 2) := by decide +kernel
theorem dX10_isLowness_7 : decode cX10_isLowness 7 = .ok (.if_icmp .gt 7, 3) := by decide +kernel
theorem dX10_isLowness_10 : decode cX10_isLowness 10 = .ok (.iconst 1, 1) := by decide +kernel
theorem dX10_isLowness_11 : decode cX10_isLowness 11 = .ok (.goto 4, 3) := by decide +kernel
theorem dX10_isLowness_14 : decode cX10_isLowness 14 = .ok (.iconst 0, 1) := by decide +kernel
theorem dX10_isLowness_15 : decode cX10_isLowness 15 = .ok (.ireturn, 1) := by decide +kernel
theorem dX10_within_0 : decode cX10_within 0 = .ok (.iconst 0, 1) := by decide +kernel
theorem dX10_within_1 : decode cX10_within 1 = .ok (.bipush 40, 2) := by decide +kernel
theorem dX10_within_3 : decode cX10_within 3 = .ok (.iload_n 0, 1) := by decide +kernel
theorem dX10_within_4 : decode cX10_within 4 = .ok (.invokestatic 271, 3) := by decide +kernel
theorem dX10_within_7 : decode cX10_within 7 = .ok (.invokestatic 276, 3) := by decide +kernel
theorem dX10_within_10 : decode cX10_within 10 = .ok (.ireturn, 1) := by decide +kernel
theorem dX10_lightAt_0 : decode cX10_lightAt 0 = .ok (.iload_n 0, 1) := by decide +kernel
theorem dX10_lightAt_1 : decode cX10_lightAt 1 = .ok (.bipush 30, 2) := by decide +kernel
theorem dX10_lightAt_3 : decode cX10_lightAt 3 = .ok (.if_icmp .lt 7, 3) := by decide +kernel
theorem dX10_lightAt_6 : decode cX10_lightAt 6 = .ok (.iconst 3, 1) := by decide +kernel
theorem dX10_lightAt_7 : decode cX10_lightAt 7 = .ok (.goto 7, 3) := by decide +kernel
theorem dX10_lightAt_10 : decode cX10_lightAt 10 = .ok (.iload_n 0, 1) := by decide +kernel
theorem dX10_lightAt_11 : decode cX10_lightAt 11 = .ok (.bipush 10, 2) := by decide +kernel
theorem dX10_lightAt_13 : decode cX10_lightAt 13 = .ok (.idiv, 1) := by decide +kernel
theorem dX10_lightAt_14 : decode cX10_lightAt 14 = .ok (.ireturn, 1) := by decide +kernel
theorem dX10_turnsThen_0 : decode cX10_turnsThen 0 = .ok (.iload_n 1, 1) := by decide +kernel
theorem dX10_turnsThen_1 : decode cX10_turnsThen 1 = .ok (.istore 5, 2) := by decide +kernel
theorem dX10_turnsThen_3 : decode cX10_turnsThen 3 = .ok (.iload_n 2, 1) := by decide +kernel
theorem dX10_turnsThen_4 : decode cX10_turnsThen 4 = .ok (.iconst 1, 1) := by decide +kernel
theorem dX10_turnsThen_5 : decode cX10_turnsThen 5 = .ok (.if_icmp .ne 8, 3) := by decide +kernel
theorem dX10_turnsThen_8 : decode cX10_turnsThen 8 = .ok (.iload_n 1, 1) := by decide +kernel
theorem dX10_turnsThen_9 : decode cX10_turnsThen 9 = .ok (.iconst 1, 1) := by decide +kernel
theorem dX10_turnsThen_10 : decode cX10_turnsThen 10 = .ok (.iadd, 1) := by decide +kernel
theorem dX10_turnsThen_11 : decode cX10_turnsThen 11 = .ok (.istore 5, 2) := by decide +kernel
theorem dX10_turnsThen_13 : decode cX10_turnsThen 13 = .ok (.iload_n 2, 1) := by decide +kernel
theorem dX10_turnsThen_14 : decode cX10_turnsThen 14 = .ok (.iconst 3, 1) := by decide +kernel
theorem dX10_turnsThen_15 : decode cX10_turnsThen 15 = .ok (.if_icmp .ne 12, 3) := by decide +kernel
theorem dX10_turnsThen_18 : decode cX10_turnsThen 18 = .ok (.iload_n 3, 1) := by decide +kernel
theorem dX10_turnsThen_19 : decode cX10_turnsThen 19 = .ok (.iconst 2, 1) := by decide +kernel
theorem dX10_turnsThen_20 : decode cX10_turnsThen 20 = .ok (.irem, 1) := by decide +kernel
theorem dX10_turnsThen_21 : decode cX10_turnsThen 21 = .ok (.ifCond .eq 6, 3) := by decide +kernel
theorem dX10_turnsThen_24 : decode cX10_turnsThen 24 = .ok (.iconst 0, 1) := by decide +kernel
theorem dX10_turnsThen_25 : decode cX10_turnsThen 25 = .ok (.istore 5, 2) := by decide +kernel
theorem dX10_turnsThen_27 : decode cX10_turnsThen 27 = .ok (.iload_n 0, 1) := by decide +kernel
theorem dX10_turnsThen_28 : decode cX10_turnsThen 28 = .ok (.iload 4, 2) := by decide +kernel
theorem dX10_turnsThen_30 : decode cX10_turnsThen 30 = .ok (.iload 5, 2) := by decide +kernel
theorem dX10_turnsThen_32 : decode cX10_turnsThen 32 = .ok (.imul, 1) := by decide +kernel
theorem dX10_turnsThen_33 : decode cX10_turnsThen 33 = .ok (.iadd, 1) := by decide +kernel
theorem dX10_turnsThen_34 : decode cX10_turnsThen 34 = .ok (.invokestatic 279, 3) := by decide +kernel
theorem dX10_turnsThen_37 : decode cX10_turnsThen 37 = .ok (.istore 6, 2) := by decide +kernel
theorem dX10_turnsThen_39 : decode cX10_turnsThen 39 = .ok (.iload_n 2, 1) := by decide +kernel
theorem dX10_turnsThen_40 : decode cX10_turnsThen 40 = .ok (.iconst 2, 1) := by decide +kernel
theorem dX10_turnsThen_41 : decode cX10_turnsThen 41 = .ok (.if_icmp .ne 18, 3) := by decide +kernel
theorem dX10_turnsThen_44 : decode cX10_turnsThen 44 = .ok (.iload 6, 2) := by decide +kernel
theorem dX10_turnsThen_46 : decode cX10_turnsThen 46 = .ok (.ifCond .eq 13, 3) := by decide +kernel
theorem dX10_turnsThen_49 : decode cX10_turnsThen 49 = .ok (.iload 6, 2) := by decide +kernel
theorem dX10_turnsThen_51 : decode cX10_turnsThen 51 = .ok (.iconst 3, 1) := by decide +kernel
theorem dX10_turnsThen_52 : decode cX10_turnsThen 52 = .ok (.irem, 1) := by decide +kernel
theorem dX10_turnsThen_53 : decode cX10_turnsThen 53 = .ok (.ifCond .ne 6, 3) := by decide +kernel
theorem dX10_turnsThen_56 : decode cX10_turnsThen 56 = .ok (.iinc 6 (-1), 3) := by decide +kernel
theorem dX10_turnsThen_59 : decode cX10_turnsThen 59 = .ok (.iload 6, 2) := by decide +kernel
theorem dX10_turnsThen_61 : decode cX10_turnsThen 61 = .ok (.ireturn, 1) := by decide +kernel
theorem dX10_commonDivisor_0 : decode cX10_commonDivisor 0 = .ok (.iload_n 0, 1) := by decide +kernel
theorem dX10_commonDivisor_1 : decode cX10_commonDivisor 1 = .ok (.iload_n 1, 1) := by decide +kernel
theorem dX10_commonDivisor_2 : decode cX10_commonDivisor 2 = .ok (.invokestatic 276, 3) := by decide +kernel
theorem dX10_commonDivisor_5 : decode cX10_commonDivisor 5 = .ok (.istore_n 2, 1) := by decide +kernel
theorem dX10_commonDivisor_6 : decode cX10_commonDivisor 6 = .ok (.iload_n 0, 1) := by decide +kernel
theorem dX10_commonDivisor_7 : decode cX10_commonDivisor 7 = .ok (.iload_n 1, 1) := by decide +kernel
theorem dX10_commonDivisor_8 : decode cX10_commonDivisor 8 = .ok (.invokestatic 271, 3) := by decide +kernel
theorem dX10_commonDivisor_11 : decode cX10_commonDivisor 11 = .ok (.istore_n 3, 1) := by decide +kernel
theorem dX10_commonDivisor_12 : decode cX10_commonDivisor 12 = .ok (.iconst 0, 1) := by decide +kernel
theorem dX10_commonDivisor_13 : decode cX10_commonDivisor 13 = .ok (.istore 4, 2) := by decide +kernel
theorem dX10_commonDivisor_15 : decode cX10_commonDivisor 15 = .ok (.iload 4, 2) := by decide +kernel
theorem dX10_commonDivisor_17 : decode cX10_commonDivisor 17 = .ok (.bipush 64, 2) := by decide +kernel
theorem dX10_commonDivisor_19 : decode cX10_commonDivisor 19 = .ok (.if_icmp .ge 23, 3) := by decide +kernel
theorem dX10_commonDivisor_22 : decode cX10_commonDivisor 22 = .ok (.iload_n 3, 1) := by decide +kernel
theorem dX10_commonDivisor_23 : decode cX10_commonDivisor 23 = .ok (.ifCond .le 19, 3) := by decide +kernel
theorem dX10_commonDivisor_26 : decode cX10_commonDivisor 26 = .ok (.iload_n 2, 1) := by decide +kernel
theorem dX10_commonDivisor_27 : decode cX10_commonDivisor 27 = .ok (.iload_n 3, 1) := by decide +kernel
theorem dX10_commonDivisor_28 : decode cX10_commonDivisor 28 = .ok (.irem, 1) := by decide +kernel
theorem dX10_commonDivisor_29 : decode cX10_commonDivisor 29 = .ok (.istore 5, 2) := by decide +kernel
theorem dX10_commonDivisor_31 : decode cX10_commonDivisor 31 = .ok (.iload_n 3, 1) := by decide +kernel
theorem dX10_commonDivisor_32 : decode cX10_commonDivisor 32 = .ok (.istore_n 2, 1) := by decide +kernel
theorem dX10_commonDivisor_33 : decode cX10_commonDivisor 33 = .ok (.iload 5, 2) := by decide +kernel
theorem dX10_commonDivisor_35 : decode cX10_commonDivisor 35 = .ok (.istore_n 3, 1) := by decide +kernel
theorem dX10_commonDivisor_36 : decode cX10_commonDivisor 36 = .ok (.iinc 4 1, 3) := by decide +kernel
theorem dX10_commonDivisor_39 : decode cX10_commonDivisor 39 = .ok (.goto (-24), 3) := by decide +kernel
theorem dX10_commonDivisor_42 : decode cX10_commonDivisor 42 = .ok (.iload_n 2, 1) := by decide +kernel
theorem dX10_commonDivisor_43 : decode cX10_commonDivisor 43 = .ok (.ireturn, 1) := by decide +kernel
theorem dX11_init_0 : decode cX11_init 0 = .ok (.aload_n 0, 1) := by decide +kernel
theorem dX11_init_1 : decode cX11_init 1 = .ok (.invokespecial 1, 3) := by decide +kernel
theorem dX11_init_4 : decode cX11_init 4 = .ok (.aload_n 0, 1) := by decide +kernel
theorem dX11_init_5 : decode cX11_init 5 = .ok (.sipush 200, 3) := by decide +kernel
theorem dX11_init_8 : decode cX11_init 8 = .ok (.newarray .int, 2) := by decide +kernel
theorem dX11_init_10 : decode cX11_init 10 = .ok (.putfield 7, 3) := by decide +kernel
theorem dX11_init_13 : decode cX11_init 13 = .ok (.aload_n 0, 1) := by decide +kernel
theorem dX11_init_14 : decode cX11_init 14 = .ok (.bipush 47, 2) := by decide +kernel
theorem dX11_init_16 : decode cX11_init 16 = .ok (.newarray .int, 2) := by decide +kernel
theorem dX11_init_18 : decode cX11_init 18 = .ok (.putfield 13, 3) := by decide +kernel
theorem dX11_init_21 : decode cX11_init 21 = .ok (.aload_n 0, 1) := by decide +kernel
theorem dX11_init_22 : decode cX11_init 22 = .ok (.bipush 47, 2) := by decide +kernel
theorem dX11_init_24 : decode cX11_init 24 = .ok (.newarray .int, 2) := by decide +kernel
theorem dX11_init_26 : decode cX11_init 26 = .ok (.putfield 16, 3) := by decide +kernel
theorem dX11_init_29 : decode cX11_init 29 = .ok (.aload_n 0, 1) := by decide +kernel
theorem dX11_init_30 : decode cX11_init 30 = .ok (.bipush 12, 2) := by decide +kernel
theorem dX11_init_32 : decode cX11_init 32 = .ok (.newarray .int, 2) := by decide +kernel
theorem dX11_init_34 : decode cX11_init 34 = .ok (.putfield 19, 3) := by decide +kernel
theorem dX11_init_37 : decode cX11_init 37 = .ok (.aload_n 0, 1) := by decide +kernel
theorem dX11_init_38 : decode cX11_init 38 = .ok (.bipush 96, 2) := by decide +kernel
theorem dX11_init_40 : decode cX11_init 40 = .ok (.newarray .int, 2) := by decide +kernel
theorem dX11_init_42 : decode cX11_init 42 = .ok (.putfield 22, 3) := by decide +kernel
theorem dX11_init_45 : decode cX11_init 45 = .ok (.aload_n 0, 1) := by decide +kernel
theorem dX11_init_46 : decode cX11_init 46 = .ok (.bipush 24, 2) := by decide +kernel
theorem dX11_init_48 : decode cX11_init 48 = .ok (.newarray .int, 2) := by decide +kernel
theorem dX11_init_50 : decode cX11_init 50 = .ok (.putfield 25, 3) := by decide +kernel
theorem dX11_init_53 : decode cX11_init 53 = .ok (.aload_n 0, 1) := by decide +kernel
theorem dX11_init_54 : decode cX11_init 54 = .ok (.bipush 8, 2) := by decide +kernel
theorem dX11_init_56 : decode cX11_init 56 = .ok (.newarray .int, 2) := by decide +kernel
theorem dX11_init_58 : decode cX11_init 58 = .ok (.putfield 28, 3) := by decide +kernel
theorem dX11_init_61 : decode cX11_init 61 = .ok (.aload_n 0, 1) := by decide +kernel
theorem dX11_init_62 : decode cX11_init 62 = .ok (.iconst 4, 1) := by decide +kernel
theorem dX11_init_63 : decode cX11_init 63 = .ok (.newarray .int, 2) := by decide +kernel
theorem dX11_init_65 : decode cX11_init 65 = .ok (.putfield 31, 3) := by decide +kernel
theorem dX11_init_68 : decode cX11_init 68 = .ok (.aload_n 0, 1) := by decide +kernel
theorem dX11_init_69 : decode cX11_init 69 = .ok (.bipush 12, 2) := by decide +kernel
theorem dX11_init_71 : decode cX11_init 71 = .ok (.newarray .int, 2) := by decide +kernel
theorem dX11_init_73 : decode cX11_init 73 = .ok (.putfield 34, 3) := by decide +kernel
theorem dX11_init_76 : decode cX11_init 76 = .ok (.aload_n 0, 1) := by decide +kernel
theorem dX11_init_77 : decode cX11_init 77 = .ok (.bipush 50, 2) := by decide +kernel
theorem dX11_init_79 : decode cX11_init 79 = .ok (.newarray .int, 2) := by decide +kernel
theorem dX11_init_81 : decode cX11_init 81 = .ok (.putfield 37, 3) := by decide +kernel
theorem dX11_init_84 : decode cX11_init 84 = .ok (.aload_n 0, 1) := by decide +kernel
theorem dX11_init_85 : decode cX11_init 85 = .ok (.bipush 41, 2) := by decide +kernel
theorem dX11_init_87 : decode cX11_init 87 = .ok (.newarray .int, 2) := by decide +kernel
theorem dX11_init_89 : decode cX11_init 89 = .ok (.putfield 40, 3) := by decide +kernel
theorem dX11_init_92 : decode cX11_init 92 = .ok (.aload_n 0, 1) := by decide +kernel
theorem dX11_init_93 : decode cX11_init 93 = .ok (.invokevirtual 43, 3) := by decide +kernel
theorem dX11_init_96 : decode cX11_init 96 = .ok (.aload_n 0, 1) := by decide +kernel
theorem dX11_init_97 : decode cX11_init 97 = .ok (.iconst 2, 1) := by decide +kernel
theorem dX11_init_98 : decode cX11_init 98 = .ok (.iconst 3, 1) := by decide +kernel
theorem dX11_init_99 : decode cX11_init 99 = .ok (.iconst 0, 1) := by decide +kernel
theorem dX11_init_100 : decode cX11_init 100 = .ok (.iconst 0, 1) := by decide +kernel
theorem dX11_init_101 : decode cX11_init 101 = .ok (.invokevirtual 46, 3) := by decide +kernel
theorem dX11_init_104 : decode cX11_init 104 = .ok (.aload_n 0, 1) := by decide +kernel
theorem dX11_init_105 : decode cX11_init 105 = .ok (.bipush 9, 2) := by decide +kernel
theorem dX11_init_107 : decode cX11_init 107 = .ok (.iconst 2, 1) := by decide +kernel
theorem dX11_init_108 : decode cX11_init 108 = .ok (.iconst 2, 1) := by decide +kernel
theorem dX11_init_109 : decode cX11_init 109 = .ok (.iconst 4, 1) := by decide +kernel
theorem dX11_init_110 : decode cX11_init 110 = .ok (.invokevirtual 46, 3) := by decide +kernel
theorem dX11_init_113 : decode cX11_init 113 = .ok (.aload_n 0, 1) := by decide +kernel
theorem dX11_init_114 : decode cX11_init 114 = .ok (.bipush 15, 2) := by decide +kernel
theorem dX11_init_116 : decode cX11_init 116 = .ok (.iconst 4, 1) := by decide +kernel
theorem dX11_init_117 : decode cX11_init 117 = .ok (.iconst 1, 1) := by decide +kernel
theorem dX11_init_118 : decode cX11_init 118 = .ok (.iconst 0, 1) := by decide +kernel
theorem dX11_init_119 : decode cX11_init 119 = .ok (.invokevirtual 46, 3) := by decide +kernel
theorem dX11_init_122 : decode cX11_init 122 = .ok (.aload_n 0, 1) := by decide +kernel
theorem dX11_init_123 : decode cX11_init 123 = .ok (.bipush 21, 2) := by decide +kernel
theorem dX11_init_125 : decode cX11_init 125 = .ok (.iconst 5, 1) := by decide +kernel
theorem dX11_init_126 : decode cX11_init 126 = .ok (.iconst 3, 1) := by decide +kernel
theorem dX11_init_127 : decode cX11_init 127 = .ok (.bipush 6, 2) := by decide +kernel
theorem dX11_init_129 : decode cX11_init 129 = .ok (.invokevirtual 46, 3) := by decide +kernel
theorem dX11_init_132 : decode cX11_init 132 = .ok (.aload_n 0, 1) := by decide +kernel
theorem dX11_init_133 : decode cX11_init 133 = .ok (.iconst 4, 1) := by decide +kernel
theorem dX11_init_134 : decode cX11_init 134 = .ok (.iconst 1, 1) := by decide +kernel
theorem dX11_init_135 : decode cX11_init 135 = .ok (.invokevirtual 50, 3) := by decide +kernel
theorem dX11_init_138 : decode cX11_init 138 = .ok (.aload_n 0, 1) := by decide +kernel
theorem dX11_init_139 : decode cX11_init 139 = .ok (.bipush 10, 2) := by decide +kernel
theorem dX11_init_141 : decode cX11_init 141 = .ok (.iconst 2, 1) := by decide +kernel
theorem dX11_init_142 : decode cX11_init 142 = .ok (.invokevirtual 50, 3) := by decide +kernel
theorem dX11_init_145 : decode cX11_init 145 = .ok (.aload_n 0, 1) := by decide +kernel
theorem dX11_init_146 : decode cX11_init 146 = .ok (.bipush 20, 2) := by decide +kernel
theorem dX11_init_148 : decode cX11_init 148 = .ok (.iconst 0, 1) := by decide +kernel
theorem dX11_init_149 : decode cX11_init 149 = .ok (.invokevirtual 50, 3) := by decide +kernel
theorem dX11_init_152 : decode cX11_init 152 = .ok (.aload_n 0, 1) := by decide +kernel
theorem dX11_init_153 : decode cX11_init 153 = .ok (.iconst 0, 1) := by decide +kernel
theorem dX11_init_154 : decode cX11_init 154 = .ok (.invokevirtual 54, 3) := by decide +kernel
theorem dX11_init_157 : decode cX11_init 157 = .ok (.aload_n 0, 1) := by decide +kernel
theorem dX11_init_158 : decode cX11_init 158 = .ok (.bipush 8, 2) := by decide +kernel
theorem dX11_init_160 : decode cX11_init 160 = .ok (.invokevirtual 54, 3) := by decide +kernel
theorem dX11_init_163 : decode cX11_init 163 = .ok (.aload_n 0, 1) := by decide +kernel
theorem dX11_init_164 : decode cX11_init 164 = .ok (.bipush 12, 2) := by decide +kernel
theorem dX11_init_166 : decode cX11_init 166 = .ok (.invokevirtual 54, 3) := by decide +kernel
theorem dX11_init_169 : decode cX11_init 169 = .ok (.aload_n 0, 1) := by decide +kernel
theorem dX11_init_170 : decode cX11_init 170 = .ok (.bipush 23, 2) := by decide +kernel
theorem dX11_init_172 : decode cX11_init 172 = .ok (.invokevirtual 54, 3) := by decide +kernel
theorem dX11_init_175 : decode cX11_init 175 = .ok (.aload_n 0, 1) := by decide +kernel
theorem dX11_init_176 : decode cX11_init 176 = .ok (.bipush 16, 2) := by decide +kernel
theorem dX11_init_178 : decode cX11_init 178 = .ok (.invokevirtual 54, 3) := by decide +kernel
theorem dX11_init_181 : decode cX11_init 181 = .ok (.aload_n 0, 1) := by decide +kernel
theorem dX11_init_182 : decode cX11_init 182 = .ok (.invokevirtual 58, 3) := by decide +kernel
theorem dX11_init_185 : decode cX11_init 185 = .ok (.return_, 1) := by decide +kernel
theorem dX11_in_0 : decode cX11_in 0 = .ok (.iload_n 0, 1) := by decide +kernel
theorem dX11_in_1 : decode cX11_in 1 = .ok (.iload_n 1, 1) := by decide +kernel
theorem dX11_in_2 : decode cX11_in 2 = .ok (.if_icmp .lt 12, 3) := by decide +kernel
theorem dX11_in_5 : decode cX11_in 5 = .ok (.iload_n 0, 1) := by decide +kernel
theorem dX11_in_6 : decode cX11_in 6 = .ok (.iload_n 2, 1) := by decide +kernel
theorem dX11_in_7 : decode cX11_in 7 = .ok (.if_icmp .gt 7, 3) := by decide +kernel
theorem dX11_in_10 : decode cX11_in 10 = .ok (.iconst 1, 1) := by decide +kernel
theorem dX11_in_11 : decode cX11_in 11 = .ok (.goto 4, 3) := by decide +kernel
theorem dX11_in_14 : decode cX11_in 14 = .ok (.iconst 0, 1) := by decide +kernel
theorem dX11_in_15 : decode cX11_in 15 = .ok (.ireturn, 1) := by decide +kernel
theorem dX11_isRope_0 : decode cX11_isRope 0 = .ok (.iload_n 1, 1) := by decide +kernel
theorem dX11_isRope_1 : decode cX11_isRope 1 = .ok (.iconst 0, 1) := by decide +kernel
theorem dX11_isRope_2 : decode cX11_isRope 2 = .ok (.aload_n 0, 1) := by decide +kernel
theorem dX11_isRope_3 : decode cX11_isRope 3 = .ok (.getfield 13, 3) := by decide +kernel
theorem dX11_isRope_6 : decode cX11_isRope 6 = .ok (.iconst 0, 1) := by decide +kernel
theorem dX11_isRope_7 : decode cX11_isRope 7 = .ok (.iaload, 1) := by decide +kernel
theorem dX11_isRope_8 : decode cX11_isRope 8 = .ok (.iconst 1, 1) := by decide +kernel
theorem dX11_isRope_9 : decode cX11_isRope 9 = .ok (.isub, 1) := by decide +kernel
theorem dX11_isRope_10 : decode cX11_isRope 10 = .ok (.invokestatic 61, 3) := by decide +kernel
theorem dX11_isRope_13 : decode cX11_isRope 13 = .ok (.ireturn, 1) := by decide +kernel
theorem dX11_isYard_0 : decode cX11_isYard 0 = .ok (.iload_n 0, 1) := by decide +kernel
theorem dX11_isYard_1 : decode cX11_isYard 1 = .ok (.iconst 0, 1) := by decide +kernel
theorem dX11_isYard_2 : decode cX11_isYard 2 = .ok (.bipush 23, 2) := by decide +kernel
theorem dX11_isYard_4 : decode cX11_isYard 4 = .ok (.invokestatic 61, 3) := by decide +kernel
theorem dX11_isYard_7 : decode cX11_isYard 7 = .ok (.ireturn, 1) := by decide +kernel
theorem dX11_sets_0 : decode cX11_sets 0 = .ok (.iconst 1, 1) := by decide +kernel
theorem dX11_sets_1 : decode cX11_sets 1 = .ok (.aload_n 0, 1) := by decide +kernel
theorem dX11_sets_2 : decode cX11_sets 2 = .ok (.getfield 13, 3) := by decide +kernel
theorem dX11_sets_5 : decode cX11_sets 5 = .ok (.iconst 0, 1) := by decide +kernel
theorem dX11_sets_6 : decode cX11_sets 6 = .ok (.iaload, 1) := by decide +kernel
theorem dX11_sets_7 : decode cX11_sets 7 = .ok (.ishl, 1) := by decide +kernel
theorem dX11_sets_8 : decode cX11_sets 8 = .ok (.ireturn, 1) := by decide +kernel
theorem dX11_ones_0 : decode cX11_ones 0 = .ok (.iconst 0, 1) := by decide +kernel
theorem dX11_ones_1 : decode cX11_ones 1 = .ok (.istore_n 1, 1) := by decide +kernel
theorem dX11_ones_2 : decode cX11_ones 2 = .ok (.iconst 0, 1) := by decide +kernel
theorem dX11_ones_3 : decode cX11_ones 3 = .ok (.istore_n 2, 1) := by decide +kernel
theorem dX11_ones_4 : decode cX11_ones 4 = .ok (.iload_n 2, 1) := by decide +kernel
theorem dX11_ones_5 : decode cX11_ones 5 = .ok (.bipush 8, 2) := by decide +kernel
theorem dX11_ones_7 : decode cX11_ones 7 = .ok (.if_icmp .ge 17, 3) := by decide +kernel
theorem dX11_ones_10 : decode cX11_ones 10 = .ok (.iload_n 1, 1) := by decide +kernel
theorem dX11_ones_11 : decode cX11_ones 11 = .ok (.iload_n 0, 1) := by decide +kernel
theorem dX11_ones_12 : decode cX11_ones 12 = .ok (.iload_n 2, 1) := by decide +kernel
theorem dX11_ones_13 : decode cX11_ones 13 = .ok (.ishr, 1) := by decide +kernel
theorem dX11_ones_14 : decode cX11_ones 14 = .ok (.iconst 1, 1) := by decide +kernel
theorem dX11_ones_15 : decode cX11_ones 15 = .ok (.iand, 1) := by decide +kernel
theorem dX11_ones_16 : decode cX11_ones 16 = .ok (.iadd, 1) := by decide +kernel
theorem dX11_ones_17 : decode cX11_ones 17 = .ok (.istore_n 1, 1) := by decide +kernel
theorem dX11_ones_18 : decode cX11_ones 18 = .ok (.iinc 2 1, 3) := by decide +kernel
theorem dX11_ones_21 : decode cX11_ones 21 = .ok (.goto (-17), 3) := by decide +kernel
theorem dX11_ones_24 : decode cX11_ones 24 = .ok (.iload_n 1, 1) := by decide +kernel
theorem dX11_ones_25 : decode cX11_ones 25 = .ok (.ireturn, 1) := by decide +kernel
theorem dX11_write_0 : decode cX11_write 0 = .ok (.iload_n 1, 1) := by decide +kernel
theorem dX11_write_1 : decode cX11_write 1 = .ok (.bipush 32, 2) := by decide +kernel
theorem dX11_write_3 : decode cX11_write 3 = .ok (.bipush 126, 2) := by decide +kernel
theorem dX11_write_5 : decode cX11_write 5 = .ok (.invokestatic 61, 3) := by decide +kernel
theorem dX11_write_8 : decode cX11_write 8 = .ok (.ifCond .ne 5, 3) := by decide +kernel
theorem dX11_write_11 : decode cX11_write 11 = .ok (.iconst (-1), 1) := by decide +kernel
theorem dX11_write_12 : decode cX11_write 12 = .ok (.ireturn, 1) := by decide +kernel
theorem dX11_write_13 : decode cX11_write 13 = .ok (.aload_n 0, 1) := by decide +kernel
theorem dX11_write_14 : decode cX11_write 14 = .ok (.getfield 65, 3) := by decide +kernel
theorem dX11_write_17 : decode cX11_write 17 = .ok (.sipush 200, 3) := by decide +kernel
theorem dX11_write_20 : decode cX11_write 20 = .ok (.if_icmp .ne 6, 3) := by decide +kernel
theorem dX11_write_23 : decode cX11_write 23 = .ok (.bipush (-3), 2) := by decide +kernel
theorem dX11_write_25 : decode cX11_write 25 = .ok (.ireturn, 1) := by decide +kernel
theorem dX11_write_26 : decode cX11_write 26 = .ok (.aload_n 0, 1) := by decide +kernel
theorem dX11_write_27 : decode cX11_write 27 = .ok (.getfield 7, 3) := by decide +kernel
theorem dX11_write_30 : decode cX11_write 30 = .ok (.aload_n 0, 1) := by decide +kernel
theorem dX11_write_31 : decode cX11_write 31 = .ok (.getfield 65, 3) := by decide +kernel
theorem dX11_write_34 : decode cX11_write 34 = .ok (.iload_n 1, 1) := by decide +kernel
theorem dX11_write_35 : decode cX11_write 35 = .ok (.iastore, 1) := by decide +kernel
theorem dX11_write_36 : decode cX11_write 36 = .ok (.aload_n 0, 1) := by decide +kernel
theorem dX11_write_37 : decode cX11_write 37 = .ok (.dup, 1) := by decide +kernel
theorem dX11_write_38 : decode cX11_write 38 = .ok (.getfield 65, 3) := by decide +kernel
theorem dX11_write_41 : decode cX11_write 41 = .ok (.iconst 1, 1) := by decide +kernel
theorem dX11_write_42 : decode cX11_write 42 = .ok (.iadd, 1) := by decide +kernel
theorem dX11_write_43 : decode cX11_write 43 = .ok (.putfield 65, 3) := by decide +kernel
theorem dX11_write_46 : decode cX11_write 46 = .ok (.aload_n 0, 1) := by decide +kernel
theorem dX11_write_47 : decode cX11_write 47 = .ok (.getfield 65, 3) := by decide +kernel
theorem dX11_write_50 : decode cX11_write 50 = .ok (.ireturn, 1) := by decide +kernel
theorem dX11_wipe_0 : decode cX11_wipe 0 = .ok (.aload_n 0, 1) := by decide +kernel
theorem dX11_wipe_1 : decode cX11_wipe 1 = .ok (.getfield 65, 3) := by decide +kernel
theorem dX11_wipe_4 : decode cX11_wipe 4 = .ok (.istore_n 1, 1) := by decide +kernel
theorem dX11_wipe_5 : decode cX11_wipe 5 = .ok (.aload_n 0, 1) := by decide +kernel
theorem dX11_wipe_6 : decode cX11_wipe 6 = .ok (.iconst 0, 1) := by decide +kernel
theorem dX11_wipe_7 : decode cX11_wipe 7 = .ok (.putfield 65, 3) := by decide +kernel
theorem dX11_wipe_10 : decode cX11_wipe 10 = .ok (.iload_n 1, 1) := by decide +kernel
theorem dX11_wipe_11 : decode cX11_wipe 11 = .ok (.ireturn, 1) := by decide +kernel
theorem dX11_letterAt_0 : decode cX11_letterAt 0 = .ok (.iload_n 1, 1) := by decide +kernel
theorem dX11_letterAt_1 : decode cX11_letterAt 1 = .ok (.aload_n 0, 1) := by decide +kernel
theorem dX11_letterAt_2 : decode cX11_letterAt 2 = .ok (.getfield 65, 3) := by decide +kernel
theorem dX11_letterAt_5 : decode cX11_letterAt 5 = .ok (.if_icmp .ge 12, 3) := by decide +kernel
theorem dX11_letterAt_8 : decode cX11_letterAt 8 = .ok (.aload_n 0, 1) := by decide +kernel
theorem dX11_letterAt_9 : decode cX11_letterAt 9 = .ok (.getfield 7, 3) := by decide +kernel
theorem dX11_letterAt_12 : decode cX11_letterAt 12 = .ok (.iload_n 1, 1) := by decide +kernel
theorem dX11_letterAt_13 : decode cX11_letterAt 13 = .ok (.iaload, 1) := by decide +kernel
theorem dX11_letterAt_14 : decode cX11_letterAt 14 = .ok (.goto 4, 3) := by decide +kernel
theorem dX11_letterAt_17 : decode cX11_letterAt 17 = .ok (.iconst (-1), 1) := by decide +kernel
theorem dX11_letterAt_18 : decode cX11_letterAt 18 = .ok (.ireturn, 1) := by decide +kernel
theorem dX11_isFigure_0 : decode cX11_isFigure 0 = .ok (.iload_n 0, 1) := by decide +kernel
theorem dX11_isFigure_1 : decode cX11_isFigure 1 = .ok (.bipush 48, 2) := by decide +kernel
theorem dX11_isFigure_3 : decode cX11_isFigure 3 = .ok (.bipush 57, 2) := by decide +kernel
theorem dX11_isFigure_5 : decode cX11_isFigure 5 = .ok (.invokestatic 61, 3) := by decide +kernel
theorem dX11_isFigure_8 : decode cX11_isFigure 8 = .ok (.ireturn, 1) := by decide +kernel
theorem dX11_number_0 : decode cX11_number 0 = .ok (.aload_n 0, 1) := by decide +kernel
theorem dX11_number_1 : decode cX11_number 1 = .ok (.aload_n 0, 1) := by decide +kernel
theorem dX11_number_2 : decode cX11_number 2 = .ok (.getfield 69, 3) := by decide +kernel
theorem dX11_number_5 : decode cX11_number 5 = .ok (.invokevirtual 72, 3) := by decide +kernel
theorem dX11_number_8 : decode cX11_number 8 = .ok (.invokestatic 76, 3) := by decide +kernel
theorem dX11_number_11 : decode cX11_number 11 = .ok (.ifCond .ne 5, 3) := by decide +kernel
theorem dX11_number_14 : decode cX11_number 14 = .ok (.iconst (-1), 1) := by decide +kernel
theorem dX11_number_15 : decode cX11_number 15 = .ok (.ireturn, 1) := by decide +kernel
theorem dX11_number_16 : decode cX11_number 16 = .ok (.aload_n 0, 1) := by decide +kernel
theorem dX11_number_17 : decode cX11_number 17 = .ok (.aload_n 0, 1) := by decide +kernel
theorem dX11_number_18 : decode cX11_number 18 = .ok (.getfield 69, 3) := by decide +kernel
theorem dX11_number_21 : decode cX11_number 21 = .ok (.invokevirtual 72, 3) := by decide +kernel
theorem dX11_number_24 : decode cX11_number 24 = .ok (.bipush 48, 2) := by decide +kernel
theorem dX11_number_26 : decode cX11_number 26 = .ok (.isub, 1) := by decide +kernel
theorem dX11_number_27 : decode cX11_number 27 = .ok (.istore_n 1, 1) := by decide +kernel
theorem dX11_number_28 : decode cX11_number 28 = .ok (.aload_n 0, 1) := by decide +kernel
theorem dX11_number_29 : decode cX11_number 29 = .ok (.dup, 1) := by decide +kernel
theorem dX11_number_30 : decode cX11_number 30 = .ok (.getfield 69, 3) := by decide +kernel
theorem dX11_number_33 : decode cX11_number 33 = .ok (.iconst 1, 1) := by decide +kernel
theorem dX11_number_34 : decode cX11_number 34 = .ok (.iadd, 1) := by decide +kernel
theorem dX11_number_35 : decode cX11_number 35 = .ok (.putfield 69, 3) := by decide +kernel
theorem dX11_number_38 : decode cX11_number 38 = .ok (.aload_n 0, 1) := by decide +kernel
theorem dX11_number_39 : decode cX11_number 39 = .ok (.aload_n 0, 1) := by decide +kernel
theorem dX11_number_40 : decode cX11_number 40 = .ok (.getfield 69, 3) := by decide +kernel
theorem dX11_number_43 : decode cX11_number 43 = .ok (.invokevirtual 72, 3) := by decide +kernel
theorem dX11_number_46 : decode cX11_number 46 = .ok (.invokestatic 76, 3) := by decide +kernel
theorem dX11_number_49 : decode cX11_number 49 = .ok (.ifCond .eq 30, 3) := by decide +kernel
theorem dX11_number_52 : decode cX11_number 52 = .ok (.bipush 10, 2) := by decide +kernel
theorem dX11_number_54 : decode cX11_number 54 = .ok (.iload_n 1, 1) := by decide +kernel
theorem dX11_number_55 : decode cX11_number 55 = .ok (.imul, 1) := by decide +kernel
theorem dX11_number_56 : decode cX11_number 56 = .ok (.aload_n 0, 1) := by decide +kernel
theorem dX11_number_57 : decode cX11_number 57 = .ok (.aload_n 0, 1) := by decide +kernel
theorem dX11_number_58 : decode cX11_number 58 = .ok (.getfield 69, 3) := by decide +kernel
theorem dX11_number_61 : decode cX11_number 61 = .ok (.invokevirtual 72, 3) := by decide +kernel
theorem dX11_number_64 : decode cX11_number 64 = .ok (.iadd, 1) := by decide +kernel
theorem dX11_number_65 : decode cX11_number 65 = .ok (.bipush 48, 2) := by decide +kernel
theorem dX11_number_67 : decode cX11_number 67 = .ok (.isub, 1) := by decide +kernel
theorem dX11_number_68 : decode cX11_number 68 = .ok (.istore_n 1, 1) := by decide +kernel
theorem dX11_number_69 : decode cX11_number 69 = .ok (.aload_n 0, 1) := by decide +kernel
theorem dX11_number_70 : decode cX11_number 70 = .ok (.dup, 1) := by decide +kernel
theorem dX11_number_71 : decode cX11_number 71 = .ok (.getfield 69, 3) := by decide +kernel
theorem dX11_number_74 : decode cX11_number 74 = .ok (.iconst 1, 1) := by decide +kernel
theorem dX11_number_75 : decode cX11_number 75 = .ok (.iadd, 1) := by decide +kernel
theorem dX11_number_76 : decode cX11_number 76 = .ok (.putfield 69, 3) := by decide +kernel
theorem dX11_number_79 : decode cX11_number 79 = .ok (.iload_n 1, 1) := by decide +kernel
theorem dX11_number_80 : decode cX11_number 80 = .ok (.ireturn, 1) := by decide +kernel
theorem dX11_reads_0 : decode cX11_reads 0 = .ok (.iconst 1, 1) := by decide +kernel
theorem dX11_reads_1 : decode cX11_reads 1 = .ok (.istore_n 2, 1) := by decide +kernel
theorem dX11_reads_2 : decode cX11_reads 2 = .ok (.iconst 0, 1) := by decide +kernel
theorem dX11_reads_3 : decode cX11_reads 3 = .ok (.istore_n 3, 1) := by decide +kernel
theorem dX11_reads_4 : decode cX11_reads 4 = .ok (.iload_n 3, 1) := by decide +kernel
theorem dX11_reads_5 : decode cX11_reads 5 = .ok (.iload_n 1, 1) := by decide +kernel
theorem dX11_reads_6 : decode cX11_reads 6 = .ok (.if_icmp .ge 91, 3) := by decide +kernel
theorem dX11_reads_9 : decode cX11_reads 9 = .ok (.iload_n 2, 1) := by decide +kernel
theorem dX11_reads_10 : decode cX11_reads 10 = .ok (.ifCond .eq 87, 3) := by decide +kernel
theorem dX11_reads_13 : decode cX11_reads 13 = .ok (.iload_n 3, 1) := by decide +kernel
theorem dX11_reads_14 : decode cX11_reads 14 = .ok (.ifCond .eq 16, 3) := by decide +kernel
theorem dX11_reads_17 : decode cX11_reads 17 = .ok (.aload_n 0, 1) := by decide +kernel
theorem dX11_reads_18 : decode cX11_reads 18 = .ok (.aload_n 0, 1) := by decide +kernel
theorem dX11_reads_19 : decode cX11_reads 19 = .ok (.getfield 69, 3) := by decide +kernel
theorem dX11_reads_22 : decode cX11_reads 22 = .ok (.invokevirtual 72, 3) := by decide +kernel
theorem dX11_reads_25 : decode cX11_reads 25 = .ok (.bipush 44, 2) := by decide +kernel
theorem dX11_reads_27 : decode cX11_reads 27 = .ok (.if_icmp .ne 7, 3) := by decide +kernel
theorem dX11_reads_30 : decode cX11_reads 30 = .ok (.iconst 1, 1) := by decide +kernel
theorem dX11_reads_31 : decode cX11_reads 31 = .ok (.goto 4, 3) := by decide +kernel
theorem dX11_reads_34 : decode cX11_reads 34 = .ok (.iconst 0, 1) := by decide +kernel
theorem dX11_reads_35 : decode cX11_reads 35 = .ok (.istore_n 2, 1) := by decide +kernel
theorem dX11_reads_36 : decode cX11_reads 36 = .ok (.aload_n 0, 1) := by decide +kernel
theorem dX11_reads_37 : decode cX11_reads 37 = .ok (.dup, 1) := by decide +kernel
theorem dX11_reads_38 : decode cX11_reads 38 = .ok (.getfield 69, 3) := by decide +kernel
theorem dX11_reads_41 : decode cX11_reads 41 = .ok (.iload_n 3, 1) := by decide +kernel
theorem dX11_reads_42 : decode cX11_reads 42 = .ok (.ifCond .eq 7, 3) := by decide +kernel
theorem dX11_reads_45 : decode cX11_reads 45 = .ok (.iload_n 2, 1) := by decide +kernel
theorem dX11_reads_46 : decode cX11_reads 46 = .ok (.ifCond .ne 7, 3) := by decide +kernel
theorem dX11_reads_49 : decode cX11_reads 49 = .ok (.iconst 0, 1) := by decide +kernel
theorem dX11_reads_50 : decode cX11_reads 50 = .ok (.goto 4, 3) := by decide +kernel
theorem dX11_reads_53 : decode cX11_reads 53 = .ok (.iconst 1, 1) := by decide +kernel
theorem dX11_reads_54 : decode cX11_reads 54 = .ok (.iadd, 1) := by decide +kernel
theorem dX11_reads_55 : decode cX11_reads 55 = .ok (.putfield 69, 3) := by decide +kernel
theorem dX11_reads_58 : decode cX11_reads 58 = .ok (.aload_n 0, 1) := by decide +kernel
theorem dX11_reads_59 : decode cX11_reads 59 = .ok (.getfield 31, 3) := by decide +kernel
theorem dX11_reads_62 : decode cX11_reads 62 = .ok (.iload_n 3, 1) := by decide +kernel
theorem dX11_reads_63 : decode cX11_reads 63 = .ok (.iload_n 2, 1) := by decide +kernel
theorem dX11_reads_64 : decode cX11_reads 64 = .ok (.ifCond .eq 10, 3) := by decide +kernel
theorem dX11_reads_67 : decode cX11_reads 67 = .ok (.aload_n 0, 1) := by decide +kernel
theorem dX11_reads_68 : decode cX11_reads 68 = .ok (.invokevirtual 80, 3) := by decide +kernel
theorem dX11_reads_71 : decode cX11_reads 71 = .ok (.goto 4, 3) := by decide +kernel
theorem dX11_reads_74 : decode cX11_reads 74 = .ok (.iconst (-1), 1) := by decide +kernel
theorem dX11_reads_75 : decode cX11_reads 75 = .ok (.iastore, 1) := by decide +kernel
theorem dX11_reads_76 : decode cX11_reads 76 = .ok (.aload_n 0, 1) := by decide +kernel
theorem dX11_reads_77 : decode cX11_reads 77 = .ok (.getfield 31, 3) := by decide +kernel
theorem dX11_reads_80 : decode cX11_reads 80 = .ok (.iload_n 3, 1) := by decide +kernel
theorem dX11_reads_81 : decode cX11_reads 81 = .ok (.iaload, 1) := by decide +kernel
theorem dX11_reads_82 : decode cX11_reads 82 = .ok (.ifCond .lt 7, 3) := by decide +kernel
theorem dX11_reads_85 : decode cX11_reads 85 = .ok (.iconst 1, 1) := by decide +kernel
theorem dX11_reads_86 : decode cX11_reads 86 = .ok (.goto 4, 3) := by decide +kernel
theorem dX11_reads_89 : decode cX11_reads 89 = .ok (.iconst 0, 1) := by decide +kernel
theorem dX11_reads_90 : decode cX11_reads 90 = .ok (.istore_n 2, 1) := by decide +kernel
theorem dX11_reads_91 : decode cX11_reads 91 = .ok (.iinc 3 1, 3) := by decide +kernel
theorem dX11_reads_94 : decode cX11_reads 94 = .ok (.goto (-90), 3) := by decide +kernel
theorem dX11_reads_97 : decode cX11_reads 97 = .ok (.iload_n 2, 1) := by decide +kernel
theorem dX11_reads_98 : decode cX11_reads 98 = .ok (.ifCond .eq 20, 3) := by decide +kernel
theorem dX11_reads_101 : decode cX11_reads 101 = .ok (.aload_n 0, 1) := by decide +kernel
theorem dX11_reads_102 : decode cX11_reads 102 = .ok (.aload_n 0, 1) := by decide +kernel
theorem dX11_reads_103 : decode cX11_reads 103 = .ok (.getfield 69, 3) := by decide +kernel
theorem dX11_reads_106 : decode cX11_reads 106 = .ok (.invokevirtual 72, 3) := by decide +kernel
theorem dX11_reads_109 : decode cX11_reads 109 = .ok (.bipush 59, 2) := by decide +kernel
theorem dX11_reads_111 : decode cX11_reads 111 = .ok (.if_icmp .ne 7, 3) := by decide +kernel
theorem dX11_reads_114 : decode cX11_reads 114 = .ok (.iconst 1, 1) := by decide +kernel
theorem dX11_reads_115 : decode cX11_reads 115 = .ok (.goto 4, 3) := by decide +kernel
theorem dX11_reads_118 : decode cX11_reads 118 = .ok (.iconst 0, 1) := by decide +kernel
theorem dX11_reads_119 : decode cX11_reads 119 = .ok (.istore_n 2, 1) := by decide +kernel
theorem dX11_reads_120 : decode cX11_reads 120 = .ok (.aload_n 0, 1) := by decide +kernel
theorem dX11_reads_121 : decode cX11_reads 121 = .ok (.dup, 1) := by decide +kernel
theorem dX11_reads_122 : decode cX11_reads 122 = .ok (.getfield 69, 3) := by decide +kernel
theorem dX11_reads_125 : decode cX11_reads 125 = .ok (.iload_n 2, 1) := by decide +kernel
theorem dX11_reads_126 : decode cX11_reads 126 = .ok (.ifCond .eq 7, 3) := by decide +kernel
theorem dX11_reads_129 : decode cX11_reads 129 = .ok (.iconst 1, 1) := by decide +kernel
theorem dX11_reads_130 : decode cX11_reads 130 = .ok (.goto 4, 3) := by decide +kernel
theorem dX11_reads_133 : decode cX11_reads 133 = .ok (.iconst 0, 1) := by decide +kernel
theorem dX11_reads_134 : decode cX11_reads 134 = .ok (.iadd, 1) := by decide +kernel
theorem dX11_reads_135 : decode cX11_reads 135 = .ok (.putfield 69, 3) := by decide +kernel
theorem dX11_reads_138 : decode cX11_reads 138 = .ok (.iload_n 2, 1) := by decide +kernel
theorem dX11_reads_139 : decode cX11_reads 139 = .ok (.ireturn, 1) := by decide +kernel
theorem dX11_begins_0 : decode cX11_begins 0 = .ok (.iconst 0, 1) := by decide +kernel
theorem dX11_begins_1 : decode cX11_begins 1 = .ok (.istore_n 1, 1) := by decide +kernel
theorem dX11_begins_2 : decode cX11_begins 2 = .ok (.iload_n 1, 1) := by decide +kernel
theorem dX11_begins_3 : decode cX11_begins 3 = .ok (.bipush 47, 2) := by decide +kernel
theorem dX11_begins_5 : decode cX11_begins 5 = .ok (.if_icmp .ge 16, 3) := by decide +kernel
theorem dX11_begins_8 : decode cX11_begins 8 = .ok (.aload_n 0, 1) := by decide +kernel
theorem dX11_begins_9 : decode cX11_begins 9 = .ok (.getfield 16, 3) := by decide +kernel
theorem dX11_begins_12 : decode cX11_begins 12 = .ok (.iload_n 1, 1) := by decide +kernel
theorem dX11_begins_13 : decode cX11_begins 13 = .ok (.iconst 0, 1) := by decide +kernel
theorem dX11_begins_14 : decode cX11_begins 14 = .ok (.iastore, 1) := by decide +kernel
theorem dX11_begins_15 : decode cX11_begins 15 = .ok (.iinc 1 1, 3) := by decide +kernel
theorem dX11_begins_18 : decode cX11_begins 18 = .ok (.goto (-16), 3) := by decide +kernel
theorem dX11_begins_21 : decode cX11_begins 21 = .ok (.aload_n 0, 1) := by decide +kernel
theorem dX11_begins_22 : decode cX11_begins 22 = .ok (.getfield 16, 3) := by decide +kernel
theorem dX11_begins_25 : decode cX11_begins 25 = .ok (.iconst 3, 1) := by decide +kernel
theorem dX11_begins_26 : decode cX11_begins 26 = .ok (.iconst 1, 1) := by decide +kernel
theorem dX11_begins_27 : decode cX11_begins 27 = .ok (.iastore, 1) := by decide +kernel
theorem dX11_begins_28 : decode cX11_begins 28 = .ok (.aload_n 0, 1) := by decide +kernel
theorem dX11_begins_29 : decode cX11_begins 29 = .ok (.getfield 16, 3) := by decide +kernel
theorem dX11_begins_32 : decode cX11_begins 32 = .ok (.iconst 4, 1) := by decide +kernel
theorem dX11_begins_33 : decode cX11_begins 33 = .ok (.iconst 2, 1) := by decide +kernel
theorem dX11_begins_34 : decode cX11_begins 34 = .ok (.iastore, 1) := by decide +kernel
theorem dX11_begins_35 : decode cX11_begins 35 = .ok (.return_, 1) := by decide +kernel
theorem dX11_ropeOf_0 : decode cX11_ropeOf 0 = .ok (.aload_n 0, 1) := by decide +kernel
theorem dX11_ropeOf_1 : decode cX11_ropeOf 1 = .ok (.getfield 16, 3) := by decide +kernel
theorem dX11_ropeOf_4 : decode cX11_ropeOf 4 = .ok (.iconst 0, 1) := by decide +kernel
theorem dX11_ropeOf_5 : decode cX11_ropeOf 5 = .ok (.iaload, 1) := by decide +kernel
theorem dX11_ropeOf_6 : decode cX11_ropeOf 6 = .ok (.istore 5, 2) := by decide +kernel
theorem dX11_ropeOf_8 : decode cX11_ropeOf 8 = .ok (.aload_n 0, 1) := by decide +kernel
theorem dX11_ropeOf_9 : decode cX11_ropeOf 9 = .ok (.getfield 16, 3) := by decide +kernel
theorem dX11_ropeOf_12 : decode cX11_ropeOf 12 = .ok (.iconst 5, 1) := by decide +kernel
theorem dX11_ropeOf_13 : decode cX11_ropeOf 13 = .ok (.iload 5, 2) := by decide +kernel
theorem dX11_ropeOf_15 : decode cX11_ropeOf 15 = .ok (.iadd, 1) := by decide +kernel
theorem dX11_ropeOf_16 : decode cX11_ropeOf 16 = .ok (.iload_n 1, 1) := by decide +kernel
theorem dX11_ropeOf_17 : decode cX11_ropeOf 17 = .ok (.iastore, 1) := by decide +kernel
theorem dX11_ropeOf_18 : decode cX11_ropeOf 18 = .ok (.aload_n 0, 1) := by decide +kernel
theorem dX11_ropeOf_19 : decode cX11_ropeOf 19 = .ok (.getfield 16, 3) := by decide +kernel
theorem dX11_ropeOf_22 : decode cX11_ropeOf 22 = .ok (.bipush 10, 2) := by decide +kernel
theorem dX11_ropeOf_24 : decode cX11_ropeOf 24 = .ok (.iload 5, 2) := by decide +kernel
theorem dX11_ropeOf_26 : decode cX11_ropeOf 26 = .ok (.iadd, 1) := by decide +kernel
theorem dX11_ropeOf_27 : decode cX11_ropeOf 27 = .ok (.iload_n 2, 1) := by decide +kernel
theorem dX11_ropeOf_28 : decode cX11_ropeOf 28 = .ok (.iastore, 1) := by decide +kernel
theorem dX11_ropeOf_29 : decode cX11_ropeOf 29 = .ok (.aload_n 0, 1) := by decide +kernel
theorem dX11_ropeOf_30 : decode cX11_ropeOf 30 = .ok (.getfield 16, 3) := by decide +kernel
theorem dX11_ropeOf_33 : decode cX11_ropeOf 33 = .ok (.bipush 15, 2) := by decide +kernel
theorem dX11_ropeOf_35 : decode cX11_ropeOf 35 = .ok (.iload 5, 2) := by decide +kernel
theorem dX11_ropeOf_37 : decode cX11_ropeOf 37 = .ok (.iadd, 1) := by decide +kernel
theorem dX11_ropeOf_38 : decode cX11_ropeOf 38 = .ok (.iload_n 3, 1) := by decide +kernel
theorem dX11_ropeOf_39 : decode cX11_ropeOf 39 = .ok (.iastore, 1) := by decide +kernel
theorem dX11_ropeOf_40 : decode cX11_ropeOf 40 = .ok (.aload_n 0, 1) := by decide +kernel
theorem dX11_ropeOf_41 : decode cX11_ropeOf 41 = .ok (.getfield 16, 3) := by decide +kernel
theorem dX11_ropeOf_44 : decode cX11_ropeOf 44 = .ok (.bipush 20, 2) := by decide +kernel
theorem dX11_ropeOf_46 : decode cX11_ropeOf 46 = .ok (.iload 5, 2) := by decide +kernel
theorem dX11_ropeOf_48 : decode cX11_ropeOf 48 = .ok (.iadd, 1) := by decide +kernel
theorem dX11_ropeOf_49 : decode cX11_ropeOf 49 = .ok (.iload 4, 2) := by decide +kernel
theorem dX11_ropeOf_51 : decode cX11_ropeOf 51 = .ok (.iastore, 1) := by decide +kernel
theorem dX11_ropeOf_52 : decode cX11_ropeOf 52 = .ok (.aload_n 0, 1) := by decide +kernel
theorem dX11_ropeOf_53 : decode cX11_ropeOf 53 = .ok (.getfield 16, 3) := by decide +kernel
theorem dX11_ropeOf_56 : decode cX11_ropeOf 56 = .ok (.iconst 0, 1) := by decide +kernel
theorem dX11_ropeOf_57 : decode cX11_ropeOf 57 = .ok (.dup2, 1) := by decide +kernel
theorem dX11_ropeOf_58 : decode cX11_ropeOf 58 = .ok (.iaload, 1) := by decide +kernel
theorem dX11_ropeOf_59 : decode cX11_ropeOf 59 = .ok (.iconst 1, 1) := by decide +kernel
theorem dX11_ropeOf_60 : decode cX11_ropeOf 60 = .ok (.iadd, 1) := by decide +kernel
theorem dX11_ropeOf_61 : decode cX11_ropeOf 61 = .ok (.iastore, 1) := by decide +kernel
theorem dX11_ropeOf_62 : decode cX11_ropeOf 62 = .ok (.return_, 1) := by decide +kernel
theorem dX11_wantOf_0 : decode cX11_wantOf 0 = .ok (.aload_n 0, 1) := by decide +kernel
theorem dX11_wantOf_1 : decode cX11_wantOf 1 = .ok (.getfield 16, 3) := by decide +kernel
theorem dX11_wantOf_4 : decode cX11_wantOf 4 = .ok (.bipush 25, 2) := by decide +kernel
theorem dX11_wantOf_6 : decode cX11_wantOf 6 = .ok (.aload_n 0, 1) := by decide +kernel
theorem dX11_wantOf_7 : decode cX11_wantOf 7 = .ok (.getfield 16, 3) := by decide +kernel
theorem dX11_wantOf_10 : decode cX11_wantOf 10 = .ok (.iconst 1, 1) := by decide +kernel
theorem dX11_wantOf_11 : decode cX11_wantOf 11 = .ok (.iaload, 1) := by decide +kernel
theorem dX11_wantOf_12 : decode cX11_wantOf 12 = .ok (.iadd, 1) := by decide +kernel
theorem dX11_wantOf_13 : decode cX11_wantOf 13 = .ok (.iload_n 1, 1) := by decide +kernel
theorem dX11_wantOf_14 : decode cX11_wantOf 14 = .ok (.iastore, 1) := by decide +kernel
theorem dX11_wantOf_15 : decode cX11_wantOf 15 = .ok (.aload_n 0, 1) := by decide +kernel
theorem dX11_wantOf_16 : decode cX11_wantOf 16 = .ok (.getfield 16, 3) := by decide +kernel
theorem dX11_wantOf_19 : decode cX11_wantOf 19 = .ok (.bipush 33, 2) := by decide +kernel
theorem dX11_wantOf_21 : decode cX11_wantOf 21 = .ok (.aload_n 0, 1) := by decide +kernel
theorem dX11_wantOf_22 : decode cX11_wantOf 22 = .ok (.getfield 16, 3) := by decide +kernel
theorem dX11_wantOf_25 : decode cX11_wantOf 25 = .ok (.iconst 1, 1) := by decide +kernel
theorem dX11_wantOf_26 : decode cX11_wantOf 26 = .ok (.iaload, 1) := by decide +kernel
theorem dX11_wantOf_27 : decode cX11_wantOf 27 = .ok (.iadd, 1) := by decide +kernel
theorem dX11_wantOf_28 : decode cX11_wantOf 28 = .ok (.iload_n 2, 1) := by decide +kernel
theorem dX11_wantOf_29 : decode cX11_wantOf 29 = .ok (.iastore, 1) := by decide +kernel
theorem dX11_wantOf_30 : decode cX11_wantOf 30 = .ok (.aload_n 0, 1) := by decide +kernel
theorem dX11_wantOf_31 : decode cX11_wantOf 31 = .ok (.getfield 16, 3) := by decide +kernel
theorem dX11_wantOf_34 : decode cX11_wantOf 34 = .ok (.iconst 1, 1) := by decide +kernel
theorem dX11_wantOf_35 : decode cX11_wantOf 35 = .ok (.dup2, 1) := by decide +kernel
theorem dX11_wantOf_36 : decode cX11_wantOf 36 = .ok (.iaload, 1) := by decide +kernel
theorem dX11_wantOf_37 : decode cX11_wantOf 37 = .ok (.iconst 1, 1) := by decide +kernel
theorem dX11_wantOf_38 : decode cX11_wantOf 38 = .ok (.iadd, 1) := by decide +kernel
theorem dX11_wantOf_39 : decode cX11_wantOf 39 = .ok (.iastore, 1) := by decide +kernel
theorem dX11_wantOf_40 : decode cX11_wantOf 40 = .ok (.return_, 1) := by decide +kernel
theorem dX11_manOf_0 : decode cX11_manOf 0 = .ok (.aload_n 0, 1) := by decide +kernel
theorem dX11_manOf_1 : decode cX11_manOf 1 = .ok (.getfield 16, 3) := by decide +kernel
theorem dX11_manOf_4 : decode cX11_manOf 4 = .ok (.bipush 41, 2) := by decide +kernel
theorem dX11_manOf_6 : decode cX11_manOf 6 = .ok (.aload_n 0, 1) := by decide +kernel
theorem dX11_manOf_7 : decode cX11_manOf 7 = .ok (.getfield 16, 3) := by decide +kernel
theorem dX11_manOf_10 : decode cX11_manOf 10 = .ok (.iconst 2, 1) := by decide +kernel
theorem dX11_manOf_11 : decode cX11_manOf 11 = .ok (.iaload, 1) := by decide +kernel
theorem dX11_manOf_12 : decode cX11_manOf 12 = .ok (.iadd, 1) := by decide +kernel
theorem dX11_manOf_13 : decode cX11_manOf 13 = .ok (.iload_n 1, 1) := by decide +kernel
theorem dX11_manOf_14 : decode cX11_manOf 14 = .ok (.iastore, 1) := by decide +kernel
theorem dX11_manOf_15 : decode cX11_manOf 15 = .ok (.aload_n 0, 1) := by decide +kernel
theorem dX11_manOf_16 : decode cX11_manOf 16 = .ok (.getfield 16, 3) := by decide +kernel
theorem dX11_manOf_19 : decode cX11_manOf 19 = .ok (.iconst 2, 1) := by decide +kernel
theorem dX11_manOf_20 : decode cX11_manOf 20 = .ok (.dup2, 1) := by decide +kernel
theorem dX11_manOf_21 : decode cX11_manOf 21 = .ok (.iaload, 1) := by decide +kernel
theorem dX11_manOf_22 : decode cX11_manOf 22 = .ok (.iconst 1, 1) := by decide +kernel
theorem dX11_manOf_23 : decode cX11_manOf 23 = .ok (.iadd, 1) := by decide +kernel
theorem dX11_manOf_24 : decode cX11_manOf 24 = .ok (.iastore, 1) := by decide +kernel
theorem dX11_manOf_25 : decode cX11_manOf 25 = .ok (.return_, 1) := by decide +kernel
theorem dX11_readsItem_0 : decode cX11_readsItem 0 = .ok (.iload_n 1, 1) := by decide +kernel
theorem dX11_readsItem_1 : decode cX11_readsItem 1 = .ok (.lookupswitch 341 #[(99, 283), (109, 238), (114, 43), (119, 177)], 43) := by decide +kernel
theorem dX11_readsItem_44 : decode cX11_readsItem 44 = .ok (.aload_n 0, 1) := by decide +kernel
theorem dX11_readsItem_45 : decode cX11_readsItem 45 = .ok (.iconst 4, 1) := by decide +kernel
theorem dX11_readsItem_46 : decode cX11_readsItem 46 = .ok (.invokevirtual 84, 3) := by decide +kernel
theorem dX11_readsItem_49 : decode cX11_readsItem 49 = .ok (.ifCond .eq 60, 3) := by decide +kernel
theorem dX11_readsItem_52 : decode cX11_readsItem 52 = .ok (.aload_n 0, 1) := by decide +kernel
theorem dX11_readsItem_53 : decode cX11_readsItem 53 = .ok (.getfield 16, 3) := by decide +kernel
theorem dX11_readsItem_56 : decode cX11_readsItem 56 = .ok (.iconst 0, 1) := by decide +kernel
theorem dX11_readsItem_57 : decode cX11_readsItem 57 = .ok (.iaload, 1) := by decide +kernel
theorem dX11_readsItem_58 : decode cX11_readsItem 58 = .ok (.iconst 5, 1) := by decide +kernel
theorem dX11_readsItem_59 : decode cX11_readsItem 59 = .ok (.if_icmp .eq 50, 3) := by decide +kernel
theorem dX11_readsItem_62 : decode cX11_readsItem 62 = .ok (.aload_n 0, 1) := by decide +kernel
theorem dX11_readsItem_63 : decode cX11_readsItem 63 = .ok (.getfield 31, 3) := by decide +kernel
theorem dX11_readsItem_66 : decode cX11_readsItem 66 = .ok (.iconst 0, 1) := by decide +kernel
theorem dX11_readsItem_67 : decode cX11_readsItem 67 = .ok (.iaload, 1) := by decide +kernel
theorem dX11_readsItem_68 : decode cX11_readsItem 68 = .ok (.invokestatic 87, 3) := by decide +kernel
