theorem dX5_choose_89 : decode cX5_choose 89 = .ok (.iaload, 1) := by decide +kernel
theorem dX5_choose_90 : decode cX5_choose 90 = .ok (.isub, 1) := by decide +kernel
theorem dX5_choose_91 : decode cX5_choose 91 = .ok (.invokestatic 46, 3) := by decide +kernel
theorem dX5_choose_94 : decode cX5_choose 94 = .ok (.istore 6, 2) := by decide +kernel
theorem dX5_choose_96 : decode cX5_choose 96 = .ok (.aload_n 0, 1) := by decide +kernel
theorem dX5_choose_97 : decode cX5_choose 97 = .ok (.aload_n 1, 1) := by decide +kernel
theorem dX5_choose_98 : decode cX5_choose 98 = .ok (.iload_n 2, 1) := by decide +kernel
theorem dX5_choose_99 : decode cX5_choose 99 = .ok (.iconst 1, 1) := by decide +kernel
theorem dX5_choose_100 : decode cX5_choose 100 = .ok (.iadd, 1) := by decide +kernel
theorem dX5_choose_101 : decode cX5_choose 101 = .ok (.iload_n 3, 1) := by decide +kernel
theorem dX5_choose_102 : decode cX5_choose 102 = .ok (.iconst 1, 1) := by decide +kernel
theorem dX5_choose_103 : decode cX5_choose 103 = .ok (.iload 5, 2) := by decide +kernel
theorem dX5_choose_105 : decode cX5_choose 105 = .ok (.ishl, 1) := by decide +kernel
theorem dX5_choose_106 : decode cX5_choose 106 = .ok (.ior, 1) := by decide +kernel
theorem dX5_choose_107 : decode cX5_choose 107 = .ok (.iload 4, 2) := by decide +kernel
theorem dX5_choose_109 : decode cX5_choose 109 = .ok (.iload 6, 2) := by decide +kernel
theorem dX5_choose_111 : decode cX5_choose 111 = .ok (.iadd, 1) := by decide +kernel
theorem dX5_choose_112 : decode cX5_choose 112 = .ok (.invokestatic 30, 3) := by decide +kernel
theorem dX5_choose_115 : decode cX5_choose 115 = .ok (.iinc 5 1, 3) := by decide +kernel
theorem dX5_choose_118 : decode cX5_choose 118 = .ok (.goto (-67), 3) := by decide +kernel
theorem dX5_choose_121 : decode cX5_choose 121 = .ok (.return_, 1) := by decide +kernel
theorem dX6_init_0 : decode cX6_init 0 = .ok (.aload_n 0, 1) := by decide +kernel
theorem dX6_init_1 : decode cX6_init 1 = .ok (.invokespecial 3, 3) := by decide +kernel
theorem dX6_init_4 : decode cX6_init 4 = .ok (.aload_n 0, 1) := by decide +kernel
theorem dX6_init_5 : decode cX6_init 5 = .ok (.iconst 4, 1) := by decide +kernel
theorem dX6_init_6 : decode cX6_init 6 = .ok (.newarray .int, 2) := by decide +kernel
theorem dX6_init_8 : decode cX6_init 8 = .ok (.putfield 9, 3) := by decide +kernel
theorem dX6_init_11 : decode cX6_init 11 = .ok (.aload_n 0, 1) := by decide +kernel
theorem dX6_init_12 : decode cX6_init 12 = .ok (.iconst 0, 1) := by decide +kernel
theorem dX6_init_13 : decode cX6_init 13 = .ok (.putfield 15, 3) := by decide +kernel
theorem dX6_init_16 : decode cX6_init 16 = .ok (.return_, 1) := by decide +kernel
theorem dX6_read_0 : decode cX6_read 0 = .ok (.aload_n 2, 1) := by decide +kernel
theorem dX6_read_1 : decode cX6_read 1 = .ok (.invokevirtual 19, 3) := by decide +kernel
theorem dX6_read_4 : decode cX6_read 4 = .ok (.aload_n 0, 1) := by decide +kernel
theorem dX6_read_5 : decode cX6_read 5 = .ok (.iconst 0, 1) := by decide +kernel
theorem dX6_read_6 : decode cX6_read 6 = .ok (.putfield 15, 3) := by decide +kernel
theorem dX6_read_9 : decode cX6_read 9 = .ok (.iconst 0, 1) := by decide +kernel
theorem dX6_read_10 : decode cX6_read 10 = .ok (.istore_n 3, 1) := by decide +kernel
theorem dX6_read_11 : decode cX6_read 11 = .ok (.iload_n 3, 1) := by decide +kernel
theorem dX6_read_12 : decode cX6_read 12 = .ok (.sipush 200, 3) := by decide +kernel
theorem dX6_read_15 : decode cX6_read 15 = .ok (.if_icmp .ge 63, 3) := by decide +kernel
theorem dX6_read_18 : decode cX6_read 18 = .ok (.aload_n 0, 1) := by decide +kernel
theorem dX6_read_19 : decode cX6_read 19 = .ok (.getfield 15, 3) := by decide +kernel
theorem dX6_read_22 : decode cX6_read 22 = .ok (.aload_n 1, 1) := by decide +kernel
theorem dX6_read_23 : decode cX6_read 23 = .ok (.invokevirtual 24, 3) := by decide +kernel
theorem dX6_read_26 : decode cX6_read 26 = .ok (.if_icmp .ge 52, 3) := by decide +kernel
theorem dX6_read_29 : decode cX6_read 29 = .ok (.aload_n 0, 1) := by decide +kernel
theorem dX6_read_30 : decode cX6_read 30 = .ok (.getfield 15, 3) := by decide +kernel
theorem dX6_read_33 : decode cX6_read 33 = .ok (.istore 4, 2) := by decide +kernel
theorem dX6_read_35 : decode cX6_read 35 = .ok (.aload_n 1, 1) := by decide +kernel
theorem dX6_read_36 : decode cX6_read 36 = .ok (.iload 4, 2) := by decide +kernel
theorem dX6_read_38 : decode cX6_read 38 = .ok (.invokevirtual 30, 3) := by decide +kernel
theorem dX6_read_41 : decode cX6_read 41 = .ok (.istore 5, 2) := by decide +kernel
theorem dX6_read_43 : decode cX6_read 43 = .ok (.aload_n 0, 1) := by decide +kernel
theorem dX6_read_44 : decode cX6_read 44 = .ok (.aload_n 1, 1) := by decide +kernel
theorem dX6_read_45 : decode cX6_read 45 = .ok (.iload 5, 2) := by decide +kernel
theorem dX6_read_47 : decode cX6_read 47 = .ok (.invokestatic 34, 3) := by decide +kernel
theorem dX6_read_50 : decode cX6_read 50 = .ok (.invokevirtual 37, 3) := by decide +kernel
theorem dX6_read_53 : decode cX6_read 53 = .ok (.ifCond .eq 16, 3) := by decide +kernel
theorem dX6_read_56 : decode cX6_read 56 = .ok (.aload_n 2, 1) := by decide +kernel
theorem dX6_read_57 : decode cX6_read 57 = .ok (.iload 5, 2) := by decide +kernel
theorem dX6_read_59 : decode cX6_read 59 = .ok (.aload_n 0, 1) := by decide +kernel
theorem dX6_read_60 : decode cX6_read 60 = .ok (.getfield 9, 3) := by decide +kernel
theorem dX6_read_63 : decode cX6_read 63 = .ok (.invokevirtual 41, 3) := by decide +kernel
theorem dX6_read_66 : decode cX6_read 66 = .ok (.ifCond .ne 6, 3) := by decide +kernel
theorem dX6_read_69 : decode cX6_read 69 = .ok (.iload 4, 2) := by decide +kernel
theorem dX6_read_71 : decode cX6_read 71 = .ok (.ireturn, 1) := by decide +kernel
theorem dX6_read_72 : decode cX6_read 72 = .ok (.iinc 3 1, 3) := by decide +kernel
theorem dX6_read_75 : decode cX6_read 75 = .ok (.goto (-64), 3) := by decide +kernel
theorem dX6_read_78 : decode cX6_read 78 = .ok (.aload_n 2, 1) := by decide +kernel
theorem dX6_read_79 : decode cX6_read 79 = .ok (.invokevirtual 45, 3) := by decide +kernel
theorem dX6_read_82 : decode cX6_read 82 = .ok (.bipush (-4), 2) := by decide +kernel
theorem dX6_read_84 : decode cX6_read 84 = .ok (.ireturn, 1) := by decide +kernel
theorem dX6_numbersBehind_0 : decode cX6_numbersBehind 0 = .ok (.iload_n 0, 1) := by decide +kernel
theorem dX6_numbersBehind_1 : decode cX6_numbersBehind 1 = .ok (.lookupswitch 51 #[(99, 49), (109, 47), (114, 43), (119, 45)], 43) := by decide +kernel
theorem dX6_numbersBehind_44 : decode cX6_numbersBehind 44 = .ok (.iconst 4, 1) := by decide +kernel
theorem dX6_numbersBehind_45 : decode cX6_numbersBehind 45 = .ok (.ireturn, 1) := by decide +kernel
theorem dX6_numbersBehind_46 : decode cX6_numbersBehind 46 = .ok (.iconst 2, 1) := by decide +kernel
theorem dX6_numbersBehind_47 : decode cX6_numbersBehind 47 = .ok (.ireturn, 1) := by decide +kernel
theorem dX6_numbersBehind_48 : decode cX6_numbersBehind 48 = .ok (.iconst 1, 1) := by decide +kernel
theorem dX6_numbersBehind_49 : decode cX6_numbersBehind 49 = .ok (.ireturn, 1) := by decide +kernel
theorem dX6_numbersBehind_50 : decode cX6_numbersBehind 50 = .ok (.iconst 2, 1) := by decide +kernel
theorem dX6_numbersBehind_51 : decode cX6_numbersBehind 51 = .ok (.ireturn, 1) := by decide +kernel
theorem dX6_numbersBehind_52 : decode cX6_numbersBehind 52 = .ok (.iconst 0, 1) := by decide +kernel
theorem dX6_numbersBehind_53 : decode cX6_numbersBehind 53 = .ok (.ireturn, 1) := by decide +kernel
theorem dX6_readNumbers_0 : decode cX6_readNumbers 0 = .ok (.iload_n 2, 1) := by decide +kernel
theorem dX6_readNumbers_1 : decode cX6_readNumbers 1 = .ok (.iconst 1, 1) := by decide +kernel
theorem dX6_readNumbers_2 : decode cX6_readNumbers 2 = .ok (.if_icmp .lt 8, 3) := by decide +kernel
theorem dX6_readNumbers_5 : decode cX6_readNumbers 5 = .ok (.iload_n 2, 1) := by decide +kernel
theorem dX6_readNumbers_6 : decode cX6_readNumbers 6 = .ok (.iconst 4, 1) := by decide +kernel
theorem dX6_readNumbers_7 : decode cX6_readNumbers 7 = .ok (.if_icmp .le 5, 3) := by decide +kernel
theorem dX6_readNumbers_10 : decode cX6_readNumbers 10 = .ok (.iconst 0, 1) := by decide +kernel
theorem dX6_readNumbers_11 : decode cX6_readNumbers 11 = .ok (.ireturn, 1) := by decide +kernel
theorem dX6_readNumbers_12 : decode cX6_readNumbers 12 = .ok (.aload_n 0, 1) := by decide +kernel
theorem dX6_readNumbers_13 : decode cX6_readNumbers 13 = .ok (.dup, 1) := by decide +kernel
theorem dX6_readNumbers_14 : decode cX6_readNumbers 14 = .ok (.getfield 15, 3) := by decide +kernel
theorem dX6_readNumbers_17 : decode cX6_readNumbers 17 = .ok (.iconst 1, 1) := by decide +kernel
theorem dX6_readNumbers_18 : decode cX6_readNumbers 18 = .ok (.iadd, 1) := by decide +kernel
theorem dX6_readNumbers_19 : decode cX6_readNumbers 19 = .ok (.putfield 15, 3) := by decide +kernel
theorem dX6_readNumbers_22 : decode cX6_readNumbers 22 = .ok (.iconst 0, 1) := by decide +kernel
theorem dX6_readNumbers_23 : decode cX6_readNumbers 23 = .ok (.istore_n 3, 1) := by decide +kernel
theorem dX6_readNumbers_24 : decode cX6_readNumbers 24 = .ok (.iload_n 3, 1) := by decide +kernel
theorem dX6_readNumbers_25 : decode cX6_readNumbers 25 = .ok (.iload_n 2, 1) := by decide +kernel
theorem dX6_readNumbers_26 : decode cX6_readNumbers 26 = .ok (.if_icmp .ge 70, 3) := by decide +kernel
theorem dX6_readNumbers_29 : decode cX6_readNumbers 29 = .ok (.aload_n 0, 1) := by decide +kernel
theorem dX6_readNumbers_30 : decode cX6_readNumbers 30 = .ok (.aload_n 1, 1) := by decide +kernel
theorem dX6_readNumbers_31 : decode cX6_readNumbers 31 = .ok (.invokevirtual 48, 3) := by decide +kernel
theorem dX6_readNumbers_34 : decode cX6_readNumbers 34 = .ok (.istore 4, 2) := by decide +kernel
theorem dX6_readNumbers_36 : decode cX6_readNumbers 36 = .ok (.iload_n 3, 1) := by decide +kernel
theorem dX6_readNumbers_37 : decode cX6_readNumbers 37 = .ok (.iconst 1, 1) := by decide +kernel
theorem dX6_readNumbers_38 : decode cX6_readNumbers 38 = .ok (.iadd, 1) := by decide +kernel
theorem dX6_readNumbers_39 : decode cX6_readNumbers 39 = .ok (.iload_n 2, 1) := by decide +kernel
theorem dX6_readNumbers_40 : decode cX6_readNumbers 40 = .ok (.if_icmp .ge 8, 3) := by decide +kernel
theorem dX6_readNumbers_43 : decode cX6_readNumbers 43 = .ok (.bipush 44, 2) := by decide +kernel
theorem dX6_readNumbers_45 : decode cX6_readNumbers 45 = .ok (.goto 5, 3) := by decide +kernel
theorem dX6_readNumbers_48 : decode cX6_readNumbers 48 = .ok (.bipush 59, 2) := by decide +kernel
theorem dX6_readNumbers_50 : decode cX6_readNumbers 50 = .ok (.istore 5, 2) := by decide +kernel
theorem dX6_readNumbers_52 : decode cX6_readNumbers 52 = .ok (.iload 4, 2) := by decide +kernel
theorem dX6_readNumbers_54 : decode cX6_readNumbers 54 = .ok (.ifCond .lt 16, 3) := by decide +kernel
theorem dX6_readNumbers_57 : decode cX6_readNumbers 57 = .ok (.aload_n 1, 1) := by decide +kernel
theorem dX6_readNumbers_58 : decode cX6_readNumbers 58 = .ok (.aload_n 0, 1) := by decide +kernel
theorem dX6_readNumbers_59 : decode cX6_readNumbers 59 = .ok (.getfield 15, 3) := by decide +kernel
theorem dX6_readNumbers_62 : decode cX6_readNumbers 62 = .ok (.invokevirtual 30, 3) := by decide +kernel
theorem dX6_readNumbers_65 : decode cX6_readNumbers 65 = .ok (.iload 5, 2) := by decide +kernel
theorem dX6_readNumbers_67 : decode cX6_readNumbers 67 = .ok (.if_icmp .eq 5, 3) := by decide +kernel
theorem dX6_readNumbers_70 : decode cX6_readNumbers 70 = .ok (.iconst 0, 1) := by decide +kernel
theorem dX6_readNumbers_71 : decode cX6_readNumbers 71 = .ok (.ireturn, 1) := by decide +kernel
theorem dX6_readNumbers_72 : decode cX6_readNumbers 72 = .ok (.aload_n 0, 1) := by decide +kernel
theorem dX6_readNumbers_73 : decode cX6_readNumbers 73 = .ok (.getfield 9, 3) := by decide +kernel
theorem dX6_readNumbers_76 : decode cX6_readNumbers 76 = .ok (.iload_n 3, 1) := by decide +kernel
theorem dX6_readNumbers_77 : decode cX6_readNumbers 77 = .ok (.iload 4, 2) := by decide +kernel
theorem dX6_readNumbers_79 : decode cX6_readNumbers 79 = .ok (.iastore, 1) := by decide +kernel
theorem dX6_readNumbers_80 : decode cX6_readNumbers 80 = .ok (.aload_n 0, 1) := by decide +kernel
theorem dX6_readNumbers_81 : decode cX6_readNumbers 81 = .ok (.dup, 1) := by decide +kernel
theorem dX6_readNumbers_82 : decode cX6_readNumbers 82 = .ok (.getfield 15, 3) := by decide +kernel
theorem dX6_readNumbers_85 : decode cX6_readNumbers 85 = .ok (.iconst 1, 1) := by decide +kernel
theorem dX6_readNumbers_86 : decode cX6_readNumbers 86 = .ok (.iadd, 1) := by decide +kernel
theorem dX6_readNumbers_87 : decode cX6_readNumbers 87 = .ok (.putfield 15, 3) := by decide +kernel
theorem dX6_readNumbers_90 : decode cX6_readNumbers 90 = .ok (.iinc 3 1, 3) := by decide +kernel
theorem dX6_readNumbers_93 : decode cX6_readNumbers 93 = .ok (.goto (-69), 3) := by decide +kernel
theorem dX6_readNumbers_96 : decode cX6_readNumbers 96 = .ok (.iconst 1, 1) := by decide +kernel
theorem dX6_readNumbers_97 : decode cX6_readNumbers 97 = .ok (.ireturn, 1) := by decide +kernel
theorem dX6_readNumber_0 : decode cX6_readNumber 0 = .ok (.aload_n 1, 1) := by decide +kernel
theorem dX6_readNumber_1 : decode cX6_readNumber 1 = .ok (.aload_n 0, 1) := by decide +kernel
theorem dX6_readNumber_2 : decode cX6_readNumber 2 = .ok (.getfield 15, 3) := by decide +kernel
theorem dX6_readNumber_5 : decode cX6_readNumber 5 = .ok (.invokevirtual 30, 3) := by decide +kernel
theorem dX6_readNumber_8 : decode cX6_readNumber 8 = .ok (.invokestatic 52, 3) := by decide +kernel
theorem dX6_readNumber_11 : decode cX6_readNumber 11 = .ok (.istore_n 2, 1) := by decide +kernel
theorem dX6_readNumber_12 : decode cX6_readNumber 12 = .ok (.iload_n 2, 1) := by decide +kernel
theorem dX6_readNumber_13 : decode cX6_readNumber 13 = .ok (.ifCond .ge 5, 3) := by decide +kernel
theorem dX6_readNumber_16 : decode cX6_readNumber 16 = .ok (.iconst (-1), 1) := by decide +kernel
theorem dX6_readNumber_17 : decode cX6_readNumber 17 = .ok (.ireturn, 1) := by decide +kernel
theorem dX6_readNumber_18 : decode cX6_readNumber 18 = .ok (.aload_n 0, 1) := by decide +kernel
theorem dX6_readNumber_19 : decode cX6_readNumber 19 = .ok (.dup, 1) := by decide +kernel
theorem dX6_readNumber_20 : decode cX6_readNumber 20 = .ok (.getfield 15, 3) := by decide +kernel
theorem dX6_readNumber_23 : decode cX6_readNumber 23 = .ok (.iconst 1, 1) := by decide +kernel
theorem dX6_readNumber_24 : decode cX6_readNumber 24 = .ok (.iadd, 1) := by decide +kernel
theorem dX6_readNumber_25 : decode cX6_readNumber 25 = .ok (.putfield 15, 3) := by decide +kernel
theorem dX6_readNumber_28 : decode cX6_readNumber 28 = .ok (.aload_n 1, 1) := by decide +kernel
theorem dX6_readNumber_29 : decode cX6_readNumber 29 = .ok (.aload_n 0, 1) := by decide +kernel
theorem dX6_readNumber_30 : decode cX6_readNumber 30 = .ok (.getfield 15, 3) := by decide +kernel
theorem dX6_readNumber_33 : decode cX6_readNumber 33 = .ok (.invokevirtual 30, 3) := by decide +kernel
theorem dX6_readNumber_36 : decode cX6_readNumber 36 = .ok (.invokestatic 52, 3) := by decide +kernel
theorem dX6_readNumber_39 : decode cX6_readNumber 39 = .ok (.istore_n 3, 1) := by decide +kernel
theorem dX6_readNumber_40 : decode cX6_readNumber 40 = .ok (.iload_n 3, 1) := by decide +kernel
theorem dX6_readNumber_41 : decode cX6_readNumber 41 = .ok (.ifCond .ge 5, 3) := by decide +kernel
theorem dX6_readNumber_44 : decode cX6_readNumber 44 = .ok (.iload_n 2, 1) := by decide +kernel
theorem dX6_readNumber_45 : decode cX6_readNumber 45 = .ok (.ireturn, 1) := by decide +kernel
theorem dX6_readNumber_46 : decode cX6_readNumber 46 = .ok (.aload_n 0, 1) := by decide +kernel
theorem dX6_readNumber_47 : decode cX6_readNumber 47 = .ok (.dup, 1) := by decide +kernel
theorem dX6_readNumber_48 : decode cX6_readNumber 48 = .ok (.getfield 15, 3) := by decide +kernel
theorem dX6_readNumber_51 : decode cX6_readNumber 51 = .ok (.iconst 1, 1) := by decide +kernel
theorem dX6_readNumber_52 : decode cX6_readNumber 52 = .ok (.iadd, 1) := by decide +kernel
theorem dX6_readNumber_53 : decode cX6_readNumber 53 = .ok (.putfield 15, 3) := by decide +kernel
theorem dX6_readNumber_56 : decode cX6_readNumber 56 = .ok (.bipush 10, 2) := by decide +kernel
theorem dX6_readNumber_58 : decode cX6_readNumber 58 = .ok (.iload_n 2, 1) := by decide +kernel
theorem dX6_readNumber_59 : decode cX6_readNumber 59 = .ok (.imul, 1) := by decide +kernel
theorem dX6_readNumber_60 : decode cX6_readNumber 60 = .ok (.iload_n 3, 1) := by decide +kernel
theorem dX6_readNumber_61 : decode cX6_readNumber 61 = .ok (.iadd, 1) := by decide +kernel
theorem dX6_readNumber_62 : decode cX6_readNumber 62 = .ok (.ireturn, 1) := by decide +kernel
theorem dX6_figure_0 : decode cX6_figure 0 = .ok (.iload_n 0, 1) := by decide +kernel
theorem dX6_figure_1 : decode cX6_figure 1 = .ok (.bipush 48, 2) := by decide +kernel
theorem dX6_figure_3 : decode cX6_figure 3 = .ok (.if_icmp .lt 16, 3) := by decide +kernel
theorem dX6_figure_6 : decode cX6_figure 6 = .ok (.iload_n 0, 1) := by decide +kernel
theorem dX6_figure_7 : decode cX6_figure 7 = .ok (.bipush 57, 2) := by decide +kernel
theorem dX6_figure_9 : decode cX6_figure 9 = .ok (.if_icmp .gt 10, 3) := by decide +kernel
theorem dX6_figure_12 : decode cX6_figure 12 = .ok (.iload_n 0, 1) := by decide +kernel
theorem dX6_figure_13 : decode cX6_figure 13 = .ok (.bipush 48, 2) := by decide +kernel
theorem dX6_figure_15 : decode cX6_figure 15 = .ok (.isub, 1) := by decide +kernel
theorem dX6_figure_16 : decode cX6_figure 16 = .ok (.goto 4, 3) := by decide +kernel
theorem dX6_figure_19 : decode cX6_figure 19 = .ok (.iconst (-1), 1) := by decide +kernel
theorem dX6_figure_20 : decode cX6_figure 20 = .ok (.ireturn, 1) := by decide +kernel
theorem dX7_init_0 : decode cX7_init 0 = .ok (.aload_n 0, 1) := by decide +kernel
theorem dX7_init_1 : decode cX7_init 1 = .ok (.invokespecial 1, 3) := by decide +kernel
theorem dX7_init_4 : decode cX7_init 4 = .ok (.aload_n 0, 1) := by decide +kernel
theorem dX7_init_5 : decode cX7_init 5 = .ok (.iconst 1, 1) := by decide +kernel
theorem dX7_init_6 : decode cX7_init 6 = .ok (.iload_n 1, 1) := by decide +kernel
theorem dX7_init_7 : decode cX7_init 7 = .ok (.invokestatic 7, 3) := by decide +kernel
theorem dX7_init_10 : decode cX7_init 10 = .ok (.anewarray 13, 3) := by decide +kernel
theorem dX7_init_13 : decode cX7_init 13 = .ok (.putfield 15, 3) := by decide +kernel
theorem dX7_init_16 : decode cX7_init 16 = .ok (.iconst 0, 1) := by decide +kernel
theorem dX7_init_17 : decode cX7_init 17 = .ok (.istore_n 2, 1) := by decide +kernel
theorem dX7_init_18 : decode cX7_init 18 = .ok (.iload_n 2, 1) := by decide +kernel
theorem dX7_init_19 : decode cX7_init 19 = .ok (.aload_n 0, 1) := by decide +kernel
theorem dX7_init_20 : decode cX7_init 20 = .ok (.getfield 15, 3) := by decide +kernel
theorem dX7_init_23 : decode cX7_init 23 = .ok (.arraylength, 1) := by decide +kernel
theorem dX7_init_24 : decode cX7_init 24 = .ok (.if_icmp .ge 22, 3) := by decide +kernel
theorem dX7_init_27 : decode cX7_init 27 = .ok (.aload_n 0, 1) := by decide +kernel
theorem dX7_init_28 : decode cX7_init 28 = .ok (.getfield 15, 3) := by decide +kernel
theorem dX7_init_31 : decode cX7_init 31 = .ok (.iload_n 2, 1) := by decide +kernel
theorem dX7_init_32 : decode cX7_init 32 = .ok (.new 13, 3) := by decide +kernel
theorem dX7_init_35 : decode cX7_init 35 = .ok (.dup, 1) := by decide +kernel
theorem dX7_init_36 : decode cX7_init 36 = .ok (.invokespecial 21, 3) := by decide +kernel
theorem dX7_init_39 : decode cX7_init 39 = .ok (.aastore, 1) := by decide +kernel
theorem dX7_init_40 : decode cX7_init 40 = .ok (.iinc 2 1, 3) := by decide +kernel
theorem dX7_init_43 : decode cX7_init 43 = .ok (.goto (-25), 3) := by decide +kernel
theorem dX7_init_46 : decode cX7_init 46 = .ok (.aload_n 0, 1) := by decide +kernel
theorem dX7_init_47 : decode cX7_init 47 = .ok (.iconst 0, 1) := by decide +kernel
theorem dX7_init_48 : decode cX7_init 48 = .ok (.putfield 22, 3) := by decide +kernel
theorem dX7_init_51 : decode cX7_init 51 = .ok (.return_, 1) := by decide +kernel
theorem dX7_size_0 : decode cX7_size 0 = .ok (.aload_n 0, 1) := by decide +kernel
theorem dX7_size_1 : decode cX7_size 1 = .ok (.getfield 22, 3) := by decide +kernel
theorem dX7_size_4 : decode cX7_size 4 = .ok (.ireturn, 1) := by decide +kernel
theorem dX7_isFull_0 : decode cX7_isFull 0 = .ok (.aload_n 0, 1) := by decide +kernel
theorem dX7_isFull_1 : decode cX7_isFull 1 = .ok (.getfield 22, 3) := by decide +kernel
theorem dX7_isFull_4 : decode cX7_isFull 4 = .ok (.aload_n 0, 1) := by decide +kernel
theorem dX7_isFull_5 : decode cX7_isFull 5 = .ok (.getfield 15, 3) := by decide +kernel
theorem dX7_isFull_8 : decode cX7_isFull 8 = .ok (.arraylength, 1) := by decide +kernel
theorem dX7_isFull_9 : decode cX7_isFull 9 = .ok (.if_icmp .lt 7, 3) := by decide +kernel
theorem dX7_isFull_12 : decode cX7_isFull 12 = .ok (.iconst 1, 1) := by decide +kernel
theorem dX7_isFull_13 : decode cX7_isFull 13 = .ok (.goto 4, 3) := by decide +kernel
theorem dX7_isFull_16 : decode cX7_isFull 16 = .ok (.iconst 0, 1) := by decide +kernel
theorem dX7_isFull_17 : decode cX7_isFull 17 = .ok (.ireturn, 1) := by decide +kernel
theorem dX7_clear_0 : decode cX7_clear 0 = .ok (.aload_n 0, 1) := by decide +kernel
theorem dX7_clear_1 : decode cX7_clear 1 = .ok (.iconst 0, 1) := by decide +kernel
theorem dX7_clear_2 : decode cX7_clear 2 = .ok (.putfield 22, 3) := by decide +kernel
theorem dX7_clear_5 : decode cX7_clear 5 = .ok (.return_, 1) := by decide +kernel
theorem dX7_push_0 : decode cX7_push 0 = .ok (.aload_n 0, 1) := by decide +kernel
theorem dX7_push_1 : decode cX7_push 1 = .ok (.invokevirtual 26, 3) := by decide +kernel
theorem dX7_push_4 : decode cX7_push 4 = .ok (.ifCond .eq 7, 3) := by decide +kernel
theorem dX7_push_7 : decode cX7_push 7 = .ok (.aload_n 0, 1) := by decide +kernel
theorem dX7_push_8 : decode cX7_push 8 = .ok (.invokevirtual 30, 3) := by decide +kernel
theorem dX7_push_11 : decode cX7_push 11 = .ok (.aload_n 0, 1) := by decide +kernel
theorem dX7_push_12 : decode cX7_push 12 = .ok (.getfield 15, 3) := by decide +kernel
theorem dX7_push_15 : decode cX7_push 15 = .ok (.aload_n 0, 1) := by decide +kernel
theorem dX7_push_16 : decode cX7_push 16 = .ok (.getfield 22, 3) := by decide +kernel
theorem dX7_push_19 : decode cX7_push 19 = .ok (.aaload, 1) := by decide +kernel
theorem dX7_push_20 : decode cX7_push 20 = .ok (.aload_n 1, 1) := by decide +kernel
theorem dX7_push_21 : decode cX7_push 21 = .ok (.invokevirtual 33, 3) := by decide +kernel
theorem dX7_push_24 : decode cX7_push 24 = .ok (.aload_n 0, 1) := by decide +kernel
theorem dX7_push_25 : decode cX7_push 25 = .ok (.dup, 1) := by decide +kernel
theorem dX7_push_26 : decode cX7_push 26 = .ok (.getfield 22, 3) := by decide +kernel
theorem dX7_push_29 : decode cX7_push 29 = .ok (.iconst 1, 1) := by decide +kernel
theorem dX7_push_30 : decode cX7_push 30 = .ok (.iadd, 1) := by decide +kernel
theorem dX7_push_31 : decode cX7_push 31 = .ok (.putfield 22, 3) := by decide +kernel
theorem dX7_push_34 : decode cX7_push 34 = .ok (.return_, 1) := by decide +kernel
theorem dX7_popInto_0 : decode cX7_popInto 0 = .ok (.aload_n 0, 1) := by decide +kernel
theorem dX7_popInto_1 : decode cX7_popInto 1 = .ok (.getfield 22, 3) := by decide +kernel
theorem dX7_popInto_4 : decode cX7_popInto 4 = .ok (.ifCond .le 26, 3) := by decide +kernel
theorem dX7_popInto_7 : decode cX7_popInto 7 = .ok (.aload_n 0, 1) := by decide +kernel
theorem dX7_popInto_8 : decode cX7_popInto 8 = .ok (.dup, 1) := by decide +kernel
theorem dX7_popInto_9 : decode cX7_popInto 9 = .ok (.getfield 22, 3) := by decide +kernel
theorem dX7_popInto_12 : decode cX7_popInto 12 = .ok (.iconst 1, 1) := by decide +kernel
theorem dX7_popInto_13 : decode cX7_popInto 13 = .ok (.isub, 1) := by decide +kernel
theorem dX7_popInto_14 : decode cX7_popInto 14 = .ok (.putfield 22, 3) := by decide +kernel
theorem dX7_popInto_17 : decode cX7_popInto 17 = .ok (.aload_n 1, 1) := by decide +kernel
theorem dX7_popInto_18 : decode cX7_popInto 18 = .ok (.aload_n 0, 1) := by decide +kernel
theorem dX7_popInto_19 : decode cX7_popInto 19 = .ok (.getfield 15, 3) := by decide +kernel
theorem dX7_popInto_22 : decode cX7_popInto 22 = .ok (.aload_n 0, 1) := by decide +kernel
theorem dX7_popInto_23 : decode cX7_popInto 23 = .ok (.getfield 22, 3) := by decide +kernel
theorem dX7_popInto_26 : decode cX7_popInto 26 = .ok (.aaload, 1) := by decide +kernel
theorem dX7_popInto_27 : decode cX7_popInto 27 = .ok (.invokevirtual 33, 3) := by decide +kernel
theorem dX7_popInto_30 : decode cX7_popInto 30 = .ok (.return_, 1) := by decide +kernel
theorem dX7_dropOldest_0 : decode cX7_dropOldest 0 = .ok (.aload_n 0, 1) := by decide +kernel
theorem dX7_dropOldest_1 : decode cX7_dropOldest 1 = .ok (.getfield 15, 3) := by decide +kernel
theorem dX7_dropOldest_4 : decode cX7_dropOldest 4 = .ok (.iconst 0, 1) := by decide +kernel
theorem dX7_dropOldest_5 : decode cX7_dropOldest 5 = .ok (.aaload, 1) := by decide +kernel
theorem dX7_dropOldest_6 : decode cX7_dropOldest 6 = .ok (.astore_n 1, 1) := by decide +kernel
theorem dX7_dropOldest_7 : decode cX7_dropOldest 7 = .ok (.iconst 1, 1) := by decide +kernel
theorem dX7_dropOldest_8 : decode cX7_dropOldest 8 = .ok (.istore_n 2, 1) := by decide +kernel
theorem dX7_dropOldest_9 : decode cX7_dropOldest 9 = .ok (.iload_n 2, 1) := by decide +kernel
theorem dX7_dropOldest_10 : decode cX7_dropOldest 10 = .ok (.aload_n 0, 1) := by decide +kernel
theorem dX7_dropOldest_11 : decode cX7_dropOldest 11 = .ok (.getfield 15, 3) := by decide +kernel
theorem dX7_dropOldest_14 : decode cX7_dropOldest 14 = .ok (.arraylength, 1) := by decide +kernel
theorem dX7_dropOldest_15 : decode cX7_dropOldest 15 = .ok (.if_icmp .ge 23, 3) := by decide +kernel
theorem dX7_dropOldest_18 : decode cX7_dropOldest 18 = .ok (.aload_n 0, 1) := by decide +kernel
theorem dX7_dropOldest_19 : decode cX7_dropOldest 19 = .ok (.getfield 15, 3) := by decide +kernel
theorem dX7_dropOldest_22 : decode cX7_dropOldest 22 = .ok (.iload_n 2, 1) := by decide +kernel
theorem dX7_dropOldest_23 : decode cX7_dropOldest 23 = .ok (.iconst 1, 1) := by decide +kernel
theorem dX7_dropOldest_24 : decode cX7_dropOldest 24 = .ok (.isub, 1) := by decide +kernel
theorem dX7_dropOldest_25 : decode cX7_dropOldest 25 = .ok (.aload_n 0, 1) := by decide +kernel
theorem dX7_dropOldest_26 : decode cX7_dropOldest 26 = .ok (.getfield 15, 3) := by decide +kernel
theorem dX7_dropOldest_29 : decode cX7_dropOldest 29 = .ok (.iload_n 2, 1) := by decide +kernel
theorem dX7_dropOldest_30 : decode cX7_dropOldest 30 = .ok (.aaload, 1) := by decide +kernel
theorem dX7_dropOldest_31 : decode cX7_dropOldest 31 = .ok (.aastore, 1) := by decide +kernel
theorem dX7_dropOldest_32 : decode cX7_dropOldest 32 = .ok (.iinc 2 1, 3) := by decide +kernel
theorem dX7_dropOldest_35 : decode cX7_dropOldest 35 = .ok (.goto (-26), 3) := by decide +kernel
theorem dX7_dropOldest_38 : decode cX7_dropOldest 38 = .ok (.aload_n 0, 1) := by decide +kernel
theorem dX7_dropOldest_39 : decode cX7_dropOldest 39 = .ok (.getfield 15, 3) := by decide +kernel
theorem dX7_dropOldest_42 : decode cX7_dropOldest 42 = .ok (.aload_n 0, 1) := by decide +kernel
theorem dX7_dropOldest_43 : decode cX7_dropOldest 43 = .ok (.getfield 15, 3) := by decide +kernel
theorem dX7_dropOldest_46 : decode cX7_dropOldest 46 = .ok (.arraylength, 1) := by decide +kernel
theorem dX7_dropOldest_47 : decode cX7_dropOldest 47 = .ok (.iconst 1, 1) := by decide +kernel
theorem dX7_dropOldest_48 : decode cX7_dropOldest 48 = .ok (.isub, 1) := by decide +kernel
theorem dX7_dropOldest_49 : decode cX7_dropOldest 49 = .ok (.aload_n 1, 1) := by decide +kernel
theorem dX7_dropOldest_50 : decode cX7_dropOldest 50 = .ok (.aastore, 1) := by decide +kernel
theorem dX7_dropOldest_51 : decode cX7_dropOldest 51 = .ok (.aload_n 0, 1) := by decide +kernel
theorem dX7_dropOldest_52 : decode cX7_dropOldest 52 = .ok (.dup, 1) := by decide +kernel
theorem dX7_dropOldest_53 : decode cX7_dropOldest 53 = .ok (.getfield 22, 3) := by decide +kernel
theorem dX7_dropOldest_56 : decode cX7_dropOldest 56 = .ok (.iconst 1, 1) := by decide +kernel
theorem dX7_dropOldest_57 : decode cX7_dropOldest 57 = .ok (.isub, 1) := by decide +kernel
theorem dX7_dropOldest_58 : decode cX7_dropOldest 58 = .ok (.putfield 22, 3) := by decide +kernel
theorem dX7_dropOldest_61 : decode cX7_dropOldest 61 = .ok (.return_, 1) := by decide +kernel
theorem dX8_init_0 : decode cX8_init 0 = .ok (.aload_n 0, 1) := by decide +kernel
theorem dX8_init_1 : decode cX8_init 1 = .ok (.invokespecial 3, 3) := by decide +kernel
theorem dX8_init_4 : decode cX8_init 4 = .ok (.aload_n 0, 1) := by decide +kernel
theorem dX8_init_5 : decode cX8_init 5 = .ok (.sipush 200, 3) := by decide +kernel
theorem dX8_init_8 : decode cX8_init 8 = .ok (.newarray .char, 2) := by decide +kernel
theorem dX8_init_10 : decode cX8_init 10 = .ok (.putfield 9, 3) := by decide +kernel
theorem dX8_init_13 : decode cX8_init 13 = .ok (.aload_n 0, 1) := by decide +kernel
theorem dX8_init_14 : decode cX8_init 14 = .ok (.iconst 0, 1) := by decide +kernel
theorem dX8_init_15 : decode cX8_init 15 = .ok (.putfield 15, 3) := by decide +kernel
theorem dX8_init_18 : decode cX8_init 18 = .ok (.return_, 1) := by decide +kernel
theorem dX8_isFull_0 : decode cX8_isFull 0 = .ok (.aload_n 0, 1) := by decide +kernel
theorem dX8_isFull_1 : decode cX8_isFull 1 = .ok (.getfield 15, 3) := by decide +kernel
theorem dX8_isFull_4 : decode cX8_isFull 4 = .ok (.sipush 200, 3) := by decide +kernel
theorem dX8_isFull_7 : decode cX8_isFull 7 = .ok (.if_icmp .lt 7, 3) := by decide +kernel
theorem dX8_isFull_10 : decode cX8_isFull 10 = .ok (.iconst 1, 1) := by decide +kernel
theorem dX8_isFull_11 : decode cX8_isFull 11 = .ok (.goto 4, 3) := by decide +kernel
theorem dX8_isFull_14 : decode cX8_isFull 14 = .ok (.iconst 0, 1) := by decide +kernel
theorem dX8_isFull_15 : decode cX8_isFull 15 = .ok (.ireturn, 1) := by decide +kernel
theorem dX8_add_0 : decode cX8_add 0 = .ok (.aload_n 0, 1) := by decide +kernel
theorem dX8_add_1 : decode cX8_add 1 = .ok (.getfield 15, 3) := by decide +kernel
theorem dX8_add_4 : decode cX8_add 4 = .ok (.sipush 200, 3) := by decide +kernel
theorem dX8_add_7 : decode cX8_add 7 = .ok (.if_icmp .ge 23, 3) := by decide +kernel
theorem dX8_add_10 : decode cX8_add 10 = .ok (.aload_n 0, 1) := by decide +kernel
theorem dX8_add_11 : decode cX8_add 11 = .ok (.getfield 9, 3) := by decide +kernel
theorem dX8_add_14 : decode cX8_add 14 = .ok (.aload_n 0, 1) := by decide +kernel
theorem dX8_add_15 : decode cX8_add 15 = .ok (.getfield 15, 3) := by decide +kernel
theorem dX8_add_18 : decode cX8_add 18 = .ok (.iload_n 1, 1) := by decide +kernel
theorem dX8_add_19 : decode cX8_add 19 = .ok (.castore, 1) := by decide +kernel
theorem dX8_add_20 : decode cX8_add 20 = .ok (.aload_n 0, 1) := by decide +kernel
theorem dX8_add_21 : decode cX8_add 21 = .ok (.dup, 1) := by decide +kernel
theorem dX8_add_22 : decode cX8_add 22 = .ok (.getfield 15, 3) := by decide +kernel
theorem dX8_add_25 : decode cX8_add 25 = .ok (.iconst 1, 1) := by decide +kernel
theorem dX8_add_26 : decode cX8_add 26 = .ok (.iadd, 1) := by decide +kernel
theorem dX8_add_27 : decode cX8_add 27 = .ok (.putfield 15, 3) := by decide +kernel
theorem dX8_add_30 : decode cX8_add 30 = .ok (.return_, 1) := by decide +kernel
theorem dX8_clear_0 : decode cX8_clear 0 = .ok (.aload_n 0, 1) := by decide +kernel
theorem dX8_clear_1 : decode cX8_clear 1 = .ok (.iconst 0, 1) := by decide +kernel
theorem dX8_clear_2 : decode cX8_clear 2 = .ok (.putfield 15, 3) := by decide +kernel
theorem dX8_clear_5 : decode cX8_clear 5 = .ok (.return_, 1) := by decide +kernel
theorem dX8_length_0 : decode cX8_length 0 = .ok (.aload_n 0, 1) := by decide +kernel
theorem dX8_length_1 : decode cX8_length 1 = .ok (.getfield 15, 3) := by decide +kernel
theorem dX8_length_4 : decode cX8_length 4 = .ok (.ireturn, 1) := by decide +kernel
theorem dX8_letterAt_0 : decode cX8_letterAt 0 = .ok (.iload_n 1, 1) := by decide +kernel
theorem dX8_letterAt_1 : decode cX8_letterAt 1 = .ok (.ifCond .lt 20, 3) := by decide +kernel
theorem dX8_letterAt_4 : decode cX8_letterAt 4 = .ok (.iload_n 1, 1) := by decide +kernel
theorem dX8_letterAt_5 : decode cX8_letterAt 5 = .ok (.aload_n 0, 1) := by decide +kernel
theorem dX8_letterAt_6 : decode cX8_letterAt 6 = .ok (.getfield 15, 3) := by decide +kernel
theorem dX8_letterAt_9 : decode cX8_letterAt 9 = .ok (.if_icmp .ge 12, 3) := by decide +kernel
theorem dX8_letterAt_12 : decode cX8_letterAt 12 = .ok (.aload_n 0, 1) := by decide +kernel
theorem dX8_letterAt_13 : decode cX8_letterAt 13 = .ok (.getfield 9, 3) := by decide +kernel
theorem dX8_letterAt_16 : decode cX8_letterAt 16 = .ok (.iload_n 1, 1) := by decide +kernel
theorem dX8_letterAt_17 : decode cX8_letterAt 17 = .ok (.caload, 1) := by decide +kernel
theorem dX8_letterAt_18 : decode cX8_letterAt 18 = .ok (.goto 4, 3) := by decide +kernel
theorem dX8_letterAt_21 : decode cX8_letterAt 21 = .ok (.iconst 0, 1) := by decide +kernel
theorem dX8_letterAt_22 : decode cX8_letterAt 22 = .ok (.ireturn, 1) := by decide +kernel
theorem dX9_init_0 : decode cX9_init 0 = .ok (.aload_n 0, 1) := by decide +kernel
theorem dX9_init_1 : decode cX9_init 1 = .ok (.invokespecial 3, 3) := by decide +kernel
theorem dX9_init_4 : decode cX9_init 4 = .ok (.aload_n 0, 1) := by decide +kernel
theorem dX9_init_5 : decode cX9_init 5 = .ok (.iconst 5, 1) := by decide +kernel
theorem dX9_init_6 : decode cX9_init 6 = .ok (.newarray .int, 2) := by decide +kernel
theorem dX9_init_8 : decode cX9_init 8 = .ok (.putfield 9, 3) := by decide +kernel
theorem dX9_init_11 : decode cX9_init 11 = .ok (.aload_n 0, 1) := by decide +kernel
theorem dX9_init_12 : decode cX9_init 12 = .ok (.iconst 5, 1) := by decide +kernel
theorem dX9_init_13 : decode cX9_init 13 = .ok (.newarray .int, 2) := by decide +kernel
theorem dX9_init_15 : decode cX9_init 15 = .ok (.putfield 15, 3) := by decide +kernel
theorem dX9_init_18 : decode cX9_init 18 = .ok (.aload_n 0, 1) := by decide +kernel
theorem dX9_init_19 : decode cX9_init 19 = .ok (.iconst 5, 1) := by decide +kernel
theorem dX9_init_20 : decode cX9_init 20 = .ok (.newarray .int, 2) := by decide +kernel
theorem dX9_init_22 : decode cX9_init 22 = .ok (.putfield 18, 3) := by decide +kernel
theorem dX9_init_25 : decode cX9_init 25 = .ok (.aload_n 0, 1) := by decide +kernel
theorem dX9_init_26 : decode cX9_init 26 = .ok (.iconst 5, 1) := by decide +kernel
theorem dX9_init_27 : decode cX9_init 27 = .ok (.newarray .int, 2) := by decide +kernel
theorem dX9_init_29 : decode cX9_init 29 = .ok (.putfield 21, 3) := by decide +kernel
theorem dX9_init_32 : decode cX9_init 32 = .ok (.aload_n 0, 1) := by decide +kernel
theorem dX9_init_33 : decode cX9_init 33 = .ok (.bipush 8, 2) := by decide +kernel
theorem dX9_init_35 : decode cX9_init 35 = .ok (.newarray .int, 2) := by decide +kernel
theorem dX9_init_37 : decode cX9_init 37 = .ok (.putfield 24, 3) := by decide +kernel
theorem dX9_init_40 : decode cX9_init 40 = .ok (.aload_n 0, 1) := by decide +kernel
theorem dX9_init_41 : decode cX9_init 41 = .ok (.bipush 8, 2) := by decide +kernel
theorem dX9_init_43 : decode cX9_init 43 = .ok (.newarray .int, 2) := by decide +kernel
theorem dX9_init_45 : decode cX9_init 45 = .ok (.putfield 27, 3) := by decide +kernel
theorem dX9_init_48 : decode cX9_init 48 = .ok (.aload_n 0, 1) := by decide +kernel
theorem dX9_init_49 : decode cX9_init 49 = .ok (.bipush 6, 2) := by decide +kernel
theorem dX9_init_51 : decode cX9_init 51 = .ok (.newarray .int, 2) := by decide +kernel
theorem dX9_init_53 : decode cX9_init 53 = .ok (.putfield 30, 3) := by decide +kernel
theorem dX9_init_56 : decode cX9_init 56 = .ok (.aload_n 0, 1) := by decide +kernel
theorem dX9_init_57 : decode cX9_init 57 = .ok (.bipush 24, 2) := by decide +kernel
theorem dX9_init_59 : decode cX9_init 59 = .ok (.newarray .int, 2) := by decide +kernel
theorem dX9_init_61 : decode cX9_init 61 = .ok (.putfield 33, 3) := by decide +kernel
theorem dX9_init_64 : decode cX9_init 64 = .ok (.aload_n 0, 1) := by decide +kernel
theorem dX9_init_65 : decode cX9_init 65 = .ok (.bipush 24, 2) := by decide +kernel
theorem dX9_init_67 : decode cX9_init 67 = .ok (.newarray .int, 2) := by decide +kernel
theorem dX9_init_69 : decode cX9_init 69 = .ok (.putfield 36, 3) := by decide +kernel
theorem dX9_init_72 : decode cX9_init 72 = .ok (.aload_n 0, 1) := by decide +kernel
theorem dX9_init_73 : decode cX9_init 73 = .ok (.invokevirtual 39, 3) := by decide +kernel
theorem dX9_init_76 : decode cX9_init 76 = .ok (.return_, 1) := by decide +kernel
theorem dX9_clear_0 : decode cX9_clear 0 = .ok (.aload_n 0, 1) := by decide +kernel
theorem dX9_clear_1 : decode cX9_clear 1 = .ok (.iconst 0, 1) := by decide +kernel
theorem dX9_clear_2 : decode cX9_clear 2 = .ok (.putfield 42, 3) := by decide +kernel
theorem dX9_clear_5 : decode cX9_clear 5 = .ok (.aload_n 0, 1) := by decide +kernel
theorem dX9_clear_6 : decode cX9_clear 6 = .ok (.iconst 0, 1) := by decide +kernel
theorem dX9_clear_7 : decode cX9_clear 7 = .ok (.putfield 46, 3) := by decide +kernel
theorem dX9_clear_10 : decode cX9_clear 10 = .ok (.aload_n 0, 1) := by decide +kernel
theorem dX9_clear_11 : decode cX9_clear 11 = .ok (.iconst 0, 1) := by decide +kernel
theorem dX9_clear_12 : decode cX9_clear 12 = .ok (.putfield 49, 3) := by decide +kernel
theorem dX9_clear_15 : decode cX9_clear 15 = .ok (.aload_n 0, 1) := by decide +kernel
theorem dX9_clear_16 : decode cX9_clear 16 = .ok (.iconst 1, 1) := by decide +kernel
theorem dX9_clear_17 : decode cX9_clear 17 = .ok (.putfield 52, 3) := by decide +kernel
theorem dX9_clear_20 : decode cX9_clear 20 = .ok (.aload_n 0, 1) := by decide +kernel
theorem dX9_clear_21 : decode cX9_clear 21 = .ok (.iconst 2, 1) := by decide +kernel
theorem dX9_clear_22 : decode cX9_clear 22 = .ok (.putfield 55, 3) := by decide +kernel
theorem dX9_clear_25 : decode cX9_clear 25 = .ok (.return_, 1) := by decide +kernel
theorem dX9_take_0 : decode cX9_take 0 = .ok (.aload_n 2, 1) := by decide +kernel
theorem dX9_take_1 : decode cX9_take 1 = .ok (.arraylength, 1) := by decide +kernel
theorem dX9_take_2 : decode cX9_take 2 = .ok (.iconst 4, 1) := by decide +kernel
theorem dX9_take_3 : decode cX9_take 3 = .ok (.if_icmp .ge 5, 3) := by decide +kernel
theorem dX9_take_6 : decode cX9_take 6 = .ok (.iconst 0, 1) := by decide +kernel
theorem dX9_take_7 : decode cX9_take 7 = .ok (.ireturn, 1) := by decide +kernel
theorem dX9_take_8 : decode cX9_take 8 = .ok (.iload_n 1, 1) := by decide +kernel
theorem dX9_take_9 : decode cX9_take 9 = .ok (.lookupswitch 90 #[(99, 79), (109, 71), (114, 43), (119, 60)], 43) := by decide +kernel
theorem dX9_take_52 : decode cX9_take 52 = .ok (.aload_n 0, 1) := by decide +kernel
theorem dX9_take_53 : decode cX9_take 53 = .ok (.aload_n 2, 1) := by decide +kernel
theorem dX9_take_54 : decode cX9_take 54 = .ok (.iconst 0, 1) := by decide +kernel
theorem dX9_take_55 : decode cX9_take 55 = .ok (.iaload, 1) := by decide +kernel
theorem dX9_take_56 : decode cX9_take 56 = .ok (.aload_n 2, 1) := by decide +kernel
theorem dX9_take_57 : decode cX9_take 57 = .ok (.iconst 1, 1) := by decide +kernel
theorem dX9_take_58 : decode cX9_take 58 = .ok (.iaload, 1) := by decide +kernel
theorem dX9_take_59 : decode cX9_take 59 = .ok (.aload_n 2, 1) := by decide +kernel
theorem dX9_take_60 : decode cX9_take 60 = .ok (.iconst 2, 1) := by decide +kernel
theorem dX9_take_61 : decode cX9_take 61 = .ok (.iaload, 1) := by decide +kernel
theorem dX9_take_62 : decode cX9_take 62 = .ok (.aload_n 2, 1) := by decide +kernel
theorem dX9_take_63 : decode cX9_take 63 = .ok (.iconst 3, 1) := by decide +kernel
theorem dX9_take_64 : decode cX9_take 64 = .ok (.iaload, 1) := by decide +kernel
theorem dX9_take_65 : decode cX9_take 65 = .ok (.invokevirtual 58, 3) := by decide +kernel
theorem dX9_take_68 : decode cX9_take 68 = .ok (.ireturn, 1) := by decide +kernel
theorem dX9_take_69 : decode cX9_take 69 = .ok (.aload_n 0, 1) := by decide +kernel
theorem dX9_take_70 : decode cX9_take 70 = .ok (.aload_n 2, 1) := by decide +kernel
theorem dX9_take_71 : decode cX9_take 71 = .ok (.iconst 0, 1) := by decide +kernel
theorem dX9_take_72 : decode cX9_take 72 = .ok (.iaload, 1) := by decide +kernel
theorem dX9_take_73 : decode cX9_take 73 = .ok (.aload_n 2, 1) := by decide +kernel
theorem dX9_take_74 : decode cX9_take 74 = .ok (.iconst 1, 1) := by decide +kernel
theorem dX9_take_75 : decode cX9_take 75 = .ok (.iaload, 1) := by decide +kernel
theorem dX9_take_76 : decode cX9_take 76 = .ok (.invokevirtual 62, 3) := by decide +kernel
theorem dX9_take_79 : decode cX9_take 79 = .ok (.ireturn, 1) := by decide +kernel
theorem dX9_take_80 : decode cX9_take 80 = .ok (.aload_n 0, 1) := by decide +kernel
theorem dX9_take_81 : decode cX9_take 81 = .ok (.aload_n 2, 1) := by decide +kernel
theorem dX9_take_82 : decode cX9_take 82 = .ok (.iconst 0, 1) := by decide +kernel
theorem dX9_take_83 : decode cX9_take 83 = .ok (.iaload, 1) := by decide +kernel
theorem dX9_take_84 : decode cX9_take 84 = .ok (.invokevirtual 66, 3) := by decide +kernel
theorem dX9_take_87 : decode cX9_take 87 = .ok (.ireturn, 1) := by decide +kernel
theorem dX9_take_88 : decode cX9_take 88 = .ok (.aload_n 0, 1) := by decide +kernel
theorem dX9_take_89 : decode cX9_take 89 = .ok (.aload_n 2, 1) := by decide +kernel
theorem dX9_take_90 : decode cX9_take 90 = .ok (.iconst 0, 1) := by decide +kernel
theorem dX9_take_91 : decode cX9_take 91 = .ok (.iaload, 1) := by decide +kernel
theorem dX9_take_92 : decode cX9_take 92 = .ok (.aload_n 2, 1) := by decide +kernel
theorem dX9_take_93 : decode cX9_take 93 = .ok (.iconst 1, 1) := by decide +kernel
theorem dX9_take_94 : decode cX9_take 94 = .ok (.iaload, 1) := by decide +kernel
theorem dX9_take_95 : decode cX9_take 95 = .ok (.invokevirtual 70, 3) := by decide +kernel
theorem dX9_take_98 : decode cX9_take 98 = .ok (.ireturn, 1) := by decide +kernel
theorem dX9_take_99 : decode cX9_take 99 = .ok (.iconst 0, 1) := by decide +kernel
theorem dX9_take_100 : decode cX9_take 100 = .ok (.ireturn, 1) := by decide +kernel
theorem dX9_takeRope_0 : decode cX9_takeRope 0 = .ok (.aload_n 0, 1) := by decide +kernel
theorem dX9_takeRope_1 : decode cX9_takeRope 1 = .ok (.getfield 42, 3) := by decide +kernel
theorem dX9_takeRope_4 : decode cX9_takeRope 4 = .ok (.iconst 5, 1) := by decide +kernel
theorem dX9_takeRope_5 : decode cX9_takeRope 5 = .ok (.if_icmp .ge 20, 3) := by decide +kernel
theorem dX9_takeRope_8 : decode cX9_takeRope 8 = .ok (.iload_n 1, 1) := by decide +kernel
theorem dX9_takeRope_9 : decode cX9_takeRope 9 = .ok (.invokestatic 73, 3) := by decide +kernel
theorem dX9_takeRope_12 : decode cX9_takeRope 12 = .ok (.ifCond .eq 13, 3) := by decide +kernel
theorem dX9_takeRope_15 : decode cX9_takeRope 15 = .ok (.aload_n 0, 1) := by decide +kernel
theorem dX9_takeRope_16 : decode cX9_takeRope 16 = .ok (.iload_n 1, 1) := by decide +kernel
theorem dX9_takeRope_17 : decode cX9_takeRope 17 = .ok (.invokevirtual 76, 3) := by decide +kernel
theorem dX9_takeRope_20 : decode cX9_takeRope 20 = .ok (.bipush (-4), 2) := by decide +kernel
theorem dX9_takeRope_22 : decode cX9_takeRope 22 = .ok (.if_icmp .eq 5, 3) := by decide +kernel
theorem dX9_takeRope_25 : decode cX9_takeRope 25 = .ok (.iconst 0, 1) := by decide +kernel
theorem dX9_takeRope_26 : decode cX9_takeRope 26 = .ok (.ireturn, 1) := by decide +kernel
theorem dX9_takeRope_27 : decode cX9_takeRope 27 = .ok (.iload_n 2, 1) := by decide +kernel
theorem dX9_takeRope_28 : decode cX9_takeRope 28 = .ok (.iconst 1, 1) := by decide +kernel
theorem dX9_takeRope_29 : decode cX9_takeRope 29 = .ok (.if_icmp .lt 25, 3) := by decide +kernel
theorem dX9_takeRope_32 : decode cX9_takeRope 32 = .ok (.iload_n 2, 1) := by decide +kernel
theorem dX9_takeRope_33 : decode cX9_takeRope 33 = .ok (.iconst 5, 1) := by decide +kernel
theorem dX9_takeRope_34 : decode cX9_takeRope 34 = .ok (.if_icmp .gt 20, 3) := by decide +kernel
theorem dX9_takeRope_37 : decode cX9_takeRope 37 = .ok (.iload_n 3, 1) := by decide +kernel
theorem dX9_takeRope_38 : decode cX9_takeRope 38 = .ok (.ifCond .lt 16, 3) := by decide +kernel
theorem dX9_takeRope_41 : decode cX9_takeRope 41 = .ok (.iload_n 3, 1) := by decide +kernel
theorem dX9_takeRope_42 : decode cX9_takeRope 42 = .ok (.iconst 3, 1) := by decide +kernel
theorem dX9_takeRope_43 : decode cX9_takeRope 43 = .ok (.if_icmp .gt 11, 3) := by decide +kernel
theorem dX9_takeRope_46 : decode cX9_takeRope 46 = .ok (.iload 4, 2) := by decide +kernel
theorem dX9_takeRope_48 : decode cX9_takeRope 48 = .ok (.invokestatic 80, 3) := by decide +kernel
theorem dX9_takeRope_51 : decode cX9_takeRope 51 = .ok (.ifCond .ne 5, 3) := by decide +kernel
theorem dX9_takeRope_54 : decode cX9_takeRope 54 = .ok (.iconst 0, 1) := by decide +kernel
theorem dX9_takeRope_55 : decode cX9_takeRope 55 = .ok (.ireturn, 1) := by decide +kernel
theorem dX9_takeRope_56 : decode cX9_takeRope 56 = .ok (.aload_n 0, 1) := by decide +kernel
theorem dX9_takeRope_57 : decode cX9_takeRope 57 = .ok (.getfield 9, 3) := by decide +kernel
theorem dX9_takeRope_60 : decode cX9_takeRope 60 = .ok (.aload_n 0, 1) := by decide +kernel
theorem dX9_takeRope_61 : decode cX9_takeRope 61 = .ok (.getfield 42, 3) := by decide +kernel
theorem dX9_takeRope_64 : decode cX9_takeRope 64 = .ok (.iload_n 1, 1) := by decide +kernel
theorem dX9_takeRope_65 : decode cX9_takeRope 65 = .ok (.iastore, 1) := by decide +kernel
theorem dX9_takeRope_66 : decode cX9_takeRope 66 = .ok (.aload_n 0, 1) := by decide +kernel
theorem dX9_takeRope_67 : decode cX9_takeRope 67 = .ok (.getfield 15, 3) := by decide +kernel
theorem dX9_takeRope_70 : decode cX9_takeRope 70 = .ok (.aload_n 0, 1) := by decide +kernel
theorem dX9_takeRope_71 : decode cX9_takeRope 71 = .ok (.getfield 42, 3) := by decide +kernel
theorem dX9_takeRope_74 : decode cX9_takeRope 74 = .ok (.iload_n 2, 1) := by decide +kernel
theorem dX9_takeRope_75 : decode cX9_takeRope 75 = .ok (.iastore, 1) := by decide +kernel
theorem dX9_takeRope_76 : decode cX9_takeRope 76 = .ok (.aload_n 0, 1) := by decide +kernel
theorem dX9_takeRope_77 : decode cX9_takeRope 77 = .ok (.getfield 18, 3) := by decide +kernel
theorem dX9_takeRope_80 : decode cX9_takeRope 80 = .ok (.aload_n 0, 1) := by decide +kernel
theorem dX9_takeRope_81 : decode cX9_takeRope 81 = .ok (.getfield 42, 3) := by decide +kernel
theorem dX9_takeRope_84 : decode cX9_takeRope 84 = .ok (.iload_n 3, 1) := by decide +kernel
theorem dX9_takeRope_85 : decode cX9_takeRope 85 = .ok (.iastore, 1) := by decide +kernel
theorem dX9_takeRope_86 : decode cX9_takeRope 86 = .ok (.aload_n 0, 1) := by decide +kernel
theorem dX9_takeRope_87 : decode cX9_takeRope 87 = .ok (.getfield 21, 3) := by decide +kernel
theorem dX9_takeRope_90 : decode cX9_takeRope 90 = .ok (.aload_n 0, 1) := by decide +kernel
theorem dX9_takeRope_91 : decode cX9_takeRope 91 = .ok (.getfield 42, 3) := by decide +kernel
theorem dX9_takeRope_94 : decode cX9_takeRope 94 = .ok (.iload 4, 2) := by decide +kernel
theorem dX9_takeRope_96 : decode cX9_takeRope 96 = .ok (.iastore, 1) := by decide +kernel
theorem dX9_takeRope_97 : decode cX9_takeRope 97 = .ok (.aload_n 0, 1) := by decide +kernel
theorem dX9_takeRope_98 : decode cX9_takeRope 98 = .ok (.dup, 1) := by decide +kernel
theorem dX9_takeRope_99 : decode cX9_takeRope 99 = .ok (.getfield 42, 3) := by decide +kernel
theorem dX9_takeRope_102 : decode cX9_takeRope 102 = .ok (.iconst 1, 1) := by decide +kernel
theorem dX9_takeRope_103 : decode cX9_takeRope 103 = .ok (.iadd, 1) := by decide +kernel
theorem dX9_takeRope_104 : decode cX9_takeRope 104 = .ok (.putfield 42, 3) := by decide +kernel
theorem dX9_takeRope_107 : decode cX9_takeRope 107 = .ok (.iconst 1, 1) := by decide +kernel
theorem dX9_takeRope_108 : decode cX9_takeRope 108 = .ok (.ireturn, 1) := by decide +kernel
theorem dX9_takeWant_0 : decode cX9_takeWant 0 = .ok (.aload_n 0, 1) := by decide +kernel
theorem dX9_takeWant_1 : decode cX9_takeWant 1 = .ok (.getfield 46, 3) := by decide +kernel
theorem dX9_takeWant_4 : decode cX9_takeWant 4 = .ok (.bipush 8, 2) := by decide +kernel
theorem dX9_takeWant_6 : decode cX9_takeWant 6 = .ok (.if_icmp .ge 17, 3) := by decide +kernel
theorem dX9_takeWant_9 : decode cX9_takeWant 9 = .ok (.iload_n 1, 1) := by decide +kernel
theorem dX9_takeWant_10 : decode cX9_takeWant 10 = .ok (.invokestatic 73, 3) := by decide +kernel
theorem dX9_takeWant_13 : decode cX9_takeWant 13 = .ok (.ifCond .eq 10, 3) := by decide +kernel
theorem dX9_takeWant_16 : decode cX9_takeWant 16 = .ok (.iload_n 2, 1) := by decide +kernel
theorem dX9_takeWant_17 : decode cX9_takeWant 17 = .ok (.invokestatic 83, 3) := by decide +kernel
theorem dX9_takeWant_20 : decode cX9_takeWant 20 = .ok (.ifCond .ne 5, 3) := by decide +kernel
theorem dX9_takeWant_23 : decode cX9_takeWant 23 = .ok (.iconst 0, 1) := by decide +kernel
theorem dX9_takeWant_24 : decode cX9_takeWant 24 = .ok (.ireturn, 1) := by decide +kernel
theorem dX9_takeWant_25 : decode cX9_takeWant 25 = .ok (.aload_n 0, 1) := by decide +kernel
theorem dX9_takeWant_26 : decode cX9_takeWant 26 = .ok (.getfield 24, 3) := by decide +kernel
theorem dX9_takeWant_29 : decode cX9_takeWant 29 = .ok (.aload_n 0, 1) := by decide +kernel
theorem dX9_takeWant_30 : decode cX9_takeWant 30 = .ok (.getfield 46, 3) := by decide +kernel
theorem dX9_takeWant_33 : decode cX9_takeWant 33 = .ok (.iload_n 1, 1) := by decide +kernel
theorem dX9_takeWant_34 : decode cX9_takeWant 34 = .ok (.iastore, 1) := by decide +kernel
theorem dX9_takeWant_35 : decode cX9_takeWant 35 = .ok (.aload_n 0, 1) := by decide +kernel
theorem dX9_takeWant_36 : decode cX9_takeWant 36 = .ok (.getfield 27, 3) := by decide +kernel
theorem dX9_takeWant_39 : decode cX9_takeWant 39 = .ok (.aload_n 0, 1) := by decide +kernel
theorem dX9_takeWant_40 : decode cX9_takeWant 40 = .ok (.getfield 46, 3) := by decide +kernel
theorem dX9_takeWant_43 : decode cX9_takeWant 43 = .ok (.iload_n 2, 1) := by decide +kernel
theorem dX9_takeWant_44 : decode cX9_takeWant 44 = .ok (.iastore, 1) := by decide +kernel
theorem dX9_takeWant_45 : decode cX9_takeWant 45 = .ok (.aload_n 0, 1) := by decide +kernel
theorem dX9_takeWant_46 : decode cX9_takeWant 46 = .ok (.dup, 1) := by decide +kernel
theorem dX9_takeWant_47 : decode cX9_takeWant 47 = .ok (.getfield 46, 3) := by decide +kernel
theorem dX9_takeWant_50 : decode cX9_takeWant 50 = .ok (.iconst 1, 1) := by decide +kernel
theorem dX9_takeWant_51 : decode cX9_takeWant 51 = .ok (.iadd, 1) := by decide +kernel
theorem dX9_takeWant_52 : decode cX9_takeWant 52 = .ok (.putfield 46, 3) := by decide +kernel
theorem dX9_takeWant_55 : decode cX9_takeWant 55 = .ok (.iconst 1, 1) := by decide +kernel
theorem dX9_takeWant_56 : decode cX9_takeWant 56 = .ok (.ireturn, 1) := by decide +kernel
theorem dX9_takeMan_0 : decode cX9_takeMan 0 = .ok (.aload_n 0, 1) := by decide +kernel
theorem dX9_takeMan_1 : decode cX9_takeMan 1 = .ok (.getfield 49, 3) := by decide +kernel
theorem dX9_takeMan_4 : decode cX9_takeMan 4 = .ok (.bipush 6, 2) := by decide +kernel
theorem dX9_takeMan_6 : decode cX9_takeMan 6 = .ok (.if_icmp .ge 10, 3) := by decide +kernel
theorem dX9_takeMan_9 : decode cX9_takeMan 9 = .ok (.iload_n 1, 1) := by decide +kernel
theorem dX9_takeMan_10 : decode cX9_takeMan 10 = .ok (.invokestatic 73, 3) := by decide +kernel
theorem dX9_takeMan_13 : decode cX9_takeMan 13 = .ok (.ifCond .ne 5, 3) := by decide +kernel
theorem dX9_takeMan_16 : decode cX9_takeMan 16 = .ok (.iconst 0, 1) := by decide +kernel
theorem dX9_takeMan_17 : decode cX9_takeMan 17 = .ok (.ireturn, 1) := by decide +kernel
theorem dX9_takeMan_18 : decode cX9_takeMan 18 = .ok (.aload_n 0, 1) := by decide +kernel
theorem dX9_takeMan_19 : decode cX9_takeMan 19 = .ok (.getfield 30, 3) := by decide +kernel
theorem dX9_takeMan_22 : decode cX9_takeMan 22 = .ok (.aload_n 0, 1) := by decide +kernel
theorem dX9_takeMan_23 : decode cX9_takeMan 23 = .ok (.getfield 49, 3) := by decide +kernel
theorem dX9_takeMan_26 : decode cX9_takeMan 26 = .ok (.iload_n 1, 1) := by decide +kernel
theorem dX9_takeMan_27 : decode cX9_takeMan 27 = .ok (.iastore, 1) := by decide +kernel
theorem dX9_takeMan_28 : decode cX9_takeMan 28 = .ok (.aload_n 0, 1) := by decide +kernel
theorem dX9_takeMan_29 : decode cX9_takeMan 29 = .ok (.dup, 1) := by decide +kernel
theorem dX9_takeMan_30 : decode cX9_takeMan 30 = .ok (.getfield 49, 3) := by decide +kernel
theorem dX9_takeMan_33 : decode cX9_takeMan 33 = .ok (.iconst 1, 1) := by decide +kernel
theorem dX9_takeMan_34 : decode cX9_takeMan 34 = .ok (.iadd, 1) := by decide +kernel
theorem dX9_takeMan_35 : decode cX9_takeMan 35 = .ok (.putfield 49, 3) := by decide +kernel
theorem dX9_takeMan_38 : decode cX9_takeMan 38 = .ok (.iconst 1, 1) := by decide +kernel
theorem dX9_takeMan_39 : decode cX9_takeMan 39 = .ok (.ireturn, 1) := by decide +kernel
theorem dX9_takePrices_0 : decode cX9_takePrices 0 = .ok (.iload_n 1, 1) := by decide +kernel
theorem dX9_takePrices_1 : decode cX9_takePrices 1 = .ok (.ifCond .lt 19, 3) := by decide +kernel
theorem dX9_takePrices_4 : decode cX9_takePrices 4 = .ok (.iload_n 1, 1) := by decide +kernel
theorem dX9_takePrices_5 : decode cX9_takePrices 5 = .ok (.bipush 9, 2) := by decide +kernel
theorem dX9_takePrices_7 : decode cX9_takePrices 7 = .ok (.if_icmp .gt 13, 3) := by decide +kernel
theorem dX9_takePrices_10 : decode cX9_takePrices 10 = .ok (.iload_n 2, 1) := by decide +kernel
theorem dX9_takePrices_11 : decode cX9_takePrices 11 = .ok (.ifCond .lt 9, 3) := by decide +kernel
theorem dX9_takePrices_14 : decode cX9_takePrices 14 = .ok (.iload_n 2, 1) := by decide +kernel
theorem dX9_takePrices_15 : decode cX9_takePrices 15 = .ok (.bipush 9, 2) := by decide +kernel
theorem dX9_takePrices_17 : decode cX9_takePrices 17 = .ok (.if_icmp .le 5, 3) := by decide +kernel
theorem dX9_takePrices_20 : decode cX9_takePrices 20 = .ok (.iconst 0, 1) := by decide +kernel
theorem dX9_takePrices_21 : decode cX9_takePrices 21 = .ok (.ireturn, 1) := by decide +kernel
theorem dX9_takePrices_22 : decode cX9_takePrices 22 = .ok (.aload_n 0, 1) := by decide +kernel
theorem dX9_takePrices_23 : decode cX9_takePrices 23 = .ok (.iload_n 1, 1) := by decide +kernel
theorem dX9_takePrices_24 : decode cX9_takePrices 24 = .ok (.putfield 52, 3) := by decide +kernel
theorem dX9_takePrices_27 : decode cX9_takePrices 27 = .ok (.aload_n 0, 1) := by decide +kernel
theorem dX9_takePrices_28 : decode cX9_takePrices 28 = .ok (.iload_n 2, 1) := by decide +kernel
theorem dX9_takePrices_29 : decode cX9_takePrices 29 = .ok (.putfield 55, 3) := by decide +kernel
theorem dX9_takePrices_32 : decode cX9_takePrices 32 = .ok (.iconst 1, 1) := by decide +kernel
theorem dX9_takePrices_33 : decode cX9_takePrices 33 = .ok (.ireturn, 1) := by decide +kernel
theorem dX9_ropeOver_0 : decode cX9_ropeOver 0 = .ok (.iconst 0, 1) := by decide +kernel
theorem dX9_ropeOver_1 : decode cX9_ropeOver 1 = .ok (.istore_n 2, 1) := by decide +kernel
theorem dX9_ropeOver_2 : decode cX9_ropeOver 2 = .ok (.iload_n 2, 1) := by decide +kernel
theorem dX9_ropeOver_3 : decode cX9_ropeOver 3 = .ok (.aload_n 0, 1) := by decide +kernel
theorem dX9_ropeOver_4 : decode cX9_ropeOver 4 = .ok (.getfield 42, 3) := by decide +kernel
theorem dX9_ropeOver_7 : decode cX9_ropeOver 7 = .ok (.if_icmp .ge 21, 3) := by decide +kernel
theorem dX9_ropeOver_10 : decode cX9_ropeOver 10 = .ok (.aload_n 0, 1) := by decide +kernel
theorem dX9_ropeOver_11 : decode cX9_ropeOver 11 = .ok (.getfield 9, 3) := by decide +kernel
theorem dX9_ropeOver_14 : decode cX9_ropeOver 14 = .ok (.iload_n 2, 1) := by decide +kernel
theorem dX9_ropeOver_15 : decode cX9_ropeOver 15 = .ok (.iaload, 1) := by decide +kernel
theorem dX9_ropeOver_16 : decode cX9_ropeOver 16 = .ok (.iload_n 1, 1) := by decide +kernel
theorem dX9_ropeOver_17 : decode cX9_ropeOver 17 = .ok (.if_icmp .ne 5, 3) := by decide +kernel
theorem dX9_ropeOver_20 : decode cX9_ropeOver 20 = .ok (.iload_n 2, 1) := by decide +kernel
theorem dX9_ropeOver_21 : decode cX9_ropeOver 21 = .ok (.ireturn, 1) := by decide +kernel
theorem dX9_ropeOver_22 : decode cX9_ropeOver 22 = .ok (.iinc 2 1, 3) := by decide +kernel
theorem dX9_ropeOver_25 : decode cX9_ropeOver 25 = .ok (.goto (-23), 3) := by decide +kernel
theorem dX9_ropeOver_28 : decode cX9_ropeOver 28 = .ok (.bipush (-4), 2) := by decide +kernel
theorem dX9_ropeOver_30 : decode cX9_ropeOver 30 = .ok (.ireturn, 1) := by decide +kernel
theorem dX9_findNeighbours_0 : decode cX9_findNeighbours 0 = .ok (.bipush (-4), 2) := by decide +kernel
theorem dX9_findNeighbours_2 : decode cX9_findNeighbours 2 = .ok (.istore_n 1, 1) := by decide +kernel
theorem dX9_findNeighbours_3 : decode cX9_findNeighbours 3 = .ok (.iconst 0, 1) := by decide +kernel
theorem dX9_findNeighbours_4 : decode cX9_findNeighbours 4 = .ok (.istore_n 2, 1) := by decide +kernel
theorem dX9_findNeighbours_5 : decode cX9_findNeighbours 5 = .ok (.iload_n 2, 1) := by decide +kernel
theorem dX9_findNeighbours_6 : decode cX9_findNeighbours 6 = .ok (.bipush 24, 2) := by decide +kernel
theorem dX9_findNeighbours_8 : decode cX9_findNeighbours 8 = .ok (.if_icmp .ge 34, 3) := by decide +kernel
theorem dX9_findNeighbours_11 : decode cX9_findNeighbours 11 = .ok (.aload_n 0, 1) := by decide +kernel
theorem dX9_findNeighbours_12 : decode cX9_findNeighbours 12 = .ok (.iload_n 2, 1) := by decide +kernel
theorem dX9_findNeighbours_13 : decode cX9_findNeighbours 13 = .ok (.invokevirtual 76, 3) := by decide +kernel
theorem dX9_findNeighbours_16 : decode cX9_findNeighbours 16 = .ok (.istore_n 3, 1) := by decide +kernel
theorem dX9_findNeighbours_17 : decode cX9_findNeighbours 17 = .ok (.iload_n 3, 1) := by decide +kernel
theorem dX9_findNeighbours_18 : decode cX9_findNeighbours 18 = .ok (.bipush (-4), 2) := by decide +kernel
theorem dX9_findNeighbours_20 : decode cX9_findNeighbours 20 = .ok (.if_icmp .ne 7, 3) := by decide +kernel
theorem dX9_findNeighbours_23 : decode cX9_findNeighbours 23 = .ok (.iload_n 1, 1) := by decide +kernel
theorem dX9_findNeighbours_24 : decode cX9_findNeighbours 24 = .ok (.goto 4, 3) := by decide +kernel
theorem dX9_findNeighbours_27 : decode cX9_findNeighbours 27 = .ok (.iload_n 3, 1) := by decide +kernel
theorem dX9_findNeighbours_28 : decode cX9_findNeighbours 28 = .ok (.istore_n 1, 1) := by decide +kernel
theorem dX9_findNeighbours_29 : decode cX9_findNeighbours 29 = .ok (.aload_n 0, 1) := by decide +kernel
theorem dX9_findNeighbours_30 : decode cX9_findNeighbours 30 = .ok (.getfield 33, 3) := by decide +kernel
theorem dX9_findNeighbours_33 : decode cX9_findNeighbours 33 = .ok (.iload_n 2, 1) := by decide +kernel
theorem dX9_findNeighbours_34 : decode cX9_findNeighbours 34 = .ok (.iload_n 1, 1) := by decide +kernel
theorem dX9_findNeighbours_35 : decode cX9_findNeighbours 35 = .ok (.iastore, 1) := by decide +kernel
theorem dX9_findNeighbours_36 : decode cX9_findNeighbours 36 = .ok (.iinc 2 1, 3) := by decide +kernel
theorem dX9_findNeighbours_39 : decode cX9_findNeighbours 39 = .ok (.goto (-34), 3) := by decide +kernel
theorem dX9_findNeighbours_42 : decode cX9_findNeighbours 42 = .ok (.bipush (-4), 2) := by decide +kernel
theorem dX9_findNeighbours_44 : decode cX9_findNeighbours 44 = .ok (.istore_n 2, 1) := by decide +kernel
theorem dX9_findNeighbours_45 : decode cX9_findNeighbours 45 = .ok (.bipush 23, 2) := by decide +kernel
theorem dX9_findNeighbours_47 : decode cX9_findNeighbours 47 = .ok (.istore_n 3, 1) := by decide +kernel
theorem dX9_findNeighbours_48 : decode cX9_findNeighbours 48 = .ok (.iload_n 3, 1) := by decide +kernel
theorem dX9_findNeighbours_49 : decode cX9_findNeighbours 49 = .ok (.ifCond .lt 79, 3) := by decide +kernel
theorem dX9_findNeighbours_52 : decode cX9_findNeighbours 52 = .ok (.aload_n 0, 1) := by decide +kernel
theorem dX9_findNeighbours_53 : decode cX9_findNeighbours 53 = .ok (.iload_n 3, 1) := by decide +kernel
theorem dX9_findNeighbours_54 : decode cX9_findNeighbours 54 = .ok (.invokevirtual 76, 3) := by decide +kernel
theorem dX9_findNeighbours_57 : decode cX9_findNeighbours 57 = .ok (.istore 4, 2) := by decide +kernel
theorem dX9_findNeighbours_59 : decode cX9_findNeighbours 59 = .ok (.iload 4, 2) := by decide +kernel
theorem dX9_findNeighbours_61 : decode cX9_findNeighbours 61 = .ok (.bipush (-4), 2) := by decide +kernel
theorem dX9_findNeighbours_63 : decode cX9_findNeighbours 63 = .ok (.if_icmp .ne 7, 3) := by decide +kernel
theorem dX9_findNeighbours_66 : decode cX9_findNeighbours 66 = .ok (.iload_n 2, 1) := by decide +kernel
theorem dX9_findNeighbours_67 : decode cX9_findNeighbours 67 = .ok (.goto 5, 3) := by decide +kernel
theorem dX9_findNeighbours_70 : decode cX9_findNeighbours 70 = .ok (.iload 4, 2) := by decide +kernel
theorem dX9_findNeighbours_72 : decode cX9_findNeighbours 72 = .ok (.istore_n 2, 1) := by decide +kernel
theorem dX9_findNeighbours_73 : decode cX9_findNeighbours 73 = .ok (.aload_n 0, 1) := by decide +kernel
theorem dX9_findNeighbours_74 : decode cX9_findNeighbours 74 = .ok (.getfield 36, 3) := by decide +kernel
theorem dX9_findNeighbours_77 : decode cX9_findNeighbours 77 = .ok (.iload_n 3, 1) := by decide +kernel
theorem dX9_findNeighbours_78 : decode cX9_findNeighbours 78 = .ok (.iload_n 2, 1) := by decide +kernel
theorem dX9_findNeighbours_79 : decode cX9_findNeighbours 79 = .ok (.bipush (-4), 2) := by decide +kernel
theorem dX9_findNeighbours_81 : decode cX9_findNeighbours 81 = .ok (.if_icmp .ne 12, 3) := by decide +kernel
theorem dX9_findNeighbours_84 : decode cX9_findNeighbours 84 = .ok (.aload_n 0, 1) := by decide +kernel
theorem dX9_findNeighbours_85 : decode cX9_findNeighbours 85 = .ok (.getfield 33, 3) := by decide +kernel
theorem dX9_findNeighbours_88 : decode cX9_findNeighbours 88 = .ok (.iload_n 3, 1) := by decide +kernel
theorem dX9_findNeighbours_89 : decode cX9_findNeighbours 89 = .ok (.iaload, 1) := by decide +kernel
theorem dX9_findNeighbours_90 : decode cX9_findNeighbours 90 = .ok (.goto 4, 3) := by decide +kernel
theorem dX9_findNeighbours_93 : decode cX9_findNeighbours 93 = .ok (.iload_n 2, 1) := by decide +kernel
theorem dX9_findNeighbours_94 : decode cX9_findNeighbours 94 = .ok (.iastore, 1) := by decide +kernel
theorem dX9_findNeighbours_95 : decode cX9_findNeighbours 95 = .ok (.aload_n 0, 1) := by decide +kernel
theorem dX9_findNeighbours_96 : decode cX9_findNeighbours 96 = .ok (.getfield 33, 3) := by decide +kernel
theorem dX9_findNeighbours_99 : decode cX9_findNeighbours 99 = .ok (.iload_n 3, 1) := by decide +kernel
theorem dX9_findNeighbours_100 : decode cX9_findNeighbours 100 = .ok (.aload_n 0, 1) := by decide +kernel
theorem dX9_findNeighbours_101 : decode cX9_findNeighbours 101 = .ok (.getfield 33, 3) := by decide +kernel
theorem dX9_findNeighbours_104 : decode cX9_findNeighbours 104 = .ok (.iload_n 3, 1) := by decide +kernel
theorem dX9_findNeighbours_105 : decode cX9_findNeighbours 105 = .ok (.iaload, 1) := by decide +kernel
theorem dX9_findNeighbours_106 : decode cX9_findNeighbours 106 = .ok (.bipush (-4), 2) := by decide +kernel
theorem dX9_findNeighbours_108 : decode cX9_findNeighbours 108 = .ok (.if_icmp .ne 7, 3) := by decide +kernel
theorem dX9_findNeighbours_111 : decode cX9_findNeighbours 111 = .ok (.iload_n 2, 1) := by decide +kernel
theorem dX9_findNeighbours_112 : decode cX9_findNeighbours 112 = .ok (.goto 9, 3) := by decide +kernel
theorem dX9_findNeighbours_115 : decode cX9_findNeighbours 115 = .ok (.aload_n 0, 1) := by decide +kernel
theorem dX9_findNeighbours_116 : decode cX9_findNeighbours 116 = .ok (.getfield 33, 3) := by decide +kernel
theorem dX9_findNeighbours_119 : decode cX9_findNeighbours 119 = .ok (.iload_n 3, 1) := by decide +kernel
theorem dX9_findNeighbours_120 : decode cX9_findNeighbours 120 = .ok (.iaload, 1) := by decide +kernel
theorem dX9_findNeighbours_121 : decode cX9_findNeighbours 121 = .ok (.iastore, 1) := by decide +kernel
theorem dX9_findNeighbours_122 : decode cX9_findNeighbours 122 = .ok (.iinc 3 (-1), 3) := by decide +kernel
theorem dX9_findNeighbours_125 : decode cX9_findNeighbours 125 = .ok (.goto (-77), 3) := by decide +kernel
theorem dX9_findNeighbours_128 : decode cX9_findNeighbours 128 = .ok (.return_, 1) := by decide +kernel
theorem dX9_hasRope_0 : decode cX9_hasRope 0 = .ok (.iload_n 1, 1) := by decide +kernel
theorem dX9_hasRope_1 : decode cX9_hasRope 1 = .ok (.ifCond .lt 15, 3) := by decide +kernel
theorem dX9_hasRope_4 : decode cX9_hasRope 4 = .ok (.iload_n 1, 1) := by decide +kernel
theorem dX9_hasRope_5 : decode cX9_hasRope 5 = .ok (.aload_n 0, 1) := by decide +kernel
theorem dX9_hasRope_6 : decode cX9_hasRope 6 = .ok (.getfield 42, 3) := by decide +kernel
theorem dX9_hasRope_9 : decode cX9_hasRope 9 = .ok (.if_icmp .ge 7, 3) := by decide +kernel
theorem dX9_hasRope_12 : decode cX9_hasRope 12 = .ok (.iconst 1, 1) := by decide +kernel
theorem dX9_hasRope_13 : decode cX9_hasRope 13 = .ok (.goto 4, 3) := by decide +kernel
theorem dX9_hasRope_16 : decode cX9_hasRope 16 = .ok (.iconst 0, 1) := by decide +kernel
theorem dX9_hasRope_17 : decode cX9_hasRope 17 = .ok (.ireturn, 1) := by decide +kernel
theorem dX9_sets_0 : decode cX9_sets 0 = .ok (.iconst 1, 1) := by decide +kernel
theorem dX9_sets_1 : decode cX9_sets 1 = .ok (.aload_n 0, 1) := by decide +kernel
theorem dX9_sets_2 : decode cX9_sets 2 = .ok (.getfield 42, 3) := by decide +kernel
theorem dX9_sets_5 : decode cX9_sets 5 = .ok (.ishl, 1) := by decide +kernel
theorem dX9_sets_6 : decode cX9_sets 6 = .ok (.ireturn, 1) := by decide +kernel
theorem dX9_hasSet_0 : decode cX9_hasSet 0 = .ok (.iload_n 1, 1) := by decide +kernel
theorem dX9_hasSet_1 : decode cX9_hasSet 1 = .ok (.ifCond .lt 15, 3) := by decide +kernel
theorem dX9_hasSet_4 : decode cX9_hasSet 4 = .ok (.iload_n 1, 1) := by decide +kernel
theorem dX9_hasSet_5 : decode cX9_hasSet 5 = .ok (.aload_n 0, 1) := by decide +kernel
theorem dX9_hasSet_6 : decode cX9_hasSet 6 = .ok (.invokevirtual 86, 3) := by decide +kernel
theorem dX9_hasSet_9 : decode cX9_hasSet 9 = .ok (.if_icmp .ge 7, 3) := by decide +kernel
theorem dX9_hasSet_12 : decode cX9_hasSet 12 = .ok (.iconst 1, 1) := by decide +kernel
theorem dX9_hasSet_13 : decode cX9_hasSet 13 = .ok (.goto 4, 3) := by decide +kernel
theorem dX9_hasSet_16 : decode cX9_hasSet 16 = .ok (.iconst 0, 1) := by decide +kernel
theorem dX9_hasSet_17 : decode cX9_hasSet 17 = .ok (.ireturn, 1) := by decide +kernel
theorem dX9_price_0 : decode cX9_price 0 = .ok (.aload_n 0, 1) := by decide +kernel
theorem dX9_price_1 : decode cX9_price 1 = .ok (.getfield 52, 3) := by decide +kernel
theorem dX9_price_4 : decode cX9_price 4 = .ok (.iload_n 1, 1) := by decide +kernel
theorem dX9_price_5 : decode cX9_price 5 = .ok (.invokestatic 90, 3) := by decide +kernel
theorem dX9_price_8 : decode cX9_price 8 = .ok (.imul, 1) := by decide +kernel
theorem dX9_price_9 : decode cX9_price 9 = .ok (.aload_n 0, 1) := by decide +kernel
theorem dX9_price_10 : decode cX9_price 10 = .ok (.getfield 55, 3) := by decide +kernel
theorem dX9_price_13 : decode cX9_price 13 = .ok (.iload_n 2, 1) := by decide +kernel
theorem dX9_price_14 : decode cX9_price 14 = .ok (.invokestatic 90, 3) := by decide +kernel
theorem dX9_price_17 : decode cX9_price 17 = .ok (.imul, 1) := by decide +kernel
theorem dX9_price_18 : decode cX9_price 18 = .ok (.iadd, 1) := by decide +kernel
theorem dX9_price_19 : decode cX9_price 19 = .ok (.ireturn, 1) := by decide +kernel
theorem dX9_lowness_0 : decode cX9_lowness 0 = .ok (.iload_n 2, 1) := by decide +kernel
theorem dX9_lowness_1 : decode cX9_lowness 1 = .ok (.invokestatic 73, 3) := by decide +kernel
theorem dX9_lowness_4 : decode cX9_lowness 4 = .ok (.ifCond .ne 5, 3) := by decide +kernel
theorem dX9_lowness_7 : decode cX9_lowness 7 = .ok (.iconst 0, 1) := by decide +kernel
theorem dX9_lowness_8 : decode cX9_lowness 8 = .ok (.ireturn, 1) := by decide +kernel
theorem dX9_lowness_9 : decode cX9_lowness 9 = .ok (.aload_n 0, 1) := by decide +kernel
theorem dX9_lowness_10 : decode cX9_lowness 10 = .ok (.getfield 33, 3) := by decide +kernel
theorem dX9_lowness_13 : decode cX9_lowness 13 = .ok (.iload_n 2, 1) := by decide +kernel
theorem dX9_lowness_14 : decode cX9_lowness 14 = .ok (.iaload, 1) := by decide +kernel
theorem dX9_lowness_15 : decode cX9_lowness 15 = .ok (.istore_n 3, 1) := by decide +kernel
theorem dX9_lowness_16 : decode cX9_lowness 16 = .ok (.aload_n 0, 1) := by decide +kernel
theorem dX9_lowness_17 : decode cX9_lowness 17 = .ok (.getfield 36, 3) := by decide +kernel
theorem dX9_lowness_20 : decode cX9_lowness 20 = .ok (.iload_n 2, 1) := by decide +kernel
theorem dX9_lowness_21 : decode cX9_lowness 21 = .ok (.iaload, 1) := by decide +kernel
theorem dX9_lowness_22 : decode cX9_lowness 22 = .ok (.istore 4, 2) := by decide +kernel
theorem dX9_lowness_24 : decode cX9_lowness 24 = .ok (.aload_n 0, 1) := by decide +kernel
theorem dX9_lowness_25 : decode cX9_lowness 25 = .ok (.iload_n 3, 1) := by decide +kernel
theorem dX9_lowness_26 : decode cX9_lowness 26 = .ok (.invokevirtual 95, 3) := by decide +kernel
theorem dX9_lowness_29 : decode cX9_lowness 29 = .ok (.ifCond .eq 12, 3) := by decide +kernel
theorem dX9_lowness_32 : decode cX9_lowness 32 = .ok (.aload_n 0, 1) := by decide +kernel
theorem dX9_lowness_33 : decode cX9_lowness 33 = .ok (.iload 4, 2) := by decide +kernel
theorem dX9_lowness_35 : decode cX9_lowness 35 = .ok (.invokevirtual 95, 3) := by decide +kernel
theorem dX9_lowness_38 : decode cX9_lowness 38 = .ok (.ifCond .ne 5, 3) := by decide +kernel
theorem dX9_lowness_41 : decode cX9_lowness 41 = .ok (.iconst 0, 1) := by decide +kernel
theorem dX9_lowness_42 : decode cX9_lowness 42 = .ok (.ireturn, 1) := by decide +kernel
theorem dX9_lowness_43 : decode cX9_lowness 43 = .ok (.aload_n 0, 1) := by decide +kernel
theorem dX9_lowness_44 : decode cX9_lowness 44 = .ok (.getfield 9, 3) := by decide +kernel
theorem dX9_lowness_47 : decode cX9_lowness 47 = .ok (.iload 4, 2) := by decide +kernel
theorem dX9_lowness_49 : decode cX9_lowness 49 = .ok (.iaload, 1) := by decide +kernel
theorem dX9_lowness_50 : decode cX9_lowness 50 = .ok (.aload_n 0, 1) := by decide +kernel
theorem dX9_lowness_51 : decode cX9_lowness 51 = .ok (.getfield 9, 3) := by decide +kernel
theorem dX9_lowness_54 : decode cX9_lowness 54 = .ok (.iload_n 3, 1) := by decide +kernel
theorem dX9_lowness_55 : decode cX9_lowness 55 = .ok (.iaload, 1) := by decide +kernel
theorem dX9_lowness_56 : decode cX9_lowness 56 = .ok (.isub, 1) := by decide +kernel
theorem dX9_lowness_57 : decode cX9_lowness 57 = .ok (.istore 5, 2) := by decide +kernel
theorem dX9_lowness_59 : decode cX9_lowness 59 = .ok (.iload 5, 2) := by decide +kernel
theorem dX9_lowness_61 : decode cX9_lowness 61 = .ok (.ifCond .gt 7, 3) := by decide +kernel
theorem dX9_lowness_64 : decode cX9_lowness 64 = .ok (.aload_n 1, 1) := by decide +kernel
theorem dX9_lowness_65 : decode cX9_lowness 65 = .ok (.iload_n 3, 1) := by decide +kernel
theorem dX9_lowness_66 : decode cX9_lowness 66 = .ok (.iaload, 1) := by decide +kernel
theorem dX9_lowness_67 : decode cX9_lowness 67 = .ok (.ireturn, 1) := by decide +kernel
theorem dX9_lowness_68 : decode cX9_lowness 68 = .ok (.aload_n 1, 1) := by decide +kernel
theorem dX9_lowness_69 : decode cX9_lowness 69 = .ok (.iload_n 3, 1) := by decide +kernel
theorem dX9_lowness_70 : decode cX9_lowness 70 = .ok (.iaload, 1) := by decide +kernel
theorem dX9_lowness_71 : decode cX9_lowness 71 = .ok (.aload_n 0, 1) := by decide +kernel
theorem dX9_lowness_72 : decode cX9_lowness 72 = .ok (.getfield 9, 3) := by decide +kernel
theorem dX9_lowness_75 : decode cX9_lowness 75 = .ok (.iload 4, 2) := by decide +kernel
theorem dX9_lowness_77 : decode cX9_lowness 77 = .ok (.iaload, 1) := by decide +kernel
theorem dX9_lowness_78 : decode cX9_lowness 78 = .ok (.iload_n 2, 1) := by decide +kernel
theorem dX9_lowness_79 : decode cX9_lowness 79 = .ok (.isub, 1) := by decide +kernel
theorem dX9_lowness_80 : decode cX9_lowness 80 = .ok (.imul, 1) := by decide +kernel
theorem dX9_lowness_81 : decode cX9_lowness 81 = .ok (.aload_n 1, 1) := by decide +kernel
theorem dX9_lowness_82 : decode cX9_lowness 82 = .ok (.iload 4, 2) := by decide +kernel
theorem dX9_lowness_84 : decode cX9_lowness 84 = .ok (.iaload, 1) := by decide +kernel
theorem dX9_lowness_85 : decode cX9_lowness 85 = .ok (.iload_n 2, 1) := by decide +kernel
theorem dX9_lowness_86 : decode cX9_lowness 86 = .ok (.aload_n 0, 1) := by decide +kernel
theorem dX9_lowness_87 : decode cX9_lowness 87 = .ok (.getfield 9, 3) := by decide +kernel
theorem dX9_lowness_90 : decode cX9_lowness 90 = .ok (.iload_n 3, 1) := by decide +kernel
theorem dX9_lowness_91 : decode cX9_lowness 91 = .ok (.iaload, 1) := by decide +kernel
theorem dX9_lowness_92 : decode cX9_lowness 92 = .ok (.isub, 1) := by decide +kernel
