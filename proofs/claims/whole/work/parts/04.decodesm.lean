theorem dX9_init_0 : decode cX9_init 0 = .ok (.aload_n 0, 1) := by decide +kernel
theorem dX9_init_1 : decode cX9_init 1 = .ok (.invokespecial 1, 3) := by decide +kernel
theorem dX9_init_4 : decode cX9_init 4 = .ok (.aload_n 0, 1) := by decide +kernel
theorem dX9_init_5 : decode cX9_init 5 = .ok (.sipush 5514, 3) := by decide +kernel
theorem dX9_init_8 : decode cX9_init 8 = .ok (.newarray .int, 2) := by decide +kernel
theorem dX9_init_10 : decode cX9_init 10 = .ok (.putfield 7, 3) := by decide +kernel
theorem dX9_init_13 : decode cX9_init 13 = .ok (.aload_n 0, 1) := by decide +kernel
theorem dX9_init_14 : decode cX9_init 14 = .ok (.sipush 22056, 3) := by decide +kernel
theorem dX9_init_17 : decode cX9_init 17 = .ok (.newarray .int, 2) := by decide +kernel
theorem dX9_init_19 : decode cX9_init 19 = .ok (.putfield 13, 3) := by decide +kernel
theorem dX9_init_22 : decode cX9_init 22 = .ok (.aload_n 0, 1) := by decide +kernel
theorem dX9_init_23 : decode cX9_init 23 = .ok (.sipush 5514, 3) := by decide +kernel
theorem dX9_init_26 : decode cX9_init 26 = .ok (.newarray .int, 2) := by decide +kernel
theorem dX9_init_28 : decode cX9_init 28 = .ok (.putfield 16, 3) := by decide +kernel
theorem dX9_init_31 : decode cX9_init 31 = .ok (.aload_n 0, 1) := by decide +kernel
theorem dX9_init_32 : decode cX9_init 32 = .ok (.bipush 100, 2) := by decide +kernel
theorem dX9_init_34 : decode cX9_init 34 = .ok (.newarray .int, 2) := by decide +kernel
theorem dX9_init_36 : decode cX9_init 36 = .ok (.putfield 19, 3) := by decide +kernel
theorem dX9_init_39 : decode cX9_init 39 = .ok (.aload_n 0, 1) := by decide +kernel
theorem dX9_init_40 : decode cX9_init 40 = .ok (.bipush 6, 2) := by decide +kernel
theorem dX9_init_42 : decode cX9_init 42 = .ok (.newarray .int, 2) := by decide +kernel
theorem dX9_init_44 : decode cX9_init 44 = .ok (.putfield 22, 3) := by decide +kernel
theorem dX9_init_47 : decode cX9_init 47 = .ok (.aload_n 0, 1) := by decide +kernel
theorem dX9_init_48 : decode cX9_init 48 = .ok (.getfield 7, 3) := by decide +kernel
theorem dX9_init_51 : decode cX9_init 51 = .ok (.iconst 4, 1) := by decide +kernel
theorem dX9_init_52 : decode cX9_init 52 = .ok (.iconst 1, 1) := by decide +kernel
theorem dX9_init_53 : decode cX9_init 53 = .ok (.iastore, 1) := by decide +kernel
theorem dX9_init_54 : decode cX9_init 54 = .ok (.aload_n 0, 1) := by decide +kernel
theorem dX9_init_55 : decode cX9_init 55 = .ok (.getfield 7, 3) := by decide +kernel
theorem dX9_init_58 : decode cX9_init 58 = .ok (.iconst 5, 1) := by decide +kernel
theorem dX9_init_59 : decode cX9_init 59 = .ok (.sipush 160, 3) := by decide +kernel
theorem dX9_init_62 : decode cX9_init 62 = .ok (.iastore, 1) := by decide +kernel
theorem dX9_init_63 : decode cX9_init 63 = .ok (.aload_n 0, 1) := by decide +kernel
theorem dX9_init_64 : decode cX9_init 64 = .ok (.getfield 7, 3) := by decide +kernel
theorem dX9_init_67 : decode cX9_init 67 = .ok (.bipush 52, 2) := by decide +kernel
theorem dX9_init_69 : decode cX9_init 69 = .ok (.iconst 3, 1) := by decide +kernel
theorem dX9_init_70 : decode cX9_init 70 = .ok (.iastore, 1) := by decide +kernel
theorem dX9_init_71 : decode cX9_init 71 = .ok (.aload_n 0, 1) := by decide +kernel
theorem dX9_init_72 : decode cX9_init 72 = .ok (.getfield 7, 3) := by decide +kernel
theorem dX9_init_75 : decode cX9_init 75 = .ok (.bipush 53, 2) := by decide +kernel
theorem dX9_init_77 : decode cX9_init 77 = .ok (.iconst 1, 1) := by decide +kernel
theorem dX9_init_78 : decode cX9_init 78 = .ok (.iastore, 1) := by decide +kernel
theorem dX9_init_79 : decode cX9_init 79 = .ok (.aload_n 0, 1) := by decide +kernel
theorem dX9_init_80 : decode cX9_init 80 = .ok (.getfield 7, 3) := by decide +kernel
theorem dX9_init_83 : decode cX9_init 83 = .ok (.bipush 54, 2) := by decide +kernel
theorem dX9_init_85 : decode cX9_init 85 = .ok (.iconst 2, 1) := by decide +kernel
theorem dX9_init_86 : decode cX9_init 86 = .ok (.iastore, 1) := by decide +kernel
theorem dX9_init_87 : decode cX9_init 87 = .ok (.aload_n 0, 1) := by decide +kernel
theorem dX9_init_88 : decode cX9_init 88 = .ok (.getfield 7, 3) := by decide +kernel
theorem dX9_init_91 : decode cX9_init 91 = .ok (.bipush 55, 2) := by decide +kernel
theorem dX9_init_93 : decode cX9_init 93 = .ok (.iconst (-1), 1) := by decide +kernel
theorem dX9_init_94 : decode cX9_init 94 = .ok (.iastore, 1) := by decide +kernel
theorem dX9_init_95 : decode cX9_init 95 = .ok (.iconst 0, 1) := by decide +kernel
theorem dX9_init_96 : decode cX9_init 96 = .ok (.istore_n 1, 1) := by decide +kernel
theorem dX9_init_97 : decode cX9_init 97 = .ok (.iload_n 1, 1) := by decide +kernel
theorem dX9_init_98 : decode cX9_init 98 = .ok (.bipush 64, 2) := by decide +kernel
theorem dX9_init_100 : decode cX9_init 100 = .ok (.if_icmp .ge 22, 3) := by decide +kernel
theorem dX9_init_103 : decode cX9_init 103 = .ok (.aload_n 0, 1) := by decide +kernel
theorem dX9_init_104 : decode cX9_init 104 = .ok (.getfield 7, 3) := by decide +kernel
theorem dX9_init_107 : decode cX9_init 107 = .ok (.bipush 66, 2) := by decide +kernel
theorem dX9_init_109 : decode cX9_init 109 = .ok (.bipush 7, 2) := by decide +kernel
theorem dX9_init_111 : decode cX9_init 111 = .ok (.iload_n 1, 1) := by decide +kernel
theorem dX9_init_112 : decode cX9_init 112 = .ok (.imul, 1) := by decide +kernel
theorem dX9_init_113 : decode cX9_init 113 = .ok (.iadd, 1) := by decide +kernel
theorem dX9_init_114 : decode cX9_init 114 = .ok (.iconst (-1), 1) := by decide +kernel
theorem dX9_init_115 : decode cX9_init 115 = .ok (.iastore, 1) := by decide +kernel
theorem dX9_init_116 : decode cX9_init 116 = .ok (.iinc 1 1, 3) := by decide +kernel
theorem dX9_init_119 : decode cX9_init 119 = .ok (.goto (-22), 3) := by decide +kernel
theorem dX9_init_122 : decode cX9_init 122 = .ok (.return_, 1) := by decide +kernel
theorem dX9_thrown_0 : decode cX9_thrown 0 = .ok (.aload_n 0, 1) := by decide +kernel
theorem dX9_thrown_1 : decode cX9_thrown 1 = .ok (.getfield 25, 3) := by decide +kernel
theorem dX9_thrown_4 : decode cX9_thrown 4 = .ok (.ireturn, 1) := by decide +kernel
theorem dX9_in_0 : decode cX9_in 0 = .ok (.iload_n 0, 1) := by decide +kernel
theorem dX9_in_1 : decode cX9_in 1 = .ok (.iload_n 1, 1) := by decide +kernel
theorem dX9_in_2 : decode cX9_in 2 = .ok (.if_icmp .lt 12, 3) := by decide +kernel
theorem dX9_in_5 : decode cX9_in 5 = .ok (.iload_n 0, 1) := by decide +kernel
theorem dX9_in_6 : decode cX9_in 6 = .ok (.iload_n 2, 1) := by decide +kernel
theorem dX9_in_7 : decode cX9_in 7 = .ok (.if_icmp .gt 7, 3) := by decide +kernel
theorem dX9_in_10 : decode cX9_in 10 = .ok (.iconst 1, 1) := by decide +kernel
theorem dX9_in_11 : decode cX9_in 11 = .ok (.goto 4, 3) := by decide +kernel
theorem dX9_in_14 : decode cX9_in 14 = .ok (.iconst 0, 1) := by decide +kernel
theorem dX9_in_15 : decode cX9_in 15 = .ok (.ireturn, 1) := by decide +kernel
theorem dX9_fails_0 : decode cX9_fails 0 = .ok (.aload_n 0, 1) := by decide +kernel
theorem dX9_fails_1 : decode cX9_fails 1 = .ok (.iload_n 1, 1) := by decide +kernel
theorem dX9_fails_2 : decode cX9_fails 2 = .ok (.putfield 25, 3) := by decide +kernel
theorem dX9_fails_5 : decode cX9_fails 5 = .ok (.iconst 0, 1) := by decide +kernel
theorem dX9_fails_6 : decode cX9_fails 6 = .ok (.ireturn, 1) := by decide +kernel
theorem dX9_tells_0 : decode cX9_tells 0 = .ok (.aload_n 0, 1) := by decide +kernel
theorem dX9_tells_1 : decode cX9_tells 1 = .ok (.iconst 0, 1) := by decide +kernel
theorem dX9_tells_2 : decode cX9_tells 2 = .ok (.putfield 25, 3) := by decide +kernel
theorem dX9_tells_5 : decode cX9_tells 5 = .ok (.iload_n 1, 1) := by decide +kernel
theorem dX9_tells_6 : decode cX9_tells 6 = .ok (.ireturn, 1) := by decide +kernel
theorem dX9_hold_0 : decode cX9_hold 0 = .ok (.iconst 0, 1) := by decide +kernel
theorem dX9_hold_1 : decode cX9_hold 1 = .ok (.istore_n 1, 1) := by decide +kernel
theorem dX9_hold_2 : decode cX9_hold 2 = .ok (.iload_n 1, 1) := by decide +kernel
theorem dX9_hold_3 : decode cX9_hold 3 = .ok (.sipush 5514, 3) := by decide +kernel
theorem dX9_hold_6 : decode cX9_hold 6 = .ok (.if_icmp .ge 21, 3) := by decide +kernel
theorem dX9_hold_9 : decode cX9_hold 9 = .ok (.aload_n 0, 1) := by decide +kernel
theorem dX9_hold_10 : decode cX9_hold 10 = .ok (.getfield 16, 3) := by decide +kernel
theorem dX9_hold_13 : decode cX9_hold 13 = .ok (.iload_n 1, 1) := by decide +kernel
theorem dX9_hold_14 : decode cX9_hold 14 = .ok (.aload_n 0, 1) := by decide +kernel
theorem dX9_hold_15 : decode cX9_hold 15 = .ok (.getfield 7, 3) := by decide +kernel
theorem dX9_hold_18 : decode cX9_hold 18 = .ok (.iload_n 1, 1) := by decide +kernel
theorem dX9_hold_19 : decode cX9_hold 19 = .ok (.iaload, 1) := by decide +kernel
theorem dX9_hold_20 : decode cX9_hold 20 = .ok (.iastore, 1) := by decide +kernel
theorem dX9_hold_21 : decode cX9_hold 21 = .ok (.iinc 1 1, 3) := by decide +kernel
theorem dX9_hold_24 : decode cX9_hold 24 = .ok (.goto (-22), 3) := by decide +kernel
theorem dX9_hold_27 : decode cX9_hold 27 = .ok (.return_, 1) := by decide +kernel
theorem dX9_restore_0 : decode cX9_restore 0 = .ok (.iconst 0, 1) := by decide +kernel
theorem dX9_restore_1 : decode cX9_restore 1 = .ok (.istore_n 1, 1) := by decide +kernel
theorem dX9_restore_2 : decode cX9_restore 2 = .ok (.iload_n 1, 1) := by decide +kernel
theorem dX9_restore_3 : decode cX9_restore 3 = .ok (.sipush 5514, 3) := by decide +kernel
theorem dX9_restore_6 : decode cX9_restore 6 = .ok (.if_icmp .ge 21, 3) := by decide +kernel
theorem dX9_restore_9 : decode cX9_restore 9 = .ok (.aload_n 0, 1) := by decide +kernel
theorem dX9_restore_10 : decode cX9_restore 10 = .ok (.getfield 7, 3) := by decide +kernel
theorem dX9_restore_13 : decode cX9_restore 13 = .ok (.iload_n 1, 1) := by decide +kernel
theorem dX9_restore_14 : decode cX9_restore 14 = .ok (.aload_n 0, 1) := by decide +kernel
theorem dX9_restore_15 : decode cX9_restore 15 = .ok (.getfield 16, 3) := by decide +kernel
theorem dX9_restore_18 : decode cX9_restore 18 = .ok (.iload_n 1, 1) := by decide +kernel
theorem dX9_restore_19 : decode cX9_restore 19 = .ok (.iaload, 1) := by decide +kernel
theorem dX9_restore_20 : decode cX9_restore 20 = .ok (.iastore, 1) := by decide +kernel
theorem dX9_restore_21 : decode cX9_restore 21 = .ok (.iinc 1 1, 3) := by decide +kernel
theorem dX9_restore_24 : decode cX9_restore 24 = .ok (.goto (-22), 3) := by decide +kernel
theorem dX9_restore_27 : decode cX9_restore 27 = .ok (.return_, 1) := by decide +kernel
theorem dX9_ends_0 : decode cX9_ends 0 = .ok (.aload_n 0, 1) := by decide +kernel
theorem dX9_ends_1 : decode cX9_ends 1 = .ok (.getfield 29, 3) := by decide +kernel
theorem dX9_ends_4 : decode cX9_ends 4 = .ok (.iconst 4, 1) := by decide +kernel
theorem dX9_ends_5 : decode cX9_ends 5 = .ok (.if_icmp .ne 44, 3) := by decide +kernel
theorem dX9_ends_8 : decode cX9_ends 8 = .ok (.iconst 0, 1) := by decide +kernel
theorem dX9_ends_9 : decode cX9_ends 9 = .ok (.istore_n 2, 1) := by decide +kernel
theorem dX9_ends_10 : decode cX9_ends 10 = .ok (.iload_n 2, 1) := by decide +kernel
theorem dX9_ends_11 : decode cX9_ends 11 = .ok (.sipush 16542, 3) := by decide +kernel
theorem dX9_ends_14 : decode cX9_ends 14 = .ok (.if_icmp .ge 25, 3) := by decide +kernel
theorem dX9_ends_17 : decode cX9_ends 17 = .ok (.aload_n 0, 1) := by decide +kernel
theorem dX9_ends_18 : decode cX9_ends 18 = .ok (.getfield 13, 3) := by decide +kernel
theorem dX9_ends_21 : decode cX9_ends 21 = .ok (.iload_n 2, 1) := by decide +kernel
theorem dX9_ends_22 : decode cX9_ends 22 = .ok (.aload_n 0, 1) := by decide +kernel
theorem dX9_ends_23 : decode cX9_ends 23 = .ok (.getfield 13, 3) := by decide +kernel
theorem dX9_ends_26 : decode cX9_ends 26 = .ok (.iload_n 2, 1) := by decide +kernel
theorem dX9_ends_27 : decode cX9_ends 27 = .ok (.sipush 5514, 3) := by decide +kernel
theorem dX9_ends_30 : decode cX9_ends 30 = .ok (.iadd, 1) := by decide +kernel
theorem dX9_ends_31 : decode cX9_ends 31 = .ok (.iaload, 1) := by decide +kernel
theorem dX9_ends_32 : decode cX9_ends 32 = .ok (.iastore, 1) := by decide +kernel
theorem dX9_ends_33 : decode cX9_ends 33 = .ok (.iinc 2 1, 3) := by decide +kernel
theorem dX9_ends_36 : decode cX9_ends 36 = .ok (.goto (-26), 3) := by decide +kernel
theorem dX9_ends_39 : decode cX9_ends 39 = .ok (.aload_n 0, 1) := by decide +kernel
theorem dX9_ends_40 : decode cX9_ends 40 = .ok (.dup, 1) := by decide +kernel
theorem dX9_ends_41 : decode cX9_ends 41 = .ok (.getfield 29, 3) := by decide +kernel
theorem dX9_ends_44 : decode cX9_ends 44 = .ok (.iconst 1, 1) := by decide +kernel
theorem dX9_ends_45 : decode cX9_ends 45 = .ok (.isub, 1) := by decide +kernel
theorem dX9_ends_46 : decode cX9_ends 46 = .ok (.putfield 29, 3) := by decide +kernel
theorem dX9_ends_49 : decode cX9_ends 49 = .ok (.iconst 0, 1) := by decide +kernel
theorem dX9_ends_50 : decode cX9_ends 50 = .ok (.istore_n 2, 1) := by decide +kernel
theorem dX9_ends_51 : decode cX9_ends 51 = .ok (.iload_n 2, 1) := by decide +kernel
theorem dX9_ends_52 : decode cX9_ends 52 = .ok (.sipush 5514, 3) := by decide +kernel
theorem dX9_ends_55 : decode cX9_ends 55 = .ok (.if_icmp .ge 30, 3) := by decide +kernel
theorem dX9_ends_58 : decode cX9_ends 58 = .ok (.aload_n 0, 1) := by decide +kernel
theorem dX9_ends_59 : decode cX9_ends 59 = .ok (.getfield 13, 3) := by decide +kernel
theorem dX9_ends_62 : decode cX9_ends 62 = .ok (.sipush 5514, 3) := by decide +kernel
theorem dX9_ends_65 : decode cX9_ends 65 = .ok (.aload_n 0, 1) := by decide +kernel
theorem dX9_ends_66 : decode cX9_ends 66 = .ok (.getfield 29, 3) := by decide +kernel
theorem dX9_ends_69 : decode cX9_ends 69 = .ok (.imul, 1) := by decide +kernel
theorem dX9_ends_70 : decode cX9_ends 70 = .ok (.iload_n 2, 1) := by decide +kernel
theorem dX9_ends_71 : decode cX9_ends 71 = .ok (.iadd, 1) := by decide +kernel
theorem dX9_ends_72 : decode cX9_ends 72 = .ok (.aload_n 0, 1) := by decide +kernel
theorem dX9_ends_73 : decode cX9_ends 73 = .ok (.getfield 16, 3) := by decide +kernel
theorem dX9_ends_76 : decode cX9_ends 76 = .ok (.iload_n 2, 1) := by decide +kernel
theorem dX9_ends_77 : decode cX9_ends 77 = .ok (.iaload, 1) := by decide +kernel
theorem dX9_ends_78 : decode cX9_ends 78 = .ok (.iastore, 1) := by decide +kernel
theorem dX9_ends_79 : decode cX9_ends 79 = .ok (.iinc 2 1, 3) := by decide +kernel
theorem dX9_ends_82 : decode cX9_ends 82 = .ok (.goto (-31), 3) := by decide +kernel
theorem dX9_ends_85 : decode cX9_ends 85 = .ok (.aload_n 0, 1) := by decide +kernel
theorem dX9_ends_86 : decode cX9_ends 86 = .ok (.dup, 1) := by decide +kernel
theorem dX9_ends_87 : decode cX9_ends 87 = .ok (.getfield 29, 3) := by decide +kernel
theorem dX9_ends_90 : decode cX9_ends 90 = .ok (.iconst 1, 1) := by decide +kernel
theorem dX9_ends_91 : decode cX9_ends 91 = .ok (.iadd, 1) := by decide +kernel
theorem dX9_ends_92 : decode cX9_ends 92 = .ok (.putfield 29, 3) := by decide +kernel
theorem dX9_ends_95 : decode cX9_ends 95 = .ok (.aload_n 0, 1) := by decide +kernel
theorem dX9_ends_96 : decode cX9_ends 96 = .ok (.iload_n 1, 1) := by decide +kernel
theorem dX9_ends_97 : decode cX9_ends 97 = .ok (.invokevirtual 32, 3) := by decide +kernel
theorem dX9_ends_100 : decode cX9_ends 100 = .ok (.ireturn, 1) := by decide +kernel
theorem dX9_modulo_0 : decode cX9_modulo 0 = .ok (.iload_n 0, 1) := by decide +kernel
theorem dX9_modulo_1 : decode cX9_modulo 1 = .ok (.ldc 36, 2) := by decide +kernel
theorem dX9_modulo_3 : decode cX9_modulo 3 = .ok (.iand, 1) := by decide +kernel
theorem dX9_modulo_4 : decode cX9_modulo 4 = .ok (.ireturn, 1) := by decide +kernel
theorem dX9_difference_0 : decode cX9_difference 0 = .ok (.iload_n 0, 1) := by decide +kernel
theorem dX9_difference_1 : decode cX9_difference 1 = .ok (.iload_n 1, 1) := by decide +kernel
theorem dX9_difference_2 : decode cX9_difference 2 = .ok (.isub, 1) := by decide +kernel
theorem dX9_difference_3 : decode cX9_difference 3 = .ok (.invokestatic 37, 3) := by decide +kernel
theorem dX9_difference_6 : decode cX9_difference 6 = .ok (.istore_n 2, 1) := by decide +kernel
theorem dX9_difference_7 : decode cX9_difference 7 = .ok (.iload_n 2, 1) := by decide +kernel
theorem dX9_difference_8 : decode cX9_difference 8 = .ok (.sipush 32767, 3) := by decide +kernel
theorem dX9_difference_11 : decode cX9_difference 11 = .ok (.if_icmp .le 10, 3) := by decide +kernel
theorem dX9_difference_14 : decode cX9_difference 14 = .ok (.iload_n 2, 1) := by decide +kernel
theorem dX9_difference_15 : decode cX9_difference 15 = .ok (.ldc 40, 2) := by decide +kernel
theorem dX9_difference_17 : decode cX9_difference 17 = .ok (.isub, 1) := by decide +kernel
theorem dX9_difference_18 : decode cX9_difference 18 = .ok (.goto 4, 3) := by decide +kernel
theorem dX9_difference_21 : decode cX9_difference 21 = .ok (.iload_n 2, 1) := by decide +kernel
theorem dX9_difference_22 : decode cX9_difference 22 = .ok (.ireturn, 1) := by decide +kernel
theorem dX9_greatest_0 : decode cX9_greatest 0 = .ok (.iload_n 0, 1) := by decide +kernel
theorem dX9_greatest_1 : decode cX9_greatest 1 = .ok (.ifCond .ne 9, 3) := by decide +kernel
theorem dX9_greatest_4 : decode cX9_greatest 4 = .ok (.sipush 255, 3) := by decide +kernel
theorem dX9_greatest_7 : decode cX9_greatest 7 = .ok (.goto 15, 3) := by decide +kernel
theorem dX9_greatest_10 : decode cX9_greatest 10 = .ok (.iload_n 0, 1) := by decide +kernel
theorem dX9_greatest_11 : decode cX9_greatest 11 = .ok (.iconst 3, 1) := by decide +kernel
theorem dX9_greatest_12 : decode cX9_greatest 12 = .ok (.if_icmp .ne 8, 3) := by decide +kernel
theorem dX9_greatest_15 : decode cX9_greatest 15 = .ok (.bipush 15, 2) := by decide +kernel
theorem dX9_greatest_17 : decode cX9_greatest 17 = .ok (.goto 5, 3) := by decide +kernel
theorem dX9_greatest_20 : decode cX9_greatest 20 = .ok (.ldc 36, 2) := by decide +kernel
theorem dX9_greatest_22 : decode cX9_greatest 22 = .ok (.ireturn, 1) := by decide +kernel
theorem dX9_setField_0 : decode cX9_setField 0 = .ok (.iload_n 1, 1) := by decide +kernel
theorem dX9_setField_1 : decode cX9_setField 1 = .ok (.iconst 0, 1) := by decide +kernel
theorem dX9_setField_2 : decode cX9_setField 2 = .ok (.iconst 3, 1) := by decide +kernel
theorem dX9_setField_3 : decode cX9_setField 3 = .ok (.invokestatic 41, 3) := by decide +kernel
theorem dX9_setField_6 : decode cX9_setField 6 = .ok (.ifCond .ne 9, 3) := by decide +kernel
theorem dX9_setField_9 : decode cX9_setField 9 = .ok (.aload_n 0, 1) := by decide +kernel
theorem dX9_setField_10 : decode cX9_setField 10 = .ok (.iconst 1, 1) := by decide +kernel
theorem dX9_setField_11 : decode cX9_setField 11 = .ok (.invokevirtual 45, 3) := by decide +kernel
theorem dX9_setField_14 : decode cX9_setField 14 = .ok (.ireturn, 1) := by decide +kernel
theorem dX9_setField_15 : decode cX9_setField 15 = .ok (.iload_n 2, 1) := by decide +kernel
theorem dX9_setField_16 : decode cX9_setField 16 = .ok (.iconst 0, 1) := by decide +kernel
theorem dX9_setField_17 : decode cX9_setField 17 = .ok (.iload_n 1, 1) := by decide +kernel
theorem dX9_setField_18 : decode cX9_setField 18 = .ok (.invokestatic 48, 3) := by decide +kernel
theorem dX9_setField_21 : decode cX9_setField 21 = .ok (.invokestatic 41, 3) := by decide +kernel
theorem dX9_setField_24 : decode cX9_setField 24 = .ok (.ifCond .ne 9, 3) := by decide +kernel
theorem dX9_setField_27 : decode cX9_setField 27 = .ok (.aload_n 0, 1) := by decide +kernel
theorem dX9_setField_28 : decode cX9_setField 28 = .ok (.iconst 2, 1) := by decide +kernel
theorem dX9_setField_29 : decode cX9_setField 29 = .ok (.invokevirtual 45, 3) := by decide +kernel
theorem dX9_setField_32 : decode cX9_setField 32 = .ok (.ireturn, 1) := by decide +kernel
theorem dX9_setField_33 : decode cX9_setField 33 = .ok (.aload_n 0, 1) := by decide +kernel
theorem dX9_setField_34 : decode cX9_setField 34 = .ok (.invokevirtual 51, 3) := by decide +kernel
theorem dX9_setField_37 : decode cX9_setField 37 = .ok (.aload_n 0, 1) := by decide +kernel
theorem dX9_setField_38 : decode cX9_setField 38 = .ok (.getfield 7, 3) := by decide +kernel
theorem dX9_setField_41 : decode cX9_setField 41 = .ok (.iconst 0, 1) := by decide +kernel
theorem dX9_setField_42 : decode cX9_setField 42 = .ok (.iload_n 1, 1) := by decide +kernel
theorem dX9_setField_43 : decode cX9_setField 43 = .ok (.iadd, 1) := by decide +kernel
theorem dX9_setField_44 : decode cX9_setField 44 = .ok (.iaload, 1) := by decide +kernel
theorem dX9_setField_45 : decode cX9_setField 45 = .ok (.istore_n 3, 1) := by decide +kernel
theorem dX9_setField_46 : decode cX9_setField 46 = .ok (.aload_n 0, 1) := by decide +kernel
theorem dX9_setField_47 : decode cX9_setField 47 = .ok (.getfield 7, 3) := by decide +kernel
theorem dX9_setField_50 : decode cX9_setField 50 = .ok (.iconst 0, 1) := by decide +kernel
theorem dX9_setField_51 : decode cX9_setField 51 = .ok (.iload_n 1, 1) := by decide +kernel
theorem dX9_setField_52 : decode cX9_setField 52 = .ok (.iadd, 1) := by decide +kernel
theorem dX9_setField_53 : decode cX9_setField 53 = .ok (.iload_n 2, 1) := by decide +kernel
theorem dX9_setField_54 : decode cX9_setField 54 = .ok (.iastore, 1) := by decide +kernel
theorem dX9_setField_55 : decode cX9_setField 55 = .ok (.aload_n 0, 1) := by decide +kernel
theorem dX9_setField_56 : decode cX9_setField 56 = .ok (.iload_n 3, 1) := by decide +kernel
theorem dX9_setField_57 : decode cX9_setField 57 = .ok (.invokevirtual 54, 3) := by decide +kernel
theorem dX9_setField_60 : decode cX9_setField 60 = .ok (.ireturn, 1) := by decide +kernel
theorem dX9_setStrides_0 : decode cX9_setStrides 0 = .ok (.iload_n 1, 1) := by decide +kernel
theorem dX9_setStrides_1 : decode cX9_setStrides 1 = .ok (.iconst 0, 1) := by decide +kernel
theorem dX9_setStrides_2 : decode cX9_setStrides 2 = .ok (.sipush 255, 3) := by decide +kernel
theorem dX9_setStrides_5 : decode cX9_setStrides 5 = .ok (.invokestatic 41, 3) := by decide +kernel
theorem dX9_setStrides_8 : decode cX9_setStrides 8 = .ok (.ifCond .eq 14, 3) := by decide +kernel
theorem dX9_setStrides_11 : decode cX9_setStrides 11 = .ok (.iload_n 2, 1) := by decide +kernel
theorem dX9_setStrides_12 : decode cX9_setStrides 12 = .ok (.iconst 0, 1) := by decide +kernel
theorem dX9_setStrides_13 : decode cX9_setStrides 13 = .ok (.sipush 4095, 3) := by decide +kernel
theorem dX9_setStrides_16 : decode cX9_setStrides 16 = .ok (.invokestatic 41, 3) := by decide +kernel
theorem dX9_setStrides_19 : decode cX9_setStrides 19 = .ok (.ifCond .ne 9, 3) := by decide +kernel
theorem dX9_setStrides_22 : decode cX9_setStrides 22 = .ok (.aload_n 0, 1) := by decide +kernel
theorem dX9_setStrides_23 : decode cX9_setStrides 23 = .ok (.iconst 1, 1) := by decide +kernel
theorem dX9_setStrides_24 : decode cX9_setStrides 24 = .ok (.invokevirtual 45, 3) := by decide +kernel
theorem dX9_setStrides_27 : decode cX9_setStrides 27 = .ok (.ireturn, 1) := by decide +kernel
theorem dX9_setStrides_28 : decode cX9_setStrides 28 = .ok (.aload_n 0, 1) := by decide +kernel
theorem dX9_setStrides_29 : decode cX9_setStrides 29 = .ok (.invokevirtual 51, 3) := by decide +kernel
theorem dX9_setStrides_32 : decode cX9_setStrides 32 = .ok (.aload_n 0, 1) := by decide +kernel
theorem dX9_setStrides_33 : decode cX9_setStrides 33 = .ok (.getfield 7, 3) := by decide +kernel
theorem dX9_setStrides_36 : decode cX9_setStrides 36 = .ok (.iconst 5, 1) := by decide +kernel
theorem dX9_setStrides_37 : decode cX9_setStrides 37 = .ok (.iaload, 1) := by decide +kernel
theorem dX9_setStrides_38 : decode cX9_setStrides 38 = .ok (.istore_n 3, 1) := by decide +kernel
theorem dX9_setStrides_39 : decode cX9_setStrides 39 = .ok (.aload_n 0, 1) := by decide +kernel
theorem dX9_setStrides_40 : decode cX9_setStrides 40 = .ok (.getfield 7, 3) := by decide +kernel
theorem dX9_setStrides_43 : decode cX9_setStrides 43 = .ok (.iconst 4, 1) := by decide +kernel
theorem dX9_setStrides_44 : decode cX9_setStrides 44 = .ok (.iload_n 1, 1) := by decide +kernel
theorem dX9_setStrides_45 : decode cX9_setStrides 45 = .ok (.iastore, 1) := by decide +kernel
theorem dX9_setStrides_46 : decode cX9_setStrides 46 = .ok (.aload_n 0, 1) := by decide +kernel
theorem dX9_setStrides_47 : decode cX9_setStrides 47 = .ok (.getfield 7, 3) := by decide +kernel
theorem dX9_setStrides_50 : decode cX9_setStrides 50 = .ok (.iconst 5, 1) := by decide +kernel
theorem dX9_setStrides_51 : decode cX9_setStrides 51 = .ok (.iload_n 2, 1) := by decide +kernel
theorem dX9_setStrides_52 : decode cX9_setStrides 52 = .ok (.iastore, 1) := by decide +kernel
theorem dX9_setStrides_53 : decode cX9_setStrides 53 = .ok (.aload_n 0, 1) := by decide +kernel
theorem dX9_setStrides_54 : decode cX9_setStrides 54 = .ok (.iload_n 3, 1) := by decide +kernel
theorem dX9_setStrides_55 : decode cX9_setStrides 55 = .ok (.invokevirtual 54, 3) := by decide +kernel
theorem dX9_setStrides_58 : decode cX9_setStrides 58 = .ok (.ireturn, 1) := by decide +kernel
theorem dX9_isPolicy_0 : decode cX9_isPolicy 0 = .ok (.iload_n 0, 1) := by decide +kernel
theorem dX9_isPolicy_1 : decode cX9_isPolicy 1 = .ok (.iconst 0, 1) := by decide +kernel
theorem dX9_isPolicy_2 : decode cX9_isPolicy 2 = .ok (.iconst 2, 1) := by decide +kernel
theorem dX9_isPolicy_3 : decode cX9_isPolicy 3 = .ok (.invokestatic 41, 3) := by decide +kernel
theorem dX9_isPolicy_6 : decode cX9_isPolicy 6 = .ok (.ifCond .eq 17, 3) := by decide +kernel
theorem dX9_isPolicy_9 : decode cX9_isPolicy 9 = .ok (.iload_n 1, 1) := by decide +kernel
theorem dX9_isPolicy_10 : decode cX9_isPolicy 10 = .ok (.iconst 0, 1) := by decide +kernel
theorem dX9_isPolicy_11 : decode cX9_isPolicy 11 = .ok (.bipush 15, 2) := by decide +kernel
theorem dX9_isPolicy_13 : decode cX9_isPolicy 13 = .ok (.invokestatic 41, 3) := by decide +kernel
theorem dX9_isPolicy_16 : decode cX9_isPolicy 16 = .ok (.ifCond .eq 7, 3) := by decide +kernel
theorem dX9_isPolicy_19 : decode cX9_isPolicy 19 = .ok (.iconst 1, 1) := by decide +kernel
theorem dX9_isPolicy_20 : decode cX9_isPolicy 20 = .ok (.goto 4, 3) := by decide +kernel
theorem dX9_isPolicy_23 : decode cX9_isPolicy 23 = .ok (.iconst 0, 1) := by decide +kernel
theorem dX9_isPolicy_24 : decode cX9_isPolicy 24 = .ok (.ireturn, 1) := by decide +kernel
theorem dX9_setPolicy_0 : decode cX9_setPolicy 0 = .ok (.iload_n 1, 1) := by decide +kernel
theorem dX9_setPolicy_1 : decode cX9_setPolicy 1 = .ok (.iload_n 2, 1) := by decide +kernel
theorem dX9_setPolicy_2 : decode cX9_setPolicy 2 = .ok (.invokestatic 57, 3) := by decide +kernel
theorem dX9_setPolicy_5 : decode cX9_setPolicy 5 = .ok (.ifCond .ne 9, 3) := by decide +kernel
theorem dX9_setPolicy_8 : decode cX9_setPolicy 8 = .ok (.aload_n 0, 1) := by decide +kernel
theorem dX9_setPolicy_9 : decode cX9_setPolicy 9 = .ok (.iconst 1, 1) := by decide +kernel
theorem dX9_setPolicy_10 : decode cX9_setPolicy 10 = .ok (.invokevirtual 45, 3) := by decide +kernel
theorem dX9_setPolicy_13 : decode cX9_setPolicy 13 = .ok (.ireturn, 1) := by decide +kernel
theorem dX9_setPolicy_14 : decode cX9_setPolicy 14 = .ok (.aload_n 0, 1) := by decide +kernel
theorem dX9_setPolicy_15 : decode cX9_setPolicy 15 = .ok (.invokevirtual 51, 3) := by decide +kernel
theorem dX9_setPolicy_18 : decode cX9_setPolicy 18 = .ok (.aload_n 0, 1) := by decide +kernel
theorem dX9_setPolicy_19 : decode cX9_setPolicy 19 = .ok (.getfield 7, 3) := by decide +kernel
theorem dX9_setPolicy_22 : decode cX9_setPolicy 22 = .ok (.bipush 6, 2) := by decide +kernel
theorem dX9_setPolicy_24 : decode cX9_setPolicy 24 = .ok (.iaload, 1) := by decide +kernel
theorem dX9_setPolicy_25 : decode cX9_setPolicy 25 = .ok (.istore_n 3, 1) := by decide +kernel
theorem dX9_setPolicy_26 : decode cX9_setPolicy 26 = .ok (.aload_n 0, 1) := by decide +kernel
theorem dX9_setPolicy_27 : decode cX9_setPolicy 27 = .ok (.getfield 7, 3) := by decide +kernel
theorem dX9_setPolicy_30 : decode cX9_setPolicy 30 = .ok (.bipush 6, 2) := by decide +kernel
theorem dX9_setPolicy_32 : decode cX9_setPolicy 32 = .ok (.iload_n 1, 1) := by decide +kernel
theorem dX9_setPolicy_33 : decode cX9_setPolicy 33 = .ok (.iastore, 1) := by decide +kernel
theorem dX9_setPolicy_34 : decode cX9_setPolicy 34 = .ok (.aload_n 0, 1) := by decide +kernel
theorem dX9_setPolicy_35 : decode cX9_setPolicy 35 = .ok (.getfield 7, 3) := by decide +kernel
theorem dX9_setPolicy_38 : decode cX9_setPolicy 38 = .ok (.bipush 7, 2) := by decide +kernel
theorem dX9_setPolicy_40 : decode cX9_setPolicy 40 = .ok (.iload_n 2, 1) := by decide +kernel
theorem dX9_setPolicy_41 : decode cX9_setPolicy 41 = .ok (.iastore, 1) := by decide +kernel
theorem dX9_setPolicy_42 : decode cX9_setPolicy 42 = .ok (.aload_n 0, 1) := by decide +kernel
theorem dX9_setPolicy_43 : decode cX9_setPolicy 43 = .ok (.iload_n 3, 1) := by decide +kernel
theorem dX9_setPolicy_44 : decode cX9_setPolicy 44 = .ok (.invokevirtual 54, 3) := by decide +kernel
theorem dX9_setPolicy_47 : decode cX9_setPolicy 47 = .ok (.ireturn, 1) := by decide +kernel
theorem dX9_goesOn_0 : decode cX9_goesOn 0 = .ok (.aload_n 0, 1) := by decide +kernel
theorem dX9_goesOn_1 : decode cX9_goesOn 1 = .ok (.getfield 7, 3) := by decide +kernel
theorem dX9_goesOn_4 : decode cX9_goesOn 4 = .ok (.iconst 1, 1) := by decide +kernel
theorem dX9_goesOn_5 : decode cX9_goesOn 5 = .ok (.aload_n 0, 1) := by decide +kernel
theorem dX9_goesOn_6 : decode cX9_goesOn 6 = .ok (.getfield 7, 3) := by decide +kernel
theorem dX9_goesOn_9 : decode cX9_goesOn 9 = .ok (.iconst 1, 1) := by decide +kernel
theorem dX9_goesOn_10 : decode cX9_goesOn 10 = .ok (.iaload, 1) := by decide +kernel
theorem dX9_goesOn_11 : decode cX9_goesOn 11 = .ok (.aload_n 0, 1) := by decide +kernel
theorem dX9_goesOn_12 : decode cX9_goesOn 12 = .ok (.getfield 7, 3) := by decide +kernel
theorem dX9_goesOn_15 : decode cX9_goesOn 15 = .ok (.iconst 4, 1) := by decide +kernel
theorem dX9_goesOn_16 : decode cX9_goesOn 16 = .ok (.iaload, 1) := by decide +kernel
theorem dX9_goesOn_17 : decode cX9_goesOn 17 = .ok (.iadd, 1) := by decide +kernel
theorem dX9_goesOn_18 : decode cX9_goesOn 18 = .ok (.invokestatic 37, 3) := by decide +kernel
theorem dX9_goesOn_21 : decode cX9_goesOn 21 = .ok (.iastore, 1) := by decide +kernel
theorem dX9_goesOn_22 : decode cX9_goesOn 22 = .ok (.aload_n 0, 1) := by decide +kernel
theorem dX9_goesOn_23 : decode cX9_goesOn 23 = .ok (.getfield 7, 3) := by decide +kernel
theorem dX9_goesOn_26 : decode cX9_goesOn 26 = .ok (.iconst 2, 1) := by decide +kernel
theorem dX9_goesOn_27 : decode cX9_goesOn 27 = .ok (.aload_n 0, 1) := by decide +kernel
theorem dX9_goesOn_28 : decode cX9_goesOn 28 = .ok (.getfield 7, 3) := by decide +kernel
theorem dX9_goesOn_31 : decode cX9_goesOn 31 = .ok (.iconst 2, 1) := by decide +kernel
theorem dX9_goesOn_32 : decode cX9_goesOn 32 = .ok (.iaload, 1) := by decide +kernel
theorem dX9_goesOn_33 : decode cX9_goesOn 33 = .ok (.aload_n 0, 1) := by decide +kernel
theorem dX9_goesOn_34 : decode cX9_goesOn 34 = .ok (.getfield 7, 3) := by decide +kernel
theorem dX9_goesOn_37 : decode cX9_goesOn 37 = .ok (.iconst 5, 1) := by decide +kernel
theorem dX9_goesOn_38 : decode cX9_goesOn 38 = .ok (.iaload, 1) := by decide +kernel
theorem dX9_goesOn_39 : decode cX9_goesOn 39 = .ok (.iadd, 1) := by decide +kernel
theorem dX9_goesOn_40 : decode cX9_goesOn 40 = .ok (.invokestatic 37, 3) := by decide +kernel
theorem dX9_goesOn_43 : decode cX9_goesOn 43 = .ok (.iastore, 1) := by decide +kernel
theorem dX9_goesOn_44 : decode cX9_goesOn 44 = .ok (.return_, 1) := by decide +kernel
theorem dX9_advance_0 : decode cX9_advance 0 = .ok (.aload_n 0, 1) := by decide +kernel
theorem dX9_advance_1 : decode cX9_advance 1 = .ok (.invokevirtual 51, 3) := by decide +kernel
theorem dX9_advance_4 : decode cX9_advance 4 = .ok (.aload_n 0, 1) := by decide +kernel
theorem dX9_advance_5 : decode cX9_advance 5 = .ok (.invokevirtual 61, 3) := by decide +kernel
theorem dX9_advance_8 : decode cX9_advance 8 = .ok (.aload_n 0, 1) := by decide +kernel
theorem dX9_advance_9 : decode cX9_advance 9 = .ok (.aload_n 0, 1) := by decide +kernel
theorem dX9_advance_10 : decode cX9_advance 10 = .ok (.getfield 7, 3) := by decide +kernel
theorem dX9_advance_13 : decode cX9_advance 13 = .ok (.iconst 1, 1) := by decide +kernel
theorem dX9_advance_14 : decode cX9_advance 14 = .ok (.iaload, 1) := by decide +kernel
theorem dX9_advance_15 : decode cX9_advance 15 = .ok (.invokevirtual 54, 3) := by decide +kernel
theorem dX9_advance_18 : decode cX9_advance 18 = .ok (.ireturn, 1) := by decide +kernel
theorem dX9_of_0 : decode cX9_of 0 = .ok (.aload_n 0, 1) := by decide +kernel
theorem dX9_of_1 : decode cX9_of 1 = .ok (.getfield 7, 3) := by decide +kernel
theorem dX9_of_4 : decode cX9_of 4 = .ok (.sipush 514, 3) := by decide +kernel
theorem dX9_of_7 : decode cX9_of 7 = .ok (.bipush 10, 2) := by decide +kernel
theorem dX9_of_9 : decode cX9_of 9 = .ok (.iload_n 1, 1) := by decide +kernel
theorem dX9_of_10 : decode cX9_of 10 = .ok (.imul, 1) := by decide +kernel
theorem dX9_of_11 : decode cX9_of 11 = .ok (.iadd, 1) := by decide +kernel
theorem dX9_of_12 : decode cX9_of 12 = .ok (.iload_n 2, 1) := by decide +kernel
theorem dX9_of_13 : decode cX9_of 13 = .ok (.iadd, 1) := by decide +kernel
theorem dX9_of_14 : decode cX9_of 14 = .ok (.iaload, 1) := by decide +kernel
theorem dX9_of_15 : decode cX9_of 15 = .ok (.ireturn, 1) := by decide +kernel
theorem dX9_puts_0 : decode cX9_puts 0 = .ok (.aload_n 0, 1) := by decide +kernel
theorem dX9_puts_1 : decode cX9_puts 1 = .ok (.getfield 7, 3) := by decide +kernel
theorem dX9_puts_4 : decode cX9_puts 4 = .ok (.sipush 514, 3) := by decide +kernel
theorem dX9_puts_7 : decode cX9_puts 7 = .ok (.bipush 10, 2) := by decide +kernel
theorem dX9_puts_9 : decode cX9_puts 9 = .ok (.iload_n 1, 1) := by decide +kernel
theorem dX9_puts_10 : decode cX9_puts 10 = .ok (.imul, 1) := by decide +kernel
theorem dX9_puts_11 : decode cX9_puts 11 = .ok (.iadd, 1) := by decide +kernel
theorem dX9_puts_12 : decode cX9_puts 12 = .ok (.iload_n 2, 1) := by decide +kernel
theorem dX9_puts_13 : decode cX9_puts 13 = .ok (.iadd, 1) := by decide +kernel
theorem dX9_puts_14 : decode cX9_puts 14 = .ok (.iload_n 3, 1) := by decide +kernel
theorem dX9_puts_15 : decode cX9_puts 15 = .ok (.iastore, 1) := by decide +kernel
theorem dX9_puts_16 : decode cX9_puts 16 = .ok (.return_, 1) := by decide +kernel
theorem dX9_trusted_0 : decode cX9_trusted 0 = .ok (.aload_n 0, 1) := by decide +kernel
theorem dX9_trusted_1 : decode cX9_trusted 1 = .ok (.getfield 7, 3) := by decide +kernel
theorem dX9_trusted_4 : decode cX9_trusted 4 = .ok (.bipush 9, 2) := by decide +kernel
theorem dX9_trusted_6 : decode cX9_trusted 6 = .ok (.iaload, 1) := by decide +kernel
theorem dX9_trusted_7 : decode cX9_trusted 7 = .ok (.istore_n 2, 1) := by decide +kernel
theorem dX9_trusted_8 : decode cX9_trusted 8 = .ok (.iload_n 2, 1) := by decide +kernel
theorem dX9_trusted_9 : decode cX9_trusted 9 = .ok (.iconst 1, 1) := by decide +kernel
theorem dX9_trusted_10 : decode cX9_trusted 10 = .ok (.isub, 1) := by decide +kernel
theorem dX9_trusted_11 : decode cX9_trusted 11 = .ok (.istore_n 3, 1) := by decide +kernel
theorem dX9_trusted_12 : decode cX9_trusted 12 = .ok (.iload_n 3, 1) := by decide +kernel
theorem dX9_trusted_13 : decode cX9_trusted 13 = .ok (.ifCond .lt 41, 3) := by decide +kernel
theorem dX9_trusted_16 : decode cX9_trusted 16 = .ok (.iload_n 2, 1) := by decide +kernel
theorem dX9_trusted_17 : decode cX9_trusted 17 = .ok (.iload_n 3, 1) := by decide +kernel
theorem dX9_trusted_18 : decode cX9_trusted 18 = .ok (.isub, 1) := by decide +kernel
theorem dX9_trusted_19 : decode cX9_trusted 19 = .ok (.bipush 15, 2) := by decide +kernel
theorem dX9_trusted_21 : decode cX9_trusted 21 = .ok (.if_icmp .gt 33, 3) := by decide +kernel
theorem dX9_trusted_24 : decode cX9_trusted 24 = .ok (.aload_n 0, 1) := by decide +kernel
theorem dX9_trusted_25 : decode cX9_trusted 25 = .ok (.iload_n 3, 1) := by decide +kernel
theorem dX9_trusted_26 : decode cX9_trusted 26 = .ok (.bipush 9, 2) := by decide +kernel
theorem dX9_trusted_28 : decode cX9_trusted 28 = .ok (.invokevirtual 64, 3) := by decide +kernel
theorem dX9_trusted_31 : decode cX9_trusted 31 = .ok (.iconst 1, 1) := by decide +kernel
theorem dX9_trusted_32 : decode cX9_trusted 32 = .ok (.if_icmp .eq 14, 3) := by decide +kernel
theorem dX9_trusted_35 : decode cX9_trusted 35 = .ok (.iload_n 1, 1) := by decide +kernel
theorem dX9_trusted_36 : decode cX9_trusted 36 = .ok (.ifCond .le 12, 3) := by decide +kernel
theorem dX9_trusted_39 : decode cX9_trusted 39 = .ok (.iload_n 2, 1) := by decide +kernel
theorem dX9_trusted_40 : decode cX9_trusted 40 = .ok (.iload_n 3, 1) := by decide +kernel
theorem dX9_trusted_41 : decode cX9_trusted 41 = .ok (.isub, 1) := by decide +kernel
theorem dX9_trusted_42 : decode cX9_trusted 42 = .ok (.iload_n 1, 1) := by decide +kernel
theorem dX9_trusted_43 : decode cX9_trusted 43 = .ok (.if_icmp .lt 5, 3) := by decide +kernel
theorem dX9_trusted_46 : decode cX9_trusted 46 = .ok (.iload_n 3, 1) := by decide +kernel
theorem dX9_trusted_47 : decode cX9_trusted 47 = .ok (.ireturn, 1) := by decide +kernel
theorem dX9_trusted_48 : decode cX9_trusted 48 = .ok (.iinc 3 (-1), 3) := by decide +kernel
theorem dX9_trusted_51 : decode cX9_trusted 51 = .ok (.goto (-39), 3) := by decide +kernel
theorem dX9_trusted_54 : decode cX9_trusted 54 = .ok (.iconst (-1), 1) := by decide +kernel
theorem dX9_trusted_55 : decode cX9_trusted 55 = .ok (.ireturn, 1) := by decide +kernel
theorem dX9_baseOf_0 : decode cX9_baseOf 0 = .ok (.iload_n 0, 1) := by decide +kernel
theorem dX9_baseOf_1 : decode cX9_baseOf 1 = .ok (.iconst 2, 1) := by decide +kernel
theorem dX9_baseOf_2 : decode cX9_baseOf 2 = .ok (.if_icmp .ne 24, 3) := by decide +kernel
theorem dX9_baseOf_5 : decode cX9_baseOf 5 = .ok (.iload_n 1, 1) := by decide +kernel
theorem dX9_baseOf_6 : decode cX9_baseOf 6 = .ok (.iconst 1, 1) := by decide +kernel
theorem dX9_baseOf_7 : decode cX9_baseOf 7 = .ok (.iconst 2, 1) := by decide +kernel
theorem dX9_baseOf_8 : decode cX9_baseOf 8 = .ok (.invokestatic 41, 3) := by decide +kernel
theorem dX9_baseOf_11 : decode cX9_baseOf 11 = .ok (.ifCond .eq 15, 3) := by decide +kernel
theorem dX9_baseOf_14 : decode cX9_baseOf 14 = .ok (.iload_n 2, 1) := by decide +kernel
theorem dX9_baseOf_15 : decode cX9_baseOf 15 = .ok (.iload 4, 2) := by decide +kernel
theorem dX9_baseOf_17 : decode cX9_baseOf 17 = .ok (.iload_n 3, 1) := by decide +kernel
theorem dX9_baseOf_18 : decode cX9_baseOf 18 = .ok (.imul, 1) := by decide +kernel
theorem dX9_baseOf_19 : decode cX9_baseOf 19 = .ok (.iadd, 1) := by decide +kernel
theorem dX9_baseOf_20 : decode cX9_baseOf 20 = .ok (.invokestatic 37, 3) := by decide +kernel
theorem dX9_baseOf_23 : decode cX9_baseOf 23 = .ok (.goto 4, 3) := by decide +kernel
theorem dX9_baseOf_26 : decode cX9_baseOf 26 = .ok (.iload_n 2, 1) := by decide +kernel
theorem dX9_baseOf_27 : decode cX9_baseOf 27 = .ok (.ireturn, 1) := by decide +kernel
theorem dX9_senderBase_0 : decode cX9_senderBase 0 = .ok (.iload_n 1, 1) := by decide +kernel
theorem dX9_senderBase_1 : decode cX9_senderBase 1 = .ok (.iload 4, 2) := by decide +kernel
theorem dX9_senderBase_3 : decode cX9_senderBase 3 = .ok (.aload_n 0, 1) := by decide +kernel
theorem dX9_senderBase_4 : decode cX9_senderBase 4 = .ok (.iload_n 2, 1) := by decide +kernel
theorem dX9_senderBase_5 : decode cX9_senderBase 5 = .ok (.iload 4, 2) := by decide +kernel
theorem dX9_senderBase_7 : decode cX9_senderBase 7 = .ok (.invokevirtual 64, 3) := by decide +kernel
theorem dX9_senderBase_10 : decode cX9_senderBase 10 = .ok (.iload 4, 2) := by decide +kernel
theorem dX9_senderBase_12 : decode cX9_senderBase 12 = .ok (.iconst 1, 1) := by decide +kernel
theorem dX9_senderBase_13 : decode cX9_senderBase 13 = .ok (.iconst 2, 1) := by decide +kernel
theorem dX9_senderBase_14 : decode cX9_senderBase 14 = .ok (.invokestatic 41, 3) := by decide +kernel
theorem dX9_senderBase_17 : decode cX9_senderBase 17 = .ok (.ifCond .eq 15, 3) := by decide +kernel
theorem dX9_senderBase_20 : decode cX9_senderBase 20 = .ok (.aload_n 0, 1) := by decide +kernel
theorem dX9_senderBase_21 : decode cX9_senderBase 21 = .ok (.iload_n 2, 1) := by decide +kernel
theorem dX9_senderBase_22 : decode cX9_senderBase 22 = .ok (.iconst 3, 1) := by decide +kernel
theorem dX9_senderBase_23 : decode cX9_senderBase 23 = .ok (.iload 4, 2) := by decide +kernel
theorem dX9_senderBase_25 : decode cX9_senderBase 25 = .ok (.iadd, 1) := by decide +kernel
theorem dX9_senderBase_26 : decode cX9_senderBase 26 = .ok (.invokevirtual 64, 3) := by decide +kernel
theorem dX9_senderBase_29 : decode cX9_senderBase 29 = .ok (.goto 4, 3) := by decide +kernel
theorem dX9_senderBase_32 : decode cX9_senderBase 32 = .ok (.iconst 0, 1) := by decide +kernel
theorem dX9_senderBase_33 : decode cX9_senderBase 33 = .ok (.iload_n 3, 1) := by decide +kernel
theorem dX9_senderBase_34 : decode cX9_senderBase 34 = .ok (.invokestatic 68, 3) := by decide +kernel
theorem dX9_senderBase_37 : decode cX9_senderBase 37 = .ok (.ireturn, 1) := by decide +kernel
theorem dX9_bytesFor_0 : decode cX9_bytesFor 0 = .ok (.iload_n 0, 1) := by decide +kernel
theorem dX9_bytesFor_1 : decode cX9_bytesFor 1 = .ok (.ifCond .ne 7, 3) := by decide +kernel
theorem dX9_bytesFor_4 : decode cX9_bytesFor 4 = .ok (.iconst 0, 1) := by decide +kernel
theorem dX9_bytesFor_5 : decode cX9_bytesFor 5 = .ok (.goto 19, 3) := by decide +kernel
theorem dX9_bytesFor_8 : decode cX9_bytesFor 8 = .ok (.iload_n 0, 1) := by decide +kernel
theorem dX9_bytesFor_9 : decode cX9_bytesFor 9 = .ok (.bipush (-128), 2) := by decide +kernel
theorem dX9_bytesFor_11 : decode cX9_bytesFor 11 = .ok (.bipush 127, 2) := by decide +kernel
theorem dX9_bytesFor_13 : decode cX9_bytesFor 13 = .ok (.invokestatic 41, 3) := by decide +kernel
theorem dX9_bytesFor_16 : decode cX9_bytesFor 16 = .ok (.ifCond .eq 7, 3) := by decide +kernel
theorem dX9_bytesFor_19 : decode cX9_bytesFor 19 = .ok (.iconst 1, 1) := by decide +kernel
theorem dX9_bytesFor_20 : decode cX9_bytesFor 20 = .ok (.goto 4, 3) := by decide +kernel
theorem dX9_bytesFor_23 : decode cX9_bytesFor 23 = .ok (.iconst 2, 1) := by decide +kernel
theorem dX9_bytesFor_24 : decode cX9_bytesFor 24 = .ok (.ireturn, 1) := by decide +kernel
theorem dX9_sizeOf_0 : decode cX9_sizeOf 0 = .ok (.iload_n 1, 1) := by decide +kernel
theorem dX9_sizeOf_1 : decode cX9_sizeOf 1 = .ok (.ifCond .ne 6, 3) := by decide +kernel
theorem dX9_sizeOf_4 : decode cX9_sizeOf 4 = .ok (.bipush 12, 2) := by decide +kernel
theorem dX9_sizeOf_6 : decode cX9_sizeOf 6 = .ok (.ireturn, 1) := by decide +kernel
theorem dX9_sizeOf_7 : decode cX9_sizeOf 7 = .ok (.iconst 3, 1) := by decide +kernel
theorem dX9_sizeOf_8 : decode cX9_sizeOf 8 = .ok (.istore_n 3, 1) := by decide +kernel
theorem dX9_sizeOf_9 : decode cX9_sizeOf 9 = .ok (.aload_n 0, 1) := by decide +kernel
theorem dX9_sizeOf_10 : decode cX9_sizeOf 10 = .ok (.getfield 7, 3) := by decide +kernel
theorem dX9_sizeOf_13 : decode cX9_sizeOf 13 = .ok (.bipush 9, 2) := by decide +kernel
theorem dX9_sizeOf_15 : decode cX9_sizeOf 15 = .ok (.iaload, 1) := by decide +kernel
theorem dX9_sizeOf_16 : decode cX9_sizeOf 16 = .ok (.iload_n 2, 1) := by decide +kernel
theorem dX9_sizeOf_17 : decode cX9_sizeOf 17 = .ok (.isub, 1) := by decide +kernel
theorem dX9_sizeOf_18 : decode cX9_sizeOf 18 = .ok (.istore 4, 2) := by decide +kernel
theorem dX9_sizeOf_20 : decode cX9_sizeOf 20 = .ok (.iconst 0, 1) := by decide +kernel
theorem dX9_sizeOf_21 : decode cX9_sizeOf 21 = .ok (.istore 5, 2) := by decide +kernel
theorem dX9_sizeOf_23 : decode cX9_sizeOf 23 = .ok (.iload 5, 2) := by decide +kernel
theorem dX9_sizeOf_25 : decode cX9_sizeOf 25 = .ok (.iconst 4, 1) := by decide +kernel
theorem dX9_sizeOf_26 : decode cX9_sizeOf 26 = .ok (.if_icmp .ge 70, 3) := by decide +kernel
theorem dX9_sizeOf_29 : decode cX9_sizeOf 29 = .ok (.aload_n 0, 1) := by decide +kernel
theorem dX9_sizeOf_30 : decode cX9_sizeOf 30 = .ok (.iload_n 1, 1) := by decide +kernel
theorem dX9_sizeOf_31 : decode cX9_sizeOf 31 = .ok (.iload_n 2, 1) := by decide +kernel
theorem dX9_sizeOf_32 : decode cX9_sizeOf 32 = .ok (.iload 4, 2) := by decide +kernel
theorem dX9_sizeOf_34 : decode cX9_sizeOf 34 = .ok (.iload 5, 2) := by decide +kernel
theorem dX9_sizeOf_36 : decode cX9_sizeOf 36 = .ok (.invokevirtual 72, 3) := by decide +kernel
theorem dX9_sizeOf_39 : decode cX9_sizeOf 39 = .ok (.istore 6, 2) := by decide +kernel
theorem dX9_sizeOf_41 : decode cX9_sizeOf 41 = .ok (.aload_n 0, 1) := by decide +kernel
theorem dX9_sizeOf_42 : decode cX9_sizeOf 42 = .ok (.getfield 7, 3) := by decide +kernel
theorem dX9_sizeOf_45 : decode cX9_sizeOf 45 = .ok (.iconst 0, 1) := by decide +kernel
theorem dX9_sizeOf_46 : decode cX9_sizeOf 46 = .ok (.iload 5, 2) := by decide +kernel
theorem dX9_sizeOf_48 : decode cX9_sizeOf 48 = .ok (.iadd, 1) := by decide +kernel
theorem dX9_sizeOf_49 : decode cX9_sizeOf 49 = .ok (.iaload, 1) := by decide +kernel
theorem dX9_sizeOf_50 : decode cX9_sizeOf 50 = .ok (.istore 7, 2) := by decide +kernel
theorem dX9_sizeOf_52 : decode cX9_sizeOf 52 = .ok (.iload_n 3, 1) := by decide +kernel
theorem dX9_sizeOf_53 : decode cX9_sizeOf 53 = .ok (.iload 5, 2) := by decide +kernel
theorem dX9_sizeOf_55 : decode cX9_sizeOf 55 = .ok (.iconst 1, 1) := by decide +kernel
theorem dX9_sizeOf_56 : decode cX9_sizeOf 56 = .ok (.iconst 2, 1) := by decide +kernel
theorem dX9_sizeOf_57 : decode cX9_sizeOf 57 = .ok (.invokestatic 41, 3) := by decide +kernel
theorem dX9_sizeOf_60 : decode cX9_sizeOf 60 = .ok (.ifCond .eq 16, 3) := by decide +kernel
theorem dX9_sizeOf_63 : decode cX9_sizeOf 63 = .ok (.iload 7, 2) := by decide +kernel
theorem dX9_sizeOf_65 : decode cX9_sizeOf 65 = .ok (.iload 6, 2) := by decide +kernel
theorem dX9_sizeOf_67 : decode cX9_sizeOf 67 = .ok (.invokestatic 76, 3) := by decide +kernel
theorem dX9_sizeOf_70 : decode cX9_sizeOf 70 = .ok (.invokestatic 79, 3) := by decide +kernel
theorem dX9_sizeOf_73 : decode cX9_sizeOf 73 = .ok (.goto 15, 3) := by decide +kernel
theorem dX9_sizeOf_76 : decode cX9_sizeOf 76 = .ok (.iload 7, 2) := by decide +kernel
theorem dX9_sizeOf_78 : decode cX9_sizeOf 78 = .ok (.iload 6, 2) := by decide +kernel
theorem dX9_sizeOf_80 : decode cX9_sizeOf 80 = .ok (.if_icmp .ne 7, 3) := by decide +kernel
theorem dX9_sizeOf_83 : decode cX9_sizeOf 83 = .ok (.iconst 0, 1) := by decide +kernel
theorem dX9_sizeOf_84 : decode cX9_sizeOf 84 = .ok (.goto 4, 3) := by decide +kernel
theorem dX9_sizeOf_87 : decode cX9_sizeOf 87 = .ok (.iconst 1, 1) := by decide +kernel
theorem dX9_sizeOf_88 : decode cX9_sizeOf 88 = .ok (.iadd, 1) := by decide +kernel
theorem dX9_sizeOf_89 : decode cX9_sizeOf 89 = .ok (.istore_n 3, 1) := by decide +kernel
theorem dX9_sizeOf_90 : decode cX9_sizeOf 90 = .ok (.iinc 5 1, 3) := by decide +kernel
theorem dX9_sizeOf_93 : decode cX9_sizeOf 93 = .ok (.goto (-70), 3) := by decide +kernel
theorem dX9_sizeOf_96 : decode cX9_sizeOf 96 = .ok (.iload_n 3, 1) := by decide +kernel
theorem dX9_sizeOf_97 : decode cX9_sizeOf 97 = .ok (.ireturn, 1) := by decide +kernel
theorem dX9_formFor_0 : decode cX9_formFor 0 = .ok (.iload_n 2, 1) := by decide +kernel
theorem dX9_formFor_1 : decode cX9_formFor 1 = .ok (.iconst (-1), 1) := by decide +kernel
theorem dX9_formFor_2 : decode cX9_formFor 2 = .ok (.if_icmp .eq 14, 3) := by decide +kernel
theorem dX9_formFor_5 : decode cX9_formFor 5 = .ok (.aload_n 0, 1) := by decide +kernel
theorem dX9_formFor_6 : decode cX9_formFor 6 = .ok (.getfield 7, 3) := by decide +kernel
theorem dX9_formFor_9 : decode cX9_formFor 9 = .ok (.bipush 8, 2) := by decide +kernel
theorem dX9_formFor_11 : decode cX9_formFor 11 = .ok (.iaload, 1) := by decide +kernel
theorem dX9_formFor_12 : decode cX9_formFor 12 = .ok (.iconst 1, 1) := by decide +kernel
theorem dX9_formFor_13 : decode cX9_formFor 13 = .ok (.if_icmp .ne 7, 3) := by decide +kernel
theorem dX9_formFor_16 : decode cX9_formFor 16 = .ok (.iconst 0, 1) := by decide +kernel
theorem dX9_formFor_17 : decode cX9_formFor 17 = .ok (.goto 4, 3) := by decide +kernel
theorem dX9_formFor_20 : decode cX9_formFor 20 = .ok (.iload_n 1, 1) := by decide +kernel
theorem dX9_formFor_21 : decode cX9_formFor 21 = .ok (.ireturn, 1) := by decide +kernel
theorem dX9_sends_0 : decode cX9_sends 0 = .ok (.aload_n 0, 1) := by decide +kernel
theorem dX9_sends_1 : decode cX9_sends 1 = .ok (.getfield 7, 3) := by decide +kernel
theorem dX9_sends_4 : decode cX9_sends 4 = .ok (.bipush 9, 2) := by decide +kernel
theorem dX9_sends_6 : decode cX9_sends 6 = .ok (.iaload, 1) := by decide +kernel
theorem dX9_sends_7 : decode cX9_sends 7 = .ok (.istore_n 1, 1) := by decide +kernel
theorem dX9_sends_8 : decode cX9_sends 8 = .ok (.aload_n 0, 1) := by decide +kernel
theorem dX9_sends_9 : decode cX9_sends 9 = .ok (.aload_n 0, 1) := by decide +kernel
theorem dX9_sends_10 : decode cX9_sends 10 = .ok (.getfield 7, 3) := by decide +kernel
theorem dX9_sends_13 : decode cX9_sends 13 = .ok (.bipush 7, 2) := by decide +kernel
theorem dX9_sends_15 : decode cX9_sends 15 = .ok (.iaload, 1) := by decide +kernel
theorem dX9_sends_16 : decode cX9_sends 16 = .ok (.invokevirtual 82, 3) := by decide +kernel
theorem dX9_sends_19 : decode cX9_sends 19 = .ok (.istore_n 2, 1) := by decide +kernel
theorem dX9_sends_20 : decode cX9_sends 20 = .ok (.aload_n 0, 1) := by decide +kernel
theorem dX9_sends_21 : decode cX9_sends 21 = .ok (.aload_n 0, 1) := by decide +kernel
theorem dX9_sends_22 : decode cX9_sends 22 = .ok (.getfield 7, 3) := by decide +kernel
theorem dX9_sends_25 : decode cX9_sends 25 = .ok (.bipush 6, 2) := by decide +kernel
theorem dX9_sends_27 : decode cX9_sends 27 = .ok (.iaload, 1) := by decide +kernel
theorem dX9_sends_28 : decode cX9_sends 28 = .ok (.iload_n 2, 1) := by decide +kernel
theorem dX9_sends_29 : decode cX9_sends 29 = .ok (.invokevirtual 85, 3) := by decide +kernel
theorem dX9_sends_32 : decode cX9_sends 32 = .ok (.istore_n 3, 1) := by decide +kernel
theorem dX9_sends_33 : decode cX9_sends 33 = .ok (.aload_n 0, 1) := by decide +kernel
theorem dX9_sends_34 : decode cX9_sends 34 = .ok (.iload_n 3, 1) := by decide +kernel
theorem dX9_sends_35 : decode cX9_sends 35 = .ok (.iload_n 2, 1) := by decide +kernel
theorem dX9_sends_36 : decode cX9_sends 36 = .ok (.invokevirtual 88, 3) := by decide +kernel
theorem dX9_sends_39 : decode cX9_sends 39 = .ok (.istore 4, 2) := by decide +kernel
theorem dX9_sends_41 : decode cX9_sends 41 = .ok (.iconst 0, 1) := by decide +kernel
theorem dX9_sends_42 : decode cX9_sends 42 = .ok (.istore 5, 2) := by decide +kernel
theorem dX9_sends_44 : decode cX9_sends 44 = .ok (.iload 5, 2) := by decide +kernel
theorem dX9_sends_46 : decode cX9_sends 46 = .ok (.iconst 4, 1) := by decide +kernel
theorem dX9_sends_47 : decode cX9_sends 47 = .ok (.if_icmp .ge 25, 3) := by decide +kernel
theorem dX9_sends_50 : decode cX9_sends 50 = .ok (.aload_n 0, 1) := by decide +kernel
theorem dX9_sends_51 : decode cX9_sends 51 = .ok (.iload_n 1, 1) := by decide +kernel
theorem dX9_sends_52 : decode cX9_sends 52 = .ok (.iload 5, 2) := by decide +kernel
theorem dX9_sends_54 : decode cX9_sends 54 = .ok (.aload_n 0, 1) := by decide +kernel
theorem dX9_sends_55 : decode cX9_sends 55 = .ok (.getfield 7, 3) := by decide +kernel
theorem dX9_sends_58 : decode cX9_sends 58 = .ok (.iconst 0, 1) := by decide +kernel
theorem dX9_sends_59 : decode cX9_sends 59 = .ok (.iload 5, 2) := by decide +kernel
theorem dX9_sends_61 : decode cX9_sends 61 = .ok (.iadd, 1) := by decide +kernel
theorem dX9_sends_62 : decode cX9_sends 62 = .ok (.iaload, 1) := by decide +kernel
theorem dX9_sends_63 : decode cX9_sends 63 = .ok (.invokevirtual 91, 3) := by decide +kernel
theorem dX9_sends_66 : decode cX9_sends 66 = .ok (.iinc 5 1, 3) := by decide +kernel
theorem dX9_sends_69 : decode cX9_sends 69 = .ok (.goto (-25), 3) := by decide +kernel
theorem dX9_sends_72 : decode cX9_sends 72 = .ok (.iconst 0, 1) := by decide +kernel
theorem dX9_sends_73 : decode cX9_sends 73 = .ok (.istore 5, 2) := by decide +kernel
theorem dX9_sends_75 : decode cX9_sends 75 = .ok (.iload 5, 2) := by decide +kernel
theorem dX9_sends_77 : decode cX9_sends 77 = .ok (.iconst 2, 1) := by decide +kernel
theorem dX9_sends_78 : decode cX9_sends 78 = .ok (.if_icmp .ge 43, 3) := by decide +kernel
theorem dX9_sends_81 : decode cX9_sends 81 = .ok (.aload_n 0, 1) := by decide +kernel
theorem dX9_sends_82 : decode cX9_sends 82 = .ok (.iload_n 1, 1) := by decide +kernel
theorem dX9_sends_83 : decode cX9_sends 83 = .ok (.iconst 4, 1) := by decide +kernel
theorem dX9_sends_84 : decode cX9_sends 84 = .ok (.iload 5, 2) := by decide +kernel
theorem dX9_sends_86 : decode cX9_sends 86 = .ok (.iadd, 1) := by decide +kernel
theorem dX9_sends_87 : decode cX9_sends 87 = .ok (.iload_n 3, 1) := by decide +kernel
theorem dX9_sends_88 : decode cX9_sends 88 = .ok (.ifCond .ne 15, 3) := by decide +kernel
theorem dX9_sends_91 : decode cX9_sends 91 = .ok (.aload_n 0, 1) := by decide +kernel
theorem dX9_sends_92 : decode cX9_sends 92 = .ok (.getfield 7, 3) := by decide +kernel
theorem dX9_sends_95 : decode cX9_sends 95 = .ok (.iconst 4, 1) := by decide +kernel
theorem dX9_sends_96 : decode cX9_sends 96 = .ok (.iload 5, 2) := by decide +kernel
theorem dX9_sends_98 : decode cX9_sends 98 = .ok (.iadd, 1) := by decide +kernel
theorem dX9_sends_99 : decode cX9_sends 99 = .ok (.iaload, 1) := by decide +kernel
theorem dX9_sends_100 : decode cX9_sends 100 = .ok (.goto 12, 3) := by decide +kernel
theorem dX9_sends_103 : decode cX9_sends 103 = .ok (.aload_n 0, 1) := by decide +kernel
theorem dX9_sends_104 : decode cX9_sends 104 = .ok (.iload_n 2, 1) := by decide +kernel
theorem dX9_sends_105 : decode cX9_sends 105 = .ok (.iconst 4, 1) := by decide +kernel
theorem dX9_sends_106 : decode cX9_sends 106 = .ok (.iload 5, 2) := by decide +kernel
theorem dX9_sends_108 : decode cX9_sends 108 = .ok (.iadd, 1) := by decide +kernel
theorem dX9_sends_109 : decode cX9_sends 109 = .ok (.invokevirtual 64, 3) := by decide +kernel
theorem dX9_sends_112 : decode cX9_sends 112 = .ok (.invokevirtual 91, 3) := by decide +kernel
theorem dX9_sends_115 : decode cX9_sends 115 = .ok (.iinc 5 1, 3) := by decide +kernel
theorem dX9_sends_118 : decode cX9_sends 118 = .ok (.goto (-43), 3) := by decide +kernel
theorem dX9_sends_121 : decode cX9_sends 121 = .ok (.aload_n 0, 1) := by decide +kernel
theorem dX9_sends_122 : decode cX9_sends 122 = .ok (.iload_n 1, 1) := by decide +kernel
theorem dX9_sends_123 : decode cX9_sends 123 = .ok (.bipush 6, 2) := by decide +kernel
theorem dX9_sends_125 : decode cX9_sends 125 = .ok (.iload 4, 2) := by decide +kernel
theorem dX9_sends_127 : decode cX9_sends 127 = .ok (.invokevirtual 91, 3) := by decide +kernel
theorem dX9_sends_130 : decode cX9_sends 130 = .ok (.aload_n 0, 1) := by decide +kernel
theorem dX9_sends_131 : decode cX9_sends 131 = .ok (.iload_n 1, 1) := by decide +kernel
theorem dX9_sends_132 : decode cX9_sends 132 = .ok (.bipush 7, 2) := by decide +kernel
theorem dX9_sends_134 : decode cX9_sends 134 = .ok (.iload_n 3, 1) := by decide +kernel
theorem dX9_sends_135 : decode cX9_sends 135 = .ok (.invokevirtual 91, 3) := by decide +kernel
theorem dX9_sends_138 : decode cX9_sends 138 = .ok (.aload_n 0, 1) := by decide +kernel
theorem dX9_sends_139 : decode cX9_sends 139 = .ok (.iload_n 1, 1) := by decide +kernel
theorem dX9_sends_140 : decode cX9_sends 140 = .ok (.bipush 8, 2) := by decide +kernel
theorem dX9_sends_142 : decode cX9_sends 142 = .ok (.iload_n 3, 1) := by decide +kernel
theorem dX9_sends_143 : decode cX9_sends 143 = .ok (.ifCond .ne 7, 3) := by decide +kernel
theorem dX9_sends_146 : decode cX9_sends 146 = .ok (.iconst (-1), 1) := by decide +kernel
theorem dX9_sends_147 : decode cX9_sends 147 = .ok (.goto 4, 3) := by decide +kernel
theorem dX9_sends_150 : decode cX9_sends 150 = .ok (.iload_n 2, 1) := by decide +kernel
theorem dX9_sends_151 : decode cX9_sends 151 = .ok (.invokevirtual 91, 3) := by decide +kernel
theorem dX9_sends_154 : decode cX9_sends 154 = .ok (.aload_n 0, 1) := by decide +kernel
theorem dX9_sends_155 : decode cX9_sends 155 = .ok (.iload_n 1, 1) := by decide +kernel
theorem dX9_sends_156 : decode cX9_sends 156 = .ok (.bipush 9, 2) := by decide +kernel
theorem dX9_sends_158 : decode cX9_sends 158 = .ok (.iconst 0, 1) := by decide +kernel
theorem dX9_sends_159 : decode cX9_sends 159 = .ok (.invokevirtual 91, 3) := by decide +kernel
theorem dX9_sends_162 : decode cX9_sends 162 = .ok (.aload_n 0, 1) := by decide +kernel
theorem dX9_sends_163 : decode cX9_sends 163 = .ok (.getfield 7, 3) := by decide +kernel
theorem dX9_sends_166 : decode cX9_sends 166 = .ok (.bipush 8, 2) := by decide +kernel
theorem dX9_sends_168 : decode cX9_sends 168 = .ok (.iconst 0, 1) := by decide +kernel
theorem dX9_sends_169 : decode cX9_sends 169 = .ok (.iastore, 1) := by decide +kernel
theorem dX9_sends_170 : decode cX9_sends 170 = .ok (.aload_n 0, 1) := by decide +kernel
theorem dX9_sends_171 : decode cX9_sends 171 = .ok (.getfield 7, 3) := by decide +kernel
theorem dX9_sends_174 : decode cX9_sends 174 = .ok (.bipush 64, 2) := by decide +kernel
theorem dX9_sends_176 : decode cX9_sends 176 = .ok (.dup2, 1) := by decide +kernel
theorem dX9_sends_177 : decode cX9_sends 177 = .ok (.iaload, 1) := by decide +kernel
theorem dX9_sends_178 : decode cX9_sends 178 = .ok (.iload 4, 2) := by decide +kernel
theorem dX9_sends_180 : decode cX9_sends 180 = .ok (.iadd, 1) := by decide +kernel
theorem dX9_sends_181 : decode cX9_sends 181 = .ok (.iastore, 1) := by decide +kernel
theorem dX9_sends_182 : decode cX9_sends 182 = .ok (.aload_n 0, 1) := by decide +kernel
theorem dX9_sends_183 : decode cX9_sends 183 = .ok (.getfield 7, 3) := by decide +kernel
theorem dX9_sends_186 : decode cX9_sends 186 = .ok (.bipush 63, 2) := by decide +kernel
theorem dX9_sends_188 : decode cX9_sends 188 = .ok (.dup2, 1) := by decide +kernel
theorem dX9_sends_189 : decode cX9_sends 189 = .ok (.iaload, 1) := by decide +kernel
theorem dX9_sends_190 : decode cX9_sends 190 = .ok (.iload_n 3, 1) := by decide +kernel
theorem dX9_sends_191 : decode cX9_sends 191 = .ok (.ifCond .ne 7, 3) := by decide +kernel
theorem dX9_sends_194 : decode cX9_sends 194 = .ok (.iconst 1, 1) := by decide +kernel
theorem dX9_sends_195 : decode cX9_sends 195 = .ok (.goto 4, 3) := by decide +kernel
theorem dX9_sends_198 : decode cX9_sends 198 = .ok (.iconst 0, 1) := by decide +kernel
theorem dX9_sends_199 : decode cX9_sends 199 = .ok (.iadd, 1) := by decide +kernel
theorem dX9_sends_200 : decode cX9_sends 200 = .ok (.iastore, 1) := by decide +kernel
theorem dX9_sends_201 : decode cX9_sends 201 = .ok (.aload_n 0, 1) := by decide +kernel
theorem dX9_sends_202 : decode cX9_sends 202 = .ok (.getfield 7, 3) := by decide +kernel
theorem dX9_sends_205 : decode cX9_sends 205 = .ok (.bipush 9, 2) := by decide +kernel
theorem dX9_sends_207 : decode cX9_sends 207 = .ok (.dup2, 1) := by decide +kernel
theorem dX9_sends_208 : decode cX9_sends 208 = .ok (.iaload, 1) := by decide +kernel
theorem dX9_sends_209 : decode cX9_sends 209 = .ok (.iconst 1, 1) := by decide +kernel
theorem dX9_sends_210 : decode cX9_sends 210 = .ok (.iadd, 1) := by decide +kernel
theorem dX9_sends_211 : decode cX9_sends 211 = .ok (.iastore, 1) := by decide +kernel
theorem dX9_sends_212 : decode cX9_sends 212 = .ok (.aload_n 0, 1) := by decide +kernel
theorem dX9_sends_213 : decode cX9_sends 213 = .ok (.bipush 10, 2) := by decide +kernel
theorem dX9_sends_215 : decode cX9_sends 215 = .ok (.iload_n 1, 1) := by decide +kernel
theorem dX9_sends_216 : decode cX9_sends 216 = .ok (.invokevirtual 95, 3) := by decide +kernel
theorem dX9_sends_219 : decode cX9_sends 219 = .ok (.return_, 1) := by decide +kernel
theorem dX9_joins_0 : decode cX9_joins 0 = .ok (.aload_n 0, 1) := by decide +kernel
theorem dX9_joins_1 : decode cX9_joins 1 = .ok (.getfield 7, 3) := by decide +kernel
theorem dX9_joins_4 : decode cX9_joins 4 = .ok (.iload_n 1, 1) := by decide +kernel
theorem dX9_joins_5 : decode cX9_joins 5 = .ok (.iaload, 1) := by decide +kernel
theorem dX9_joins_6 : decode cX9_joins 6 = .ok (.bipush 20, 2) := by decide +kernel
theorem dX9_joins_8 : decode cX9_joins 8 = .ok (.if_icmp .ge 27, 3) := by decide +kernel
theorem dX9_joins_11 : decode cX9_joins 11 = .ok (.aload_n 0, 1) := by decide +kernel
theorem dX9_joins_12 : decode cX9_joins 12 = .ok (.getfield 7, 3) := by decide +kernel
theorem dX9_joins_15 : decode cX9_joins 15 = .ok (.iload_n 1, 1) := by decide +kernel
theorem dX9_joins_16 : decode cX9_joins 16 = .ok (.dup2, 1) := by decide +kernel
theorem dX9_joins_17 : decode cX9_joins 17 = .ok (.iaload, 1) := by decide +kernel
theorem dX9_joins_18 : decode cX9_joins 18 = .ok (.iconst 1, 1) := by decide +kernel
theorem dX9_joins_19 : decode cX9_joins 19 = .ok (.iadd, 1) := by decide +kernel
theorem dX9_joins_20 : decode cX9_joins 20 = .ok (.iastore, 1) := by decide +kernel
theorem dX9_joins_21 : decode cX9_joins 21 = .ok (.aload_n 0, 1) := by decide +kernel
theorem dX9_joins_22 : decode cX9_joins 22 = .ok (.getfield 7, 3) := by decide +kernel
theorem dX9_joins_25 : decode cX9_joins 25 = .ok (.iload_n 1, 1) := by decide +kernel
theorem dX9_joins_26 : decode cX9_joins 26 = .ok (.aload_n 0, 1) := by decide +kernel
theorem dX9_joins_27 : decode cX9_joins 27 = .ok (.getfield 7, 3) := by decide +kernel
theorem dX9_joins_30 : decode cX9_joins 30 = .ok (.iload_n 1, 1) := by decide +kernel
theorem dX9_joins_31 : decode cX9_joins 31 = .ok (.iaload, 1) := by decide +kernel
theorem dX9_joins_32 : decode cX9_joins 32 = .ok (.iadd, 1) := by decide +kernel
theorem dX9_joins_33 : decode cX9_joins 33 = .ok (.iload_n 2, 1) := by decide +kernel
theorem dX9_joins_34 : decode cX9_joins 34 = .ok (.iastore, 1) := by decide +kernel
theorem dX9_joins_35 : decode cX9_joins 35 = .ok (.return_, 1) := by decide +kernel
theorem dX9_maySend_0 : decode cX9_maySend 0 = .ok (.aload_n 0, 1) := by decide +kernel
theorem dX9_maySend_1 : decode cX9_maySend 1 = .ok (.getfield 7, 3) := by decide +kernel
theorem dX9_maySend_4 : decode cX9_maySend 4 = .ok (.bipush 9, 2) := by decide +kernel
theorem dX9_maySend_6 : decode cX9_maySend 6 = .ok (.iaload, 1) := by decide +kernel
theorem dX9_maySend_7 : decode cX9_maySend 7 = .ok (.iload_n 1, 1) := by decide +kernel
theorem dX9_maySend_8 : decode cX9_maySend 8 = .ok (.iadd, 1) := by decide +kernel
theorem dX9_maySend_9 : decode cX9_maySend 9 = .ok (.sipush 500, 3) := by decide +kernel
theorem dX9_maySend_12 : decode cX9_maySend 12 = .ok (.if_icmp .gt 21, 3) := by decide +kernel
theorem dX9_maySend_15 : decode cX9_maySend 15 = .ok (.aload_n 0, 1) := by decide +kernel
theorem dX9_maySend_16 : decode cX9_maySend 16 = .ok (.getfield 7, 3) := by decide +kernel
theorem dX9_maySend_19 : decode cX9_maySend 19 = .ok (.bipush 10, 2) := by decide +kernel
theorem dX9_maySend_21 : decode cX9_maySend 21 = .ok (.iaload, 1) := by decide +kernel
theorem dX9_maySend_22 : decode cX9_maySend 22 = .ok (.iload_n 1, 1) := by decide +kernel
theorem dX9_maySend_23 : decode cX9_maySend 23 = .ok (.iadd, 1) := by decide +kernel
theorem dX9_maySend_24 : decode cX9_maySend 24 = .ok (.bipush 20, 2) := by decide +kernel
theorem dX9_maySend_26 : decode cX9_maySend 26 = .ok (.if_icmp .gt 7, 3) := by decide +kernel
theorem dX9_maySend_29 : decode cX9_maySend 29 = .ok (.iconst 1, 1) := by decide +kernel
theorem dX9_maySend_30 : decode cX9_maySend 30 = .ok (.goto 4, 3) := by decide +kernel
theorem dX9_maySend_33 : decode cX9_maySend 33 = .ok (.iconst 0, 1) := by decide +kernel
theorem dX9_maySend_34 : decode cX9_maySend 34 = .ok (.ireturn, 1) := by decide +kernel
theorem dX9_send_0 : decode cX9_send 0 = .ok (.aload_n 0, 1) := by decide +kernel
theorem dX9_send_1 : decode cX9_send 1 = .ok (.iconst 1, 1) := by decide +kernel
theorem dX9_send_2 : decode cX9_send 2 = .ok (.invokevirtual 99, 3) := by decide +kernel
theorem dX9_send_5 : decode cX9_send 5 = .ok (.ifCond .ne 9, 3) := by decide +kernel
theorem dX9_send_8 : decode cX9_send 8 = .ok (.aload_n 0, 1) := by decide +kernel
theorem dX9_send_9 : decode cX9_send 9 = .ok (.iconst 1, 1) := by decide +kernel
theorem dX9_send_10 : decode cX9_send 10 = .ok (.invokevirtual 45, 3) := by decide +kernel
theorem dX9_send_13 : decode cX9_send 13 = .ok (.ireturn, 1) := by decide +kernel
theorem dX9_send_14 : decode cX9_send 14 = .ok (.aload_n 0, 1) := by decide +kernel
theorem dX9_send_15 : decode cX9_send 15 = .ok (.invokevirtual 51, 3) := by decide +kernel
theorem dX9_send_18 : decode cX9_send 18 = .ok (.aload_n 0, 1) := by decide +kernel
theorem dX9_send_19 : decode cX9_send 19 = .ok (.invokevirtual 103, 3) := by decide +kernel
theorem dX9_send_22 : decode cX9_send 22 = .ok (.aload_n 0, 1) := by decide +kernel
theorem dX9_send_23 : decode cX9_send 23 = .ok (.aload_n 0, 1) := by decide +kernel
theorem dX9_send_24 : decode cX9_send 24 = .ok (.getfield 7, 3) := by decide +kernel
theorem dX9_send_27 : decode cX9_send 27 = .ok (.bipush 9, 2) := by decide +kernel
theorem dX9_send_29 : decode cX9_send 29 = .ok (.iaload, 1) := by decide +kernel
theorem dX9_send_30 : decode cX9_send 30 = .ok (.iconst 1, 1) := by decide +kernel
theorem dX9_send_31 : decode cX9_send 31 = .ok (.isub, 1) := by decide +kernel
theorem dX9_send_32 : decode cX9_send 32 = .ok (.invokevirtual 54, 3) := by decide +kernel
theorem dX9_send_35 : decode cX9_send 35 = .ok (.ireturn, 1) := by decide +kernel
theorem dX9_stream_0 : decode cX9_stream 0 = .ok (.iload_n 1, 1) := by decide +kernel
theorem dX9_stream_1 : decode cX9_stream 1 = .ok (.iconst 1, 1) := by decide +kernel
theorem dX9_stream_2 : decode cX9_stream 2 = .ok (.bipush 20, 2) := by decide +kernel
theorem dX9_stream_4 : decode cX9_stream 4 = .ok (.invokestatic 41, 3) := by decide +kernel
theorem dX9_stream_7 : decode cX9_stream 7 = .ok (.ifCond .ne 9, 3) := by decide +kernel
theorem dX9_stream_10 : decode cX9_stream 10 = .ok (.aload_n 0, 1) := by decide +kernel
theorem dX9_stream_11 : decode cX9_stream 11 = .ok (.iconst 1, 1) := by decide +kernel
theorem dX9_stream_12 : decode cX9_stream 12 = .ok (.invokevirtual 45, 3) := by decide +kernel
theorem dX9_stream_15 : decode cX9_stream 15 = .ok (.ireturn, 1) := by decide +kernel
theorem dX9_stream_16 : decode cX9_stream 16 = .ok (.aload_n 0, 1) := by decide +kernel
theorem dX9_stream_17 : decode cX9_stream 17 = .ok (.iload_n 1, 1) := by decide +kernel
theorem dX9_stream_18 : decode cX9_stream 18 = .ok (.invokevirtual 99, 3) := by decide +kernel
theorem dX9_stream_21 : decode cX9_stream 21 = .ok (.ifCond .ne 9, 3) := by decide +kernel
theorem dX9_stream_24 : decode cX9_stream 24 = .ok (.aload_n 0, 1) := by decide +kernel
theorem dX9_stream_25 : decode cX9_stream 25 = .ok (.iconst 2, 1) := by decide +kernel
theorem dX9_stream_26 : decode cX9_stream 26 = .ok (.invokevirtual 45, 3) := by decide +kernel
theorem dX9_stream_29 : decode cX9_stream 29 = .ok (.ireturn, 1) := by decide +kernel
theorem dX9_stream_30 : decode cX9_stream 30 = .ok (.aload_n 0, 1) := by decide +kernel
theorem dX9_stream_31 : decode cX9_stream 31 = .ok (.invokevirtual 51, 3) := by decide +kernel
theorem dX9_stream_34 : decode cX9_stream 34 = .ok (.iconst 0, 1) := by decide +kernel
theorem dX9_stream_35 : decode cX9_stream 35 = .ok (.istore_n 2, 1) := by decide +kernel
theorem dX9_stream_36 : decode cX9_stream 36 = .ok (.iload_n 2, 1) := by decide +kernel
theorem dX9_stream_37 : decode cX9_stream 37 = .ok (.iload_n 1, 1) := by decide +kernel
theorem dX9_stream_38 : decode cX9_stream 38 = .ok (.if_icmp .ge 17, 3) := by decide +kernel
theorem dX9_stream_41 : decode cX9_stream 41 = .ok (.aload_n 0, 1) := by decide +kernel
theorem dX9_stream_42 : decode cX9_stream 42 = .ok (.invokevirtual 61, 3) := by decide +kernel
theorem dX9_stream_45 : decode cX9_stream 45 = .ok (.aload_n 0, 1) := by decide +kernel
theorem dX9_stream_46 : decode cX9_stream 46 = .ok (.invokevirtual 103, 3) := by decide +kernel
theorem dX9_stream_49 : decode cX9_stream 49 = .ok (.iinc 2 1, 3) := by decide +kernel
theorem dX9_stream_52 : decode cX9_stream 52 = .ok (.goto (-16), 3) := by decide +kernel
theorem dX9_stream_55 : decode cX9_stream 55 = .ok (.aload_n 0, 1) := by decide +kernel
theorem dX9_stream_56 : decode cX9_stream 56 = .ok (.aload_n 0, 1) := by decide +kernel
theorem dX9_stream_57 : decode cX9_stream 57 = .ok (.getfield 7, 3) := by decide +kernel
theorem dX9_stream_60 : decode cX9_stream 60 = .ok (.bipush 10, 2) := by decide +kernel
theorem dX9_stream_62 : decode cX9_stream 62 = .ok (.iaload, 1) := by decide +kernel
theorem dX9_stream_63 : decode cX9_stream 63 = .ok (.invokevirtual 54, 3) := by decide +kernel
theorem dX9_stream_66 : decode cX9_stream 66 = .ok (.ireturn, 1) := by decide +kernel
theorem dX9_field_0 : decode cX9_field 0 = .ok (.iload_n 1, 1) := by decide +kernel
theorem dX9_field_1 : decode cX9_field 1 = .ok (.iconst 0, 1) := by decide +kernel
theorem dX9_field_2 : decode cX9_field 2 = .ok (.iconst 3, 1) := by decide +kernel
theorem dX9_field_3 : decode cX9_field 3 = .ok (.invokestatic 41, 3) := by decide +kernel
theorem dX9_field_6 : decode cX9_field 6 = .ok (.ifCond .eq 18, 3) := by decide +kernel
theorem dX9_field_9 : decode cX9_field 9 = .ok (.aload_n 0, 1) := by decide +kernel
theorem dX9_field_10 : decode cX9_field 10 = .ok (.aload_n 0, 1) := by decide +kernel
theorem dX9_field_11 : decode cX9_field 11 = .ok (.getfield 7, 3) := by decide +kernel
theorem dX9_field_14 : decode cX9_field 14 = .ok (.iconst 0, 1) := by decide +kernel
theorem dX9_field_15 : decode cX9_field 15 = .ok (.iload_n 1, 1) := by decide +kernel
theorem dX9_field_16 : decode cX9_field 16 = .ok (.iadd, 1) := by decide +kernel
theorem dX9_field_17 : decode cX9_field 17 = .ok (.iaload, 1) := by decide +kernel
theorem dX9_field_18 : decode cX9_field 18 = .ok (.invokevirtual 32, 3) := by decide +kernel
theorem dX9_field_21 : decode cX9_field 21 = .ok (.goto 8, 3) := by decide +kernel
theorem dX9_field_24 : decode cX9_field 24 = .ok (.aload_n 0, 1) := by decide +kernel
theorem dX9_field_25 : decode cX9_field 25 = .ok (.iconst 1, 1) := by decide +kernel
theorem dX9_field_26 : decode cX9_field 26 = .ok (.invokevirtual 45, 3) := by decide +kernel
theorem dX9_field_29 : decode cX9_field 29 = .ok (.ireturn, 1) := by decide +kernel
theorem dX9_sizeWith_0 : decode cX9_sizeWith 0 = .ok (.iload_n 1, 1) := by decide +kernel
theorem dX9_sizeWith_1 : decode cX9_sizeWith 1 = .ok (.iload_n 2, 1) := by decide +kernel
theorem dX9_sizeWith_2 : decode cX9_sizeWith 2 = .ok (.invokestatic 57, 3) := by decide +kernel
theorem dX9_sizeWith_5 : decode cX9_sizeWith 5 = .ok (.ifCond .ne 9, 3) := by decide +kernel
theorem dX9_sizeWith_8 : decode cX9_sizeWith 8 = .ok (.aload_n 0, 1) := by decide +kernel
theorem dX9_sizeWith_9 : decode cX9_sizeWith 9 = .ok (.iconst 1, 1) := by decide +kernel
theorem dX9_sizeWith_10 : decode cX9_sizeWith 10 = .ok (.invokevirtual 45, 3) := by decide +kernel
theorem dX9_sizeWith_13 : decode cX9_sizeWith 13 = .ok (.ireturn, 1) := by decide +kernel
theorem dX9_sizeWith_14 : decode cX9_sizeWith 14 = .ok (.aload_n 0, 1) := by decide +kernel
theorem dX9_sizeWith_15 : decode cX9_sizeWith 15 = .ok (.iload_n 2, 1) := by decide +kernel
theorem dX9_sizeWith_16 : decode cX9_sizeWith 16 = .ok (.invokevirtual 82, 3) := by decide +kernel
theorem dX9_sizeWith_19 : decode cX9_sizeWith 19 = .ok (.istore_n 3, 1) := by decide +kernel
theorem dX9_sizeWith_20 : decode cX9_sizeWith 20 = .ok (.aload_n 0, 1) := by decide +kernel
theorem dX9_sizeWith_21 : decode cX9_sizeWith 21 = .ok (.aload_n 0, 1) := by decide +kernel
theorem dX9_sizeWith_22 : decode cX9_sizeWith 22 = .ok (.aload_n 0, 1) := by decide +kernel
theorem dX9_sizeWith_23 : decode cX9_sizeWith 23 = .ok (.iload_n 1, 1) := by decide +kernel
theorem dX9_sizeWith_24 : decode cX9_sizeWith 24 = .ok (.iload_n 3, 1) := by decide +kernel
theorem dX9_sizeWith_25 : decode cX9_sizeWith 25 = .ok (.invokevirtual 85, 3) := by decide +kernel
theorem dX9_sizeWith_28 : decode cX9_sizeWith 28 = .ok (.iload_n 3, 1) := by decide +kernel
theorem dX9_sizeWith_29 : decode cX9_sizeWith 29 = .ok (.invokevirtual 88, 3) := by decide +kernel
theorem dX9_sizeWith_32 : decode cX9_sizeWith 32 = .ok (.invokevirtual 32, 3) := by decide +kernel
theorem dX9_sizeWith_35 : decode cX9_sizeWith 35 = .ok (.ireturn, 1) := by decide +kernel
theorem dX9_reference_0 : decode cX9_reference 0 = .ok (.aload_n 0, 1) := by decide +kernel
theorem dX9_reference_1 : decode cX9_reference 1 = .ok (.aload_n 0, 1) := by decide +kernel
theorem dX9_reference_2 : decode cX9_reference 2 = .ok (.aload_n 0, 1) := by decide +kernel
theorem dX9_reference_3 : decode cX9_reference 3 = .ok (.getfield 7, 3) := by decide +kernel
theorem dX9_reference_6 : decode cX9_reference 6 = .ok (.bipush 7, 2) := by decide +kernel
theorem dX9_reference_8 : decode cX9_reference 8 = .ok (.iaload, 1) := by decide +kernel
theorem dX9_reference_9 : decode cX9_reference 9 = .ok (.invokevirtual 82, 3) := by decide +kernel
theorem dX9_reference_12 : decode cX9_reference 12 = .ok (.invokevirtual 32, 3) := by decide +kernel
theorem dX9_reference_15 : decode cX9_reference 15 = .ok (.ireturn, 1) := by decide +kernel
theorem dX9_told_0 : decode cX9_told 0 = .ok (.aload_n 0, 1) := by decide +kernel
theorem dX9_told_1 : decode cX9_told 1 = .ok (.iload_n 1, 1) := by decide +kernel
theorem dX9_told_2 : decode cX9_told 2 = .ok (.iload_n 2, 1) := by decide +kernel
theorem dX9_told_3 : decode cX9_told 3 = .ok (.iconst 4, 1) := by decide +kernel
theorem dX9_told_4 : decode cX9_told 4 = .ok (.if_icmp .ge 7, 3) := by decide +kernel
theorem dX9_told_7 : decode cX9_told 7 = .ok (.iload_n 2, 1) := by decide +kernel
theorem dX9_told_8 : decode cX9_told 8 = .ok (.goto 6, 3) := by decide +kernel
theorem dX9_told_11 : decode cX9_told 11 = .ok (.iload_n 2, 1) := by decide +kernel
theorem dX9_told_12 : decode cX9_told 12 = .ok (.iconst 2, 1) := by decide +kernel
theorem dX9_told_13 : decode cX9_told 13 = .ok (.iadd, 1) := by decide +kernel
theorem dX9_told_14 : decode cX9_told 14 = .ok (.invokevirtual 64, 3) := by decide +kernel
theorem dX9_told_17 : decode cX9_told 17 = .ok (.ireturn, 1) := by decide +kernel
theorem dX9_sent_0 : decode cX9_sent 0 = .ok (.iload_n 1, 1) := by decide +kernel
theorem dX9_sent_1 : decode cX9_sent 1 = .ok (.iconst 0, 1) := by decide +kernel
theorem dX9_sent_2 : decode cX9_sent 2 = .ok (.aload_n 0, 1) := by decide +kernel
theorem dX9_sent_3 : decode cX9_sent 3 = .ok (.getfield 7, 3) := by decide +kernel
theorem dX9_sent_6 : decode cX9_sent 6 = .ok (.bipush 9, 2) := by decide +kernel
theorem dX9_sent_8 : decode cX9_sent 8 = .ok (.iaload, 1) := by decide +kernel
theorem dX9_sent_9 : decode cX9_sent 9 = .ok (.iconst 1, 1) := by decide +kernel
theorem dX9_sent_10 : decode cX9_sent 10 = .ok (.isub, 1) := by decide +kernel
theorem dX9_sent_11 : decode cX9_sent 11 = .ok (.invokestatic 41, 3) := by decide +kernel
theorem dX9_sent_14 : decode cX9_sent 14 = .ok (.ifCond .ne 9, 3) := by decide +kernel
theorem dX9_sent_17 : decode cX9_sent 17 = .ok (.aload_n 0, 1) := by decide +kernel
theorem dX9_sent_18 : decode cX9_sent 18 = .ok (.iconst 1, 1) := by decide +kernel
theorem dX9_sent_19 : decode cX9_sent 19 = .ok (.invokevirtual 45, 3) := by decide +kernel
theorem dX9_sent_22 : decode cX9_sent 22 = .ok (.ireturn, 1) := by decide +kernel
theorem dX9_sent_23 : decode cX9_sent 23 = .ok (.iload_n 2, 1) := by decide +kernel
theorem dX9_sent_24 : decode cX9_sent 24 = .ok (.iconst 0, 1) := by decide +kernel
theorem dX9_sent_25 : decode cX9_sent 25 = .ok (.bipush 7, 2) := by decide +kernel
theorem dX9_sent_27 : decode cX9_sent 27 = .ok (.invokestatic 41, 3) := by decide +kernel
theorem dX9_sent_30 : decode cX9_sent 30 = .ok (.ifCond .eq 16, 3) := by decide +kernel
theorem dX9_sent_33 : decode cX9_sent 33 = .ok (.aload_n 0, 1) := by decide +kernel
theorem dX9_sent_34 : decode cX9_sent 34 = .ok (.aload_n 0, 1) := by decide +kernel
theorem dX9_sent_35 : decode cX9_sent 35 = .ok (.iload_n 1, 1) := by decide +kernel
theorem dX9_sent_36 : decode cX9_sent 36 = .ok (.iload_n 2, 1) := by decide +kernel
theorem dX9_sent_37 : decode cX9_sent 37 = .ok (.invokevirtual 106, 3) := by decide +kernel
theorem dX9_sent_40 : decode cX9_sent 40 = .ok (.invokevirtual 32, 3) := by decide +kernel
theorem dX9_sent_43 : decode cX9_sent 43 = .ok (.goto 8, 3) := by decide +kernel
theorem dX9_sent_46 : decode cX9_sent 46 = .ok (.aload_n 0, 1) := by decide +kernel
theorem dX9_sent_47 : decode cX9_sent 47 = .ok (.iconst 2, 1) := by decide +kernel
theorem dX9_sent_48 : decode cX9_sent 48 = .ok (.invokevirtual 45, 3) := by decide +kernel
theorem dX9_sent_51 : decode cX9_sent 51 = .ok (.ireturn, 1) := by decide +kernel
theorem dX9_placeOf_0 : decode cX9_placeOf 0 = .ok (.bipush 66, 2) := by decide +kernel
theorem dX9_placeOf_2 : decode cX9_placeOf 2 = .ok (.bipush 7, 2) := by decide +kernel
theorem dX9_placeOf_4 : decode cX9_placeOf 4 = .ok (.iload_n 1, 1) := by decide +kernel
theorem dX9_placeOf_5 : decode cX9_placeOf 5 = .ok (.bipush 63, 2) := by decide +kernel
theorem dX9_placeOf_7 : decode cX9_placeOf 7 = .ok (.iand, 1) := by decide +kernel
theorem dX9_placeOf_8 : decode cX9_placeOf 8 = .ok (.imul, 1) := by decide +kernel
theorem dX9_placeOf_9 : decode cX9_placeOf 9 = .ok (.iadd, 1) := by decide +kernel
theorem dX9_placeOf_10 : decode cX9_placeOf 10 = .ok (.istore_n 2, 1) := by decide +kernel
theorem dX9_placeOf_11 : decode cX9_placeOf 11 = .ok (.iload_n 1, 1) := by decide +kernel
theorem dX9_placeOf_12 : decode cX9_placeOf 12 = .ok (.ifCond .lt 17, 3) := by decide +kernel
theorem dX9_placeOf_15 : decode cX9_placeOf 15 = .ok (.aload_n 0, 1) := by decide +kernel
theorem dX9_placeOf_16 : decode cX9_placeOf 16 = .ok (.getfield 7, 3) := by decide +kernel
theorem dX9_placeOf_19 : decode cX9_placeOf 19 = .ok (.iload_n 2, 1) := by decide +kernel
theorem dX9_placeOf_20 : decode cX9_placeOf 20 = .ok (.iaload, 1) := by decide +kernel
theorem dX9_placeOf_21 : decode cX9_placeOf 21 = .ok (.iload_n 1, 1) := by decide +kernel
theorem dX9_placeOf_22 : decode cX9_placeOf 22 = .ok (.if_icmp .ne 7, 3) := by decide +kernel
theorem dX9_placeOf_25 : decode cX9_placeOf 25 = .ok (.iload_n 2, 1) := by decide +kernel
theorem dX9_placeOf_26 : decode cX9_placeOf 26 = .ok (.goto 4, 3) := by decide +kernel
theorem dX9_placeOf_29 : decode cX9_placeOf 29 = .ok (.iconst (-1), 1) := by decide +kernel
theorem dX9_placeOf_30 : decode cX9_placeOf 30 = .ok (.ireturn, 1) := by decide +kernel
theorem dX9_numberOf_0 : decode cX9_numberOf 0 = .ok (.aload_n 0, 1) := by decide +kernel
theorem dX9_numberOf_1 : decode cX9_numberOf 1 = .ok (.getfield 7, 3) := by decide +kernel
theorem dX9_numberOf_4 : decode cX9_numberOf 4 = .ok (.bipush 55, 2) := by decide +kernel
theorem dX9_numberOf_6 : decode cX9_numberOf 6 = .ok (.iaload, 1) := by decide +kernel
theorem dX9_numberOf_7 : decode cX9_numberOf 7 = .ok (.aload_n 0, 1) := by decide +kernel
theorem dX9_numberOf_8 : decode cX9_numberOf 8 = .ok (.getfield 7, 3) := by decide +kernel
theorem dX9_numberOf_11 : decode cX9_numberOf 11 = .ok (.bipush 52, 2) := by decide +kernel
theorem dX9_numberOf_13 : decode cX9_numberOf 13 = .ok (.iaload, 1) := by decide +kernel
theorem dX9_numberOf_14 : decode cX9_numberOf 14 = .ok (.isub, 1) := by decide +kernel
theorem dX9_numberOf_15 : decode cX9_numberOf 15 = .ok (.iconst 1, 1) := by decide +kernel
theorem dX9_numberOf_16 : decode cX9_numberOf 16 = .ok (.iadd, 1) := by decide +kernel
theorem dX9_numberOf_17 : decode cX9_numberOf 17 = .ok (.istore_n 2, 1) := by decide +kernel
theorem dX9_numberOf_18 : decode cX9_numberOf 18 = .ok (.iload_n 2, 1) := by decide +kernel
theorem dX9_numberOf_19 : decode cX9_numberOf 19 = .ok (.iload_n 1, 1) := by decide +kernel
theorem dX9_numberOf_20 : decode cX9_numberOf 20 = .ok (.iload_n 2, 1) := by decide +kernel
theorem dX9_numberOf_21 : decode cX9_numberOf 21 = .ok (.isub, 1) := by decide +kernel
theorem dX9_numberOf_22 : decode cX9_numberOf 22 = .ok (.bipush 63, 2) := by decide +kernel
theorem dX9_numberOf_24 : decode cX9_numberOf 24 = .ok (.iand, 1) := by decide +kernel
theorem dX9_numberOf_25 : decode cX9_numberOf 25 = .ok (.iadd, 1) := by decide +kernel
theorem dX9_numberOf_26 : decode cX9_numberOf 26 = .ok (.ireturn, 1) := by decide +kernel
theorem dX9_decodes_0 : decode cX9_decodes 0 = .ok (.aload_n 0, 1) := by decide +kernel
theorem dX9_decodes_1 : decode cX9_decodes 1 = .ok (.iload_n 1, 1) := by decide +kernel
theorem dX9_decodes_2 : decode cX9_decodes 2 = .ok (.bipush 7, 2) := by decide +kernel
theorem dX9_decodes_4 : decode cX9_decodes 4 = .ok (.invokevirtual 64, 3) := by decide +kernel
theorem dX9_decodes_7 : decode cX9_decodes 7 = .ok (.istore 4, 2) := by decide +kernel
theorem dX9_decodes_9 : decode cX9_decodes 9 = .ok (.aload_n 0, 1) := by decide +kernel
theorem dX9_decodes_10 : decode cX9_decodes 10 = .ok (.iload_n 1, 1) := by decide +kernel
theorem dX9_decodes_11 : decode cX9_decodes 11 = .ok (.bipush 8, 2) := by decide +kernel
theorem dX9_decodes_13 : decode cX9_decodes 13 = .ok (.invokevirtual 64, 3) := by decide +kernel
theorem dX9_decodes_16 : decode cX9_decodes 16 = .ok (.istore 5, 2) := by decide +kernel
theorem dX9_decodes_18 : decode cX9_decodes 18 = .ok (.iconst 0, 1) := by decide +kernel
theorem dX9_decodes_19 : decode cX9_decodes 19 = .ok (.istore 6, 2) := by decide +kernel
theorem dX9_decodes_21 : decode cX9_decodes 21 = .ok (.iload 6, 2) := by decide +kernel
theorem dX9_decodes_23 : decode cX9_decodes 23 = .ok (.iconst 4, 1) := by decide +kernel
theorem dX9_decodes_24 : decode cX9_decodes 24 = .ok (.if_icmp .ge 124, 3) := by decide +kernel
theorem dX9_decodes_27 : decode cX9_decodes 27 = .ok (.aload_n 0, 1) := by decide +kernel
theorem dX9_decodes_28 : decode cX9_decodes 28 = .ok (.iload 4, 2) := by decide +kernel
theorem dX9_decodes_30 : decode cX9_decodes 30 = .ok (.iload 5, 2) := by decide +kernel
theorem dX9_decodes_32 : decode cX9_decodes 32 = .ok (.iload_n 3, 1) := by decide +kernel
theorem dX9_decodes_33 : decode cX9_decodes 33 = .ok (.iload 6, 2) := by decide +kernel
theorem dX9_decodes_35 : decode cX9_decodes 35 = .ok (.invokevirtual 72, 3) := by decide +kernel
theorem dX9_decodes_38 : decode cX9_decodes 38 = .ok (.istore 7, 2) := by decide +kernel
theorem dX9_decodes_40 : decode cX9_decodes 40 = .ok (.iload 4, 2) := by decide +kernel
theorem dX9_decodes_42 : decode cX9_decodes 42 = .ok (.iload 6, 2) := by decide +kernel
theorem dX9_decodes_44 : decode cX9_decodes 44 = .ok (.aload_n 0, 1) := by decide +kernel
theorem dX9_decodes_45 : decode cX9_decodes 45 = .ok (.getfield 7, 3) := by decide +kernel
theorem dX9_decodes_48 : decode cX9_decodes 48 = .ok (.iload_n 2, 1) := by decide +kernel
theorem dX9_decodes_49 : decode cX9_decodes 49 = .ok (.iconst 1, 1) := by decide +kernel
theorem dX9_decodes_50 : decode cX9_decodes 50 = .ok (.iadd, 1) := by decide +kernel
theorem dX9_decodes_51 : decode cX9_decodes 51 = .ok (.iload 6, 2) := by decide +kernel
theorem dX9_decodes_53 : decode cX9_decodes 53 = .ok (.iadd, 1) := by decide +kernel
theorem dX9_decodes_54 : decode cX9_decodes 54 = .ok (.iaload, 1) := by decide +kernel
theorem dX9_decodes_55 : decode cX9_decodes 55 = .ok (.iload 6, 2) := by decide +kernel
theorem dX9_decodes_57 : decode cX9_decodes 57 = .ok (.iconst 1, 1) := by decide +kernel
theorem dX9_decodes_58 : decode cX9_decodes 58 = .ok (.iconst 2, 1) := by decide +kernel
theorem dX9_decodes_59 : decode cX9_decodes 59 = .ok (.invokestatic 41, 3) := by decide +kernel
theorem dX9_decodes_62 : decode cX9_decodes 62 = .ok (.ifCond .eq 17, 3) := by decide +kernel
theorem dX9_decodes_65 : decode cX9_decodes 65 = .ok (.aload_n 0, 1) := by decide +kernel
theorem dX9_decodes_66 : decode cX9_decodes 66 = .ok (.getfield 7, 3) := by decide +kernel
theorem dX9_decodes_69 : decode cX9_decodes 69 = .ok (.iload_n 2, 1) := by decide +kernel
theorem dX9_decodes_70 : decode cX9_decodes 70 = .ok (.iconst 4, 1) := by decide +kernel
theorem dX9_decodes_71 : decode cX9_decodes 71 = .ok (.iadd, 1) := by decide +kernel
theorem dX9_decodes_72 : decode cX9_decodes 72 = .ok (.iload 6, 2) := by decide +kernel
theorem dX9_decodes_74 : decode cX9_decodes 74 = .ok (.iadd, 1) := by decide +kernel
theorem dX9_decodes_75 : decode cX9_decodes 75 = .ok (.iaload, 1) := by decide +kernel
theorem dX9_decodes_76 : decode cX9_decodes 76 = .ok (.goto 4, 3) := by decide +kernel
theorem dX9_decodes_79 : decode cX9_decodes 79 = .ok (.iconst 0, 1) := by decide +kernel
theorem dX9_decodes_80 : decode cX9_decodes 80 = .ok (.iload_n 3, 1) := by decide +kernel
theorem dX9_decodes_81 : decode cX9_decodes 81 = .ok (.invokestatic 68, 3) := by decide +kernel
theorem dX9_decodes_84 : decode cX9_decodes 84 = .ok (.istore 8, 2) := by decide +kernel
theorem dX9_decodes_86 : decode cX9_decodes 86 = .ok (.aload_n 0, 1) := by decide +kernel
theorem dX9_decodes_87 : decode cX9_decodes 87 = .ok (.iload_n 1, 1) := by decide +kernel
theorem dX9_decodes_88 : decode cX9_decodes 88 = .ok (.iload 6, 2) := by decide +kernel
theorem dX9_decodes_90 : decode cX9_decodes 90 = .ok (.invokevirtual 64, 3) := by decide +kernel
theorem dX9_decodes_93 : decode cX9_decodes 93 = .ok (.istore 9, 2) := by decide +kernel
theorem dX9_decodes_95 : decode cX9_decodes 95 = .ok (.aload_n 0, 1) := by decide +kernel
theorem dX9_decodes_96 : decode cX9_decodes 96 = .ok (.getfield 22, 3) := by decide +kernel
theorem dX9_decodes_99 : decode cX9_decodes 99 = .ok (.iload 6, 2) := by decide +kernel
theorem dX9_decodes_101 : decode cX9_decodes 101 = .ok (.iload 6, 2) := by decide +kernel
theorem dX9_decodes_103 : decode cX9_decodes 103 = .ok (.iconst 1, 1) := by decide +kernel
theorem dX9_decodes_104 : decode cX9_decodes 104 = .ok (.iconst 2, 1) := by decide +kernel
theorem dX9_decodes_105 : decode cX9_decodes 105 = .ok (.invokestatic 41, 3) := by decide +kernel
theorem dX9_decodes_108 : decode cX9_decodes 108 = .ok (.ifCond .eq 19, 3) := by decide +kernel
theorem dX9_decodes_111 : decode cX9_decodes 111 = .ok (.iload 8, 2) := by decide +kernel
theorem dX9_decodes_113 : decode cX9_decodes 113 = .ok (.iload 9, 2) := by decide +kernel
theorem dX9_decodes_115 : decode cX9_decodes 115 = .ok (.iload 7, 2) := by decide +kernel
theorem dX9_decodes_117 : decode cX9_decodes 117 = .ok (.invokestatic 76, 3) := by decide +kernel
theorem dX9_decodes_120 : decode cX9_decodes 120 = .ok (.iadd, 1) := by decide +kernel
theorem dX9_decodes_121 : decode cX9_decodes 121 = .ok (.invokestatic 37, 3) := by decide +kernel
theorem dX9_decodes_124 : decode cX9_decodes 124 = .ok (.goto 17, 3) := by decide +kernel
theorem dX9_decodes_127 : decode cX9_decodes 127 = .ok (.iload 9, 2) := by decide +kernel
theorem dX9_decodes_129 : decode cX9_decodes 129 = .ok (.iload 7, 2) := by decide +kernel
theorem dX9_decodes_131 : decode cX9_decodes 131 = .ok (.if_icmp .ne 8, 3) := by decide +kernel
theorem dX9_decodes_134 : decode cX9_decodes 134 = .ok (.iload 8, 2) := by decide +kernel
theorem dX9_decodes_136 : decode cX9_decodes 136 = .ok (.goto 5, 3) := by decide +kernel
theorem dX9_decodes_139 : decode cX9_decodes 139 = .ok (.iload 9, 2) := by decide +kernel
theorem dX9_decodes_141 : decode cX9_decodes 141 = .ok (.iastore, 1) := by decide +kernel
theorem dX9_decodes_142 : decode cX9_decodes 142 = .ok (.iinc 6 1, 3) := by decide +kernel
theorem dX9_decodes_145 : decode cX9_decodes 145 = .ok (.goto (-124), 3) := by decide +kernel
theorem dX9_decodes_148 : decode cX9_decodes 148 = .ok (.aload_n 0, 1) := by decide +kernel
theorem dX9_decodes_149 : decode cX9_decodes 149 = .ok (.getfield 22, 3) := by decide +kernel
theorem dX9_decodes_152 : decode cX9_decodes 152 = .ok (.iconst 4, 1) := by decide +kernel
theorem dX9_decodes_153 : decode cX9_decodes 153 = .ok (.aload_n 0, 1) := by decide +kernel
theorem dX9_decodes_154 : decode cX9_decodes 154 = .ok (.getfield 7, 3) := by decide +kernel
theorem dX9_decodes_157 : decode cX9_decodes 157 = .ok (.iload_n 2, 1) := by decide +kernel
theorem dX9_decodes_158 : decode cX9_decodes 158 = .ok (.iconst 5, 1) := by decide +kernel
theorem dX9_decodes_159 : decode cX9_decodes 159 = .ok (.iadd, 1) := by decide +kernel
theorem dX9_decodes_160 : decode cX9_decodes 160 = .ok (.iaload, 1) := by decide +kernel
theorem dX9_decodes_161 : decode cX9_decodes 161 = .ok (.iastore, 1) := by decide +kernel
theorem dX9_decodes_162 : decode cX9_decodes 162 = .ok (.aload_n 0, 1) := by decide +kernel
theorem dX9_decodes_163 : decode cX9_decodes 163 = .ok (.getfield 22, 3) := by decide +kernel
theorem dX9_decodes_166 : decode cX9_decodes 166 = .ok (.iconst 5, 1) := by decide +kernel
theorem dX9_decodes_167 : decode cX9_decodes 167 = .ok (.aload_n 0, 1) := by decide +kernel
theorem dX9_decodes_168 : decode cX9_decodes 168 = .ok (.getfield 7, 3) := by decide +kernel
theorem dX9_decodes_171 : decode cX9_decodes 171 = .ok (.iload_n 2, 1) := by decide +kernel
theorem dX9_decodes_172 : decode cX9_decodes 172 = .ok (.bipush 6, 2) := by decide +kernel
theorem dX9_decodes_174 : decode cX9_decodes 174 = .ok (.iadd, 1) := by decide +kernel
theorem dX9_decodes_175 : decode cX9_decodes 175 = .ok (.iaload, 1) := by decide +kernel
theorem dX9_decodes_176 : decode cX9_decodes 176 = .ok (.iastore, 1) := by decide +kernel
theorem dX9_decodes_177 : decode cX9_decodes 177 = .ok (.return_, 1) := by decide +kernel
theorem dX9_keeps_0 : decode cX9_keeps 0 = .ok (.aload_n 0, 1) := by decide +kernel
theorem dX9_keeps_1 : decode cX9_keeps 1 = .ok (.getfield 7, 3) := by decide +kernel
theorem dX9_keeps_4 : decode cX9_keeps 4 = .ok (.bipush 55, 2) := by decide +kernel
theorem dX9_keeps_6 : decode cX9_keeps 6 = .ok (.iload_n 1, 1) := by decide +kernel
theorem dX9_keeps_7 : decode cX9_keeps 7 = .ok (.aload_n 0, 1) := by decide +kernel
theorem dX9_keeps_8 : decode cX9_keeps 8 = .ok (.getfield 7, 3) := by decide +kernel
theorem dX9_keeps_11 : decode cX9_keeps 11 = .ok (.bipush 55, 2) := by decide +kernel
theorem dX9_keeps_13 : decode cX9_keeps 13 = .ok (.iaload, 1) := by decide +kernel
theorem dX9_keeps_14 : decode cX9_keeps 14 = .ok (.if_icmp .le 7, 3) := by decide +kernel
theorem dX9_keeps_17 : decode cX9_keeps 17 = .ok (.iload_n 1, 1) := by decide +kernel
theorem dX9_keeps_18 : decode cX9_keeps 18 = .ok (.goto 10, 3) := by decide +kernel
theorem dX9_keeps_21 : decode cX9_keeps 21 = .ok (.aload_n 0, 1) := by decide +kernel
theorem dX9_keeps_22 : decode cX9_keeps 22 = .ok (.getfield 7, 3) := by decide +kernel
theorem dX9_keeps_25 : decode cX9_keeps 25 = .ok (.bipush 55, 2) := by decide +kernel
theorem dX9_keeps_27 : decode cX9_keeps 27 = .ok (.iaload, 1) := by decide +kernel
theorem dX9_keeps_28 : decode cX9_keeps 28 = .ok (.iastore, 1) := by decide +kernel
theorem dX9_keeps_29 : decode cX9_keeps 29 = .ok (.iconst 0, 1) := by decide +kernel
theorem dX9_keeps_30 : decode cX9_keeps 30 = .ok (.istore_n 2, 1) := by decide +kernel
theorem dX9_keeps_31 : decode cX9_keeps 31 = .ok (.iload_n 2, 1) := by decide +kernel
theorem dX9_keeps_32 : decode cX9_keeps 32 = .ok (.bipush 64, 2) := by decide +kernel
theorem dX9_keeps_34 : decode cX9_keeps 34 = .ok (.if_icmp .ge 51, 3) := by decide +kernel
theorem dX9_keeps_37 : decode cX9_keeps 37 = .ok (.bipush 66, 2) := by decide +kernel
theorem dX9_keeps_39 : decode cX9_keeps 39 = .ok (.bipush 7, 2) := by decide +kernel
theorem dX9_keeps_41 : decode cX9_keeps 41 = .ok (.iload_n 2, 1) := by decide +kernel
theorem dX9_keeps_42 : decode cX9_keeps 42 = .ok (.imul, 1) := by decide +kernel
theorem dX9_keeps_43 : decode cX9_keeps 43 = .ok (.iadd, 1) := by decide +kernel
theorem dX9_keeps_44 : decode cX9_keeps 44 = .ok (.istore_n 3, 1) := by decide +kernel
theorem dX9_keeps_45 : decode cX9_keeps 45 = .ok (.aload_n 0, 1) := by decide +kernel
theorem dX9_keeps_46 : decode cX9_keeps 46 = .ok (.getfield 7, 3) := by decide +kernel
theorem dX9_keeps_49 : decode cX9_keeps 49 = .ok (.iload_n 3, 1) := by decide +kernel
theorem dX9_keeps_50 : decode cX9_keeps 50 = .ok (.iaload, 1) := by decide +kernel
theorem dX9_keeps_51 : decode cX9_keeps 51 = .ok (.iconst (-1), 1) := by decide +kernel
theorem dX9_keeps_52 : decode cX9_keeps 52 = .ok (.if_icmp .eq 27, 3) := by decide +kernel
theorem dX9_keeps_55 : decode cX9_keeps 55 = .ok (.aload_n 0, 1) := by decide +kernel
theorem dX9_keeps_56 : decode cX9_keeps 56 = .ok (.getfield 7, 3) := by decide +kernel
theorem dX9_keeps_59 : decode cX9_keeps 59 = .ok (.iload_n 3, 1) := by decide +kernel
theorem dX9_keeps_60 : decode cX9_keeps 60 = .ok (.iaload, 1) := by decide +kernel
theorem dX9_keeps_61 : decode cX9_keeps 61 = .ok (.aload_n 0, 1) := by decide +kernel
theorem dX9_keeps_62 : decode cX9_keeps 62 = .ok (.getfield 7, 3) := by decide +kernel
theorem dX9_keeps_65 : decode cX9_keeps 65 = .ok (.bipush 55, 2) := by decide +kernel
theorem dX9_keeps_67 : decode cX9_keeps 67 = .ok (.iaload, 1) := by decide +kernel
theorem dX9_keeps_68 : decode cX9_keeps 68 = .ok (.bipush 64, 2) := by decide +kernel
theorem dX9_keeps_70 : decode cX9_keeps 70 = .ok (.isub, 1) := by decide +kernel
theorem dX9_keeps_71 : decode cX9_keeps 71 = .ok (.if_icmp .gt 8, 3) := by decide +kernel
theorem dX9_keeps_74 : decode cX9_keeps 74 = .ok (.aload_n 0, 1) := by decide +kernel
theorem dX9_keeps_75 : decode cX9_keeps 75 = .ok (.iload_n 3, 1) := by decide +kernel
theorem dX9_keeps_76 : decode cX9_keeps 76 = .ok (.invokevirtual 109, 3) := by decide +kernel
theorem dX9_keeps_79 : decode cX9_keeps 79 = .ok (.iinc 2 1, 3) := by decide +kernel
theorem dX9_keeps_82 : decode cX9_keeps 82 = .ok (.goto (-51), 3) := by decide +kernel
theorem dX9_keeps_85 : decode cX9_keeps 85 = .ok (.iload_n 1, 1) := by decide +kernel
theorem dX9_keeps_86 : decode cX9_keeps 86 = .ok (.aload_n 0, 1) := by decide +kernel
theorem dX9_keeps_87 : decode cX9_keeps 87 = .ok (.getfield 7, 3) := by decide +kernel
theorem dX9_keeps_90 : decode cX9_keeps 90 = .ok (.bipush 55, 2) := by decide +kernel
theorem dX9_keeps_92 : decode cX9_keeps 92 = .ok (.iaload, 1) := by decide +kernel
theorem dX9_keeps_93 : decode cX9_keeps 93 = .ok (.bipush 64, 2) := by decide +kernel
theorem dX9_keeps_95 : decode cX9_keeps 95 = .ok (.isub, 1) := by decide +kernel
theorem dX9_keeps_96 : decode cX9_keeps 96 = .ok (.if_icmp .le 51, 3) := by decide +kernel
theorem dX9_keeps_99 : decode cX9_keeps 99 = .ok (.bipush 66, 2) := by decide +kernel
theorem dX9_keeps_101 : decode cX9_keeps 101 = .ok (.bipush 7, 2) := by decide +kernel
theorem dX9_keeps_103 : decode cX9_keeps 103 = .ok (.iload_n 1, 1) := by decide +kernel
theorem dX9_keeps_104 : decode cX9_keeps 104 = .ok (.bipush 63, 2) := by decide +kernel
theorem dX9_keeps_106 : decode cX9_keeps 106 = .ok (.iand, 1) := by decide +kernel
theorem dX9_keeps_107 : decode cX9_keeps 107 = .ok (.imul, 1) := by decide +kernel
theorem dX9_keeps_108 : decode cX9_keeps 108 = .ok (.iadd, 1) := by decide +kernel
theorem dX9_keeps_109 : decode cX9_keeps 109 = .ok (.istore_n 2, 1) := by decide +kernel
theorem dX9_keeps_110 : decode cX9_keeps 110 = .ok (.aload_n 0, 1) := by decide +kernel
theorem dX9_keeps_111 : decode cX9_keeps 111 = .ok (.getfield 7, 3) := by decide +kernel
theorem dX9_keeps_114 : decode cX9_keeps 114 = .ok (.iload_n 2, 1) := by decide +kernel
theorem dX9_keeps_115 : decode cX9_keeps 115 = .ok (.iload_n 1, 1) := by decide +kernel
theorem dX9_keeps_116 : decode cX9_keeps 116 = .ok (.iastore, 1) := by decide +kernel
theorem dX9_keeps_117 : decode cX9_keeps 117 = .ok (.iconst 0, 1) := by decide +kernel
theorem dX9_keeps_118 : decode cX9_keeps 118 = .ok (.istore_n 3, 1) := by decide +kernel
theorem dX9_keeps_119 : decode cX9_keeps 119 = .ok (.iload_n 3, 1) := by decide +kernel
theorem dX9_keeps_120 : decode cX9_keeps 120 = .ok (.bipush 6, 2) := by decide +kernel
theorem dX9_keeps_122 : decode cX9_keeps 122 = .ok (.if_icmp .ge 25, 3) := by decide +kernel
theorem dX9_keeps_125 : decode cX9_keeps 125 = .ok (.aload_n 0, 1) := by decide +kernel
theorem dX9_keeps_126 : decode cX9_keeps 126 = .ok (.getfield 7, 3) := by decide +kernel
theorem dX9_keeps_129 : decode cX9_keeps 129 = .ok (.iload_n 2, 1) := by decide +kernel
theorem dX9_keeps_130 : decode cX9_keeps 130 = .ok (.iconst 1, 1) := by decide +kernel
theorem dX9_keeps_131 : decode cX9_keeps 131 = .ok (.iadd, 1) := by decide +kernel
theorem dX9_keeps_132 : decode cX9_keeps 132 = .ok (.iload_n 3, 1) := by decide +kernel
theorem dX9_keeps_133 : decode cX9_keeps 133 = .ok (.iadd, 1) := by decide +kernel
theorem dX9_keeps_134 : decode cX9_keeps 134 = .ok (.aload_n 0, 1) := by decide +kernel
theorem dX9_keeps_135 : decode cX9_keeps 135 = .ok (.getfield 22, 3) := by decide +kernel
theorem dX9_keeps_138 : decode cX9_keeps 138 = .ok (.iload_n 3, 1) := by decide +kernel
theorem dX9_keeps_139 : decode cX9_keeps 139 = .ok (.iaload, 1) := by decide +kernel
theorem dX9_keeps_140 : decode cX9_keeps 140 = .ok (.iastore, 1) := by decide +kernel
theorem dX9_keeps_141 : decode cX9_keeps 141 = .ok (.iinc 3 1, 3) := by decide +kernel
theorem dX9_keeps_144 : decode cX9_keeps 144 = .ok (.goto (-25), 3) := by decide +kernel
theorem dX9_keeps_147 : decode cX9_keeps 147 = .ok (.return_, 1) := by decide +kernel
theorem dX9_drops_0 : decode cX9_drops 0 = .ok (.aload_n 0, 1) := by decide +kernel
theorem dX9_drops_1 : decode cX9_drops 1 = .ok (.getfield 7, 3) := by decide +kernel
theorem dX9_drops_4 : decode cX9_drops 4 = .ok (.iload_n 1, 1) := by decide +kernel
theorem dX9_drops_5 : decode cX9_drops 5 = .ok (.iconst (-1), 1) := by decide +kernel
theorem dX9_drops_6 : decode cX9_drops 6 = .ok (.iastore, 1) := by decide +kernel
theorem dX9_drops_7 : decode cX9_drops 7 = .ok (.iconst 1, 1) := by decide +kernel
theorem dX9_drops_8 : decode cX9_drops 8 = .ok (.istore_n 2, 1) := by decide +kernel
theorem dX9_drops_9 : decode cX9_drops 9 = .ok (.iload_n 2, 1) := by decide +kernel
theorem dX9_drops_10 : decode cX9_drops 10 = .ok (.bipush 7, 2) := by decide +kernel
theorem dX9_drops_12 : decode cX9_drops 12 = .ok (.if_icmp .ge 18, 3) := by decide +kernel
theorem dX9_drops_15 : decode cX9_drops 15 = .ok (.aload_n 0, 1) := by decide +kernel
theorem dX9_drops_16 : decode cX9_drops 16 = .ok (.getfield 7, 3) := by decide +kernel
theorem dX9_drops_19 : decode cX9_drops 19 = .ok (.iload_n 1, 1) := by decide +kernel
theorem dX9_drops_20 : decode cX9_drops 20 = .ok (.iload_n 2, 1) := by decide +kernel
theorem dX9_drops_21 : decode cX9_drops 21 = .ok (.iadd, 1) := by decide +kernel
theorem dX9_drops_22 : decode cX9_drops 22 = .ok (.iconst 0, 1) := by decide +kernel
theorem dX9_drops_23 : decode cX9_drops 23 = .ok (.iastore, 1) := by decide +kernel
theorem dX9_drops_24 : decode cX9_drops 24 = .ok (.iinc 2 1, 3) := by decide +kernel
theorem dX9_drops_27 : decode cX9_drops 27 = .ok (.goto (-18), 3) := by decide +kernel
theorem dX9_drops_30 : decode cX9_drops 30 = .ok (.return_, 1) := by decide +kernel
theorem dX9_fails2_0 : decode cX9_fails2 0 = .ok (.aload_n 0, 1) := by decide +kernel
theorem dX9_fails2_1 : decode cX9_fails2 1 = .ok (.getfield 7, 3) := by decide +kernel
theorem dX9_fails2_4 : decode cX9_fails2 4 = .ok (.bipush 60, 2) := by decide +kernel
theorem dX9_fails2_6 : decode cX9_fails2 6 = .ok (.dup2, 1) := by decide +kernel
theorem dX9_fails2_7 : decode cX9_fails2 7 = .ok (.iaload, 1) := by decide +kernel
theorem dX9_fails2_8 : decode cX9_fails2 8 = .ok (.iconst 1, 1) := by decide +kernel
theorem dX9_fails2_9 : decode cX9_fails2 9 = .ok (.iadd, 1) := by decide +kernel
theorem dX9_fails2_10 : decode cX9_fails2 10 = .ok (.iastore, 1) := by decide +kernel
theorem dX9_fails2_11 : decode cX9_fails2 11 = .ok (.aload_n 0, 1) := by decide +kernel
theorem dX9_fails2_12 : decode cX9_fails2 12 = .ok (.getfield 7, 3) := by decide +kernel
theorem dX9_fails2_15 : decode cX9_fails2 15 = .ok (.bipush 56, 2) := by decide +kernel
theorem dX9_fails2_17 : decode cX9_fails2 17 = .ok (.dup2, 1) := by decide +kernel
theorem dX9_fails2_18 : decode cX9_fails2 18 = .ok (.iaload, 1) := by decide +kernel
theorem dX9_fails2_19 : decode cX9_fails2 19 = .ok (.iconst 1, 1) := by decide +kernel
theorem dX9_fails2_20 : decode cX9_fails2 20 = .ok (.iadd, 1) := by decide +kernel
theorem dX9_fails2_21 : decode cX9_fails2 21 = .ok (.iastore, 1) := by decide +kernel
theorem dX9_fails2_22 : decode cX9_fails2 22 = .ok (.aload_n 0, 1) := by decide +kernel
theorem dX9_fails2_23 : decode cX9_fails2 23 = .ok (.getfield 7, 3) := by decide +kernel
theorem dX9_fails2_26 : decode cX9_fails2 26 = .ok (.bipush 56, 2) := by decide +kernel
theorem dX9_fails2_28 : decode cX9_fails2 28 = .ok (.iaload, 1) := by decide +kernel
theorem dX9_fails2_29 : decode cX9_fails2 29 = .ok (.aload_n 0, 1) := by decide +kernel
theorem dX9_fails2_30 : decode cX9_fails2 30 = .ok (.getfield 7, 3) := by decide +kernel
theorem dX9_fails2_33 : decode cX9_fails2 33 = .ok (.bipush 54, 2) := by decide +kernel
theorem dX9_fails2_35 : decode cX9_fails2 35 = .ok (.iaload, 1) := by decide +kernel
theorem dX9_fails2_36 : decode cX9_fails2 36 = .ok (.if_icmp .lt 29, 3) := by decide +kernel
theorem dX9_fails2_39 : decode cX9_fails2 39 = .ok (.aload_n 0, 1) := by decide +kernel
theorem dX9_fails2_40 : decode cX9_fails2 40 = .ok (.getfield 7, 3) := by decide +kernel
theorem dX9_fails2_43 : decode cX9_fails2 43 = .ok (.bipush 56, 2) := by decide +kernel
theorem dX9_fails2_45 : decode cX9_fails2 45 = .ok (.iconst 0, 1) := by decide +kernel
theorem dX9_fails2_46 : decode cX9_fails2 46 = .ok (.iastore, 1) := by decide +kernel
theorem dX9_fails2_47 : decode cX9_fails2 47 = .ok (.aload_n 0, 1) := by decide +kernel
theorem dX9_fails2_48 : decode cX9_fails2 48 = .ok (.getfield 7, 3) := by decide +kernel
theorem dX9_fails2_51 : decode cX9_fails2 51 = .ok (.bipush 62, 2) := by decide +kernel
theorem dX9_fails2_53 : decode cX9_fails2 53 = .ok (.dup2, 1) := by decide +kernel
theorem dX9_fails2_54 : decode cX9_fails2 54 = .ok (.iaload, 1) := by decide +kernel
theorem dX9_fails2_55 : decode cX9_fails2 55 = .ok (.iconst 1, 1) := by decide +kernel
theorem dX9_fails2_56 : decode cX9_fails2 56 = .ok (.iadd, 1) := by decide +kernel
theorem dX9_fails2_57 : decode cX9_fails2 57 = .ok (.iastore, 1) := by decide +kernel
theorem dX9_fails2_58 : decode cX9_fails2 58 = .ok (.aload_n 0, 1) := by decide +kernel
theorem dX9_fails2_59 : decode cX9_fails2 59 = .ok (.bipush 31, 2) := by decide +kernel
theorem dX9_fails2_61 : decode cX9_fails2 61 = .ok (.iconst (-1), 1) := by decide +kernel
theorem dX9_fails2_62 : decode cX9_fails2 62 = .ok (.invokevirtual 95, 3) := by decide +kernel
theorem dX9_fails2_65 : decode cX9_fails2 65 = .ok (.iconst 2, 1) := by decide +kernel
theorem dX9_fails2_66 : decode cX9_fails2 66 = .ok (.ireturn, 1) := by decide +kernel
theorem dX9_receives_0 : decode cX9_receives 0 = .ok (.aload_n 0, 1) := by decide +kernel
theorem dX9_receives_1 : decode cX9_receives 1 = .ok (.getfield 7, 3) := by decide +kernel
theorem dX9_receives_4 : decode cX9_receives 4 = .ok (.bipush 55, 2) := by decide +kernel
theorem dX9_receives_6 : decode cX9_receives 6 = .ok (.iaload, 1) := by decide +kernel
theorem dX9_receives_7 : decode cX9_receives 7 = .ok (.iload_n 1, 1) := by decide +kernel
theorem dX9_receives_8 : decode cX9_receives 8 = .ok (.isub, 1) := by decide +kernel
theorem dX9_receives_9 : decode cX9_receives 9 = .ok (.istore_n 2, 1) := by decide +kernel
theorem dX9_receives_10 : decode cX9_receives 10 = .ok (.aload_n 0, 1) := by decide +kernel
theorem dX9_receives_11 : decode cX9_receives 11 = .ok (.getfield 7, 3) := by decide +kernel
theorem dX9_receives_14 : decode cX9_receives 14 = .ok (.bipush 65, 2) := by decide +kernel
theorem dX9_receives_16 : decode cX9_receives 16 = .ok (.iload_n 2, 1) := by decide +kernel
theorem dX9_receives_17 : decode cX9_receives 17 = .ok (.aload_n 0, 1) := by decide +kernel
theorem dX9_receives_18 : decode cX9_receives 18 = .ok (.getfield 7, 3) := by decide +kernel
theorem dX9_receives_21 : decode cX9_receives 21 = .ok (.bipush 65, 2) := by decide +kernel
theorem dX9_receives_23 : decode cX9_receives 23 = .ok (.iaload, 1) := by decide +kernel
theorem dX9_receives_24 : decode cX9_receives 24 = .ok (.if_icmp .le 7, 3) := by decide +kernel
theorem dX9_receives_27 : decode cX9_receives 27 = .ok (.iload_n 2, 1) := by decide +kernel
theorem dX9_receives_28 : decode cX9_receives 28 = .ok (.goto 10, 3) := by decide +kernel
theorem dX9_receives_31 : decode cX9_receives 31 = .ok (.aload_n 0, 1) := by decide +kernel
theorem dX9_receives_32 : decode cX9_receives 32 = .ok (.getfield 7, 3) := by decide +kernel
theorem dX9_receives_35 : decode cX9_receives 35 = .ok (.bipush 65, 2) := by decide +kernel
theorem dX9_receives_37 : decode cX9_receives 37 = .ok (.iaload, 1) := by decide +kernel
theorem dX9_receives_38 : decode cX9_receives 38 = .ok (.iastore, 1) := by decide +kernel
theorem dX9_receives_39 : decode cX9_receives 39 = .ok (.aload_n 0, 1) := by decide +kernel
theorem dX9_receives_40 : decode cX9_receives 40 = .ok (.iload_n 1, 1) := by decide +kernel
theorem dX9_receives_41 : decode cX9_receives 41 = .ok (.bipush 7, 2) := by decide +kernel
theorem dX9_receives_43 : decode cX9_receives 43 = .ok (.invokevirtual 64, 3) := by decide +kernel
theorem dX9_receives_46 : decode cX9_receives 46 = .ok (.ifCond .ne 7, 3) := by decide +kernel
theorem dX9_receives_49 : decode cX9_receives 49 = .ok (.iconst 1, 1) := by decide +kernel
theorem dX9_receives_50 : decode cX9_receives 50 = .ok (.goto 4, 3) := by decide +kernel
theorem dX9_receives_53 : decode cX9_receives 53 = .ok (.iconst 0, 1) := by decide +kernel
theorem dX9_receives_54 : decode cX9_receives 54 = .ok (.istore_n 3, 1) := by decide +kernel
theorem dX9_receives_55 : decode cX9_receives 55 = .ok (.iload_n 3, 1) := by decide +kernel
theorem dX9_receives_56 : decode cX9_receives 56 = .ok (.ifCond .eq 7, 3) := by decide +kernel
theorem dX9_receives_59 : decode cX9_receives 59 = .ok (.iload_n 1, 1) := by decide +kernel
theorem dX9_receives_60 : decode cX9_receives 60 = .ok (.goto 11, 3) := by decide +kernel
theorem dX9_receives_63 : decode cX9_receives 63 = .ok (.aload_n 0, 1) := by decide +kernel
theorem dX9_receives_64 : decode cX9_receives 64 = .ok (.iload_n 1, 1) := by decide +kernel
theorem dX9_receives_65 : decode cX9_receives 65 = .ok (.bipush 63, 2) := by decide +kernel
theorem dX9_receives_67 : decode cX9_receives 67 = .ok (.iand, 1) := by decide +kernel
theorem dX9_receives_68 : decode cX9_receives 68 = .ok (.invokevirtual 113, 3) := by decide +kernel
theorem dX9_receives_71 : decode cX9_receives 71 = .ok (.istore 4, 2) := by decide +kernel
theorem dX9_receives_73 : decode cX9_receives 73 = .ok (.aload_n 0, 1) := by decide +kernel
theorem dX9_receives_74 : decode cX9_receives 74 = .ok (.iload 4, 2) := by decide +kernel
theorem dX9_receives_76 : decode cX9_receives 76 = .ok (.invokevirtual 116, 3) := by decide +kernel
theorem dX9_receives_79 : decode cX9_receives 79 = .ok (.iconst (-1), 1) := by decide +kernel
theorem dX9_receives_80 : decode cX9_receives 80 = .ok (.if_icmp .eq 16, 3) := by decide +kernel
theorem dX9_receives_83 : decode cX9_receives 83 = .ok (.aload_n 0, 1) := by decide +kernel
theorem dX9_receives_84 : decode cX9_receives 84 = .ok (.getfield 7, 3) := by decide +kernel
theorem dX9_receives_87 : decode cX9_receives 87 = .ok (.bipush 61, 2) := by decide +kernel
theorem dX9_receives_89 : decode cX9_receives 89 = .ok (.dup2, 1) := by decide +kernel
theorem dX9_receives_90 : decode cX9_receives 90 = .ok (.iaload, 1) := by decide +kernel
theorem dX9_receives_91 : decode cX9_receives 91 = .ok (.iconst 1, 1) := by decide +kernel
theorem dX9_receives_92 : decode cX9_receives 92 = .ok (.iadd, 1) := by decide +kernel
theorem dX9_receives_93 : decode cX9_receives 93 = .ok (.iastore, 1) := by decide +kernel
theorem dX9_receives_94 : decode cX9_receives 94 = .ok (.iconst 3, 1) := by decide +kernel
theorem dX9_receives_95 : decode cX9_receives 95 = .ok (.ireturn, 1) := by decide +kernel
theorem dX9_receives_96 : decode cX9_receives 96 = .ok (.iload_n 3, 1) := by decide +kernel
theorem dX9_receives_97 : decode cX9_receives 97 = .ok (.ifCond .eq 36, 3) := by decide +kernel
theorem dX9_receives_100 : decode cX9_receives 100 = .ok (.iconst 0, 1) := by decide +kernel
theorem dX9_receives_101 : decode cX9_receives 101 = .ok (.istore 5, 2) := by decide +kernel
theorem dX9_receives_103 : decode cX9_receives 103 = .ok (.iload 5, 2) := by decide +kernel
theorem dX9_receives_105 : decode cX9_receives 105 = .ok (.bipush 6, 2) := by decide +kernel
theorem dX9_receives_107 : decode cX9_receives 107 = .ok (.if_icmp .ge 23, 3) := by decide +kernel
theorem dX9_receives_110 : decode cX9_receives 110 = .ok (.aload_n 0, 1) := by decide +kernel
theorem dX9_receives_111 : decode cX9_receives 111 = .ok (.getfield 22, 3) := by decide +kernel
theorem dX9_receives_114 : decode cX9_receives 114 = .ok (.iload 5, 2) := by decide +kernel
theorem dX9_receives_116 : decode cX9_receives 116 = .ok (.aload_n 0, 1) := by decide +kernel
theorem dX9_receives_117 : decode cX9_receives 117 = .ok (.iload_n 1, 1) := by decide +kernel
theorem dX9_receives_118 : decode cX9_receives 118 = .ok (.iload 5, 2) := by decide +kernel
theorem dX9_receives_120 : decode cX9_receives 120 = .ok (.invokevirtual 64, 3) := by decide +kernel
theorem dX9_receives_123 : decode cX9_receives 123 = .ok (.iastore, 1) := by decide +kernel
theorem dX9_receives_124 : decode cX9_receives 124 = .ok (.iinc 5 1, 3) := by decide +kernel
theorem dX9_receives_127 : decode cX9_receives 127 = .ok (.goto (-24), 3) := by decide +kernel
theorem dX9_receives_130 : decode cX9_receives 130 = .ok (.goto 45, 3) := by decide +kernel
theorem dX9_receives_133 : decode cX9_receives 133 = .ok (.iload_n 1, 1) := by decide +kernel
theorem dX9_receives_134 : decode cX9_receives 134 = .ok (.aload_n 0, 1) := by decide +kernel
theorem dX9_receives_135 : decode cX9_receives 135 = .ok (.iload_n 1, 1) := by decide +kernel
theorem dX9_receives_136 : decode cX9_receives 136 = .ok (.bipush 8, 2) := by decide +kernel
theorem dX9_receives_138 : decode cX9_receives 138 = .ok (.invokevirtual 64, 3) := by decide +kernel
theorem dX9_receives_141 : decode cX9_receives 141 = .ok (.isub, 1) := by decide +kernel
theorem dX9_receives_142 : decode cX9_receives 142 = .ok (.istore 5, 2) := by decide +kernel
theorem dX9_receives_144 : decode cX9_receives 144 = .ok (.aload_n 0, 1) := by decide +kernel
theorem dX9_receives_145 : decode cX9_receives 145 = .ok (.iload 4, 2) := by decide +kernel
theorem dX9_receives_147 : decode cX9_receives 147 = .ok (.iload 5, 2) := by decide +kernel
theorem dX9_receives_149 : decode cX9_receives 149 = .ok (.isub, 1) := by decide +kernel
theorem dX9_receives_150 : decode cX9_receives 150 = .ok (.invokevirtual 116, 3) := by decide +kernel
theorem dX9_receives_153 : decode cX9_receives 153 = .ok (.istore 6, 2) := by decide +kernel
theorem dX9_receives_155 : decode cX9_receives 155 = .ok (.iload 6, 2) := by decide +kernel
theorem dX9_receives_157 : decode cX9_receives 157 = .ok (.iconst (-1), 1) := by decide +kernel
theorem dX9_receives_158 : decode cX9_receives 158 = .ok (.if_icmp .ne 8, 3) := by decide +kernel
theorem dX9_receives_161 : decode cX9_receives 161 = .ok (.aload_n 0, 1) := by decide +kernel
theorem dX9_receives_162 : decode cX9_receives 162 = .ok (.invokevirtual 119, 3) := by decide +kernel
theorem dX9_receives_165 : decode cX9_receives 165 = .ok (.ireturn, 1) := by decide +kernel
theorem dX9_receives_166 : decode cX9_receives 166 = .ok (.aload_n 0, 1) := by decide +kernel
theorem dX9_receives_167 : decode cX9_receives 167 = .ok (.iload_n 1, 1) := by decide +kernel
theorem dX9_receives_168 : decode cX9_receives 168 = .ok (.iload 6, 2) := by decide +kernel
theorem dX9_receives_170 : decode cX9_receives 170 = .ok (.iload 5, 2) := by decide +kernel
theorem dX9_receives_172 : decode cX9_receives 172 = .ok (.invokevirtual 123, 3) := by decide +kernel
theorem dX9_receives_175 : decode cX9_receives 175 = .ok (.iload 4, 2) := by decide +kernel
theorem dX9_receives_177 : decode cX9_receives 177 = .ok (.iload_n 1, 1) := by decide +kernel
theorem dX9_receives_178 : decode cX9_receives 178 = .ok (.if_icmp .ne 7, 3) := by decide +kernel
theorem dX9_receives_181 : decode cX9_receives 181 = .ok (.iconst 1, 1) := by decide +kernel
theorem dX9_receives_182 : decode cX9_receives 182 = .ok (.goto 4, 3) := by decide +kernel
theorem dX9_receives_185 : decode cX9_receives 185 = .ok (.iconst 0, 1) := by decide +kernel
theorem dX9_receives_186 : decode cX9_receives 186 = .ok (.istore 5, 2) := by decide +kernel
theorem dX9_receives_188 : decode cX9_receives 188 = .ok (.iconst 0, 1) := by decide +kernel
theorem dX9_receives_189 : decode cX9_receives 189 = .ok (.istore 6, 2) := by decide +kernel
theorem dX9_receives_191 : decode cX9_receives 191 = .ok (.iload 6, 2) := by decide +kernel
theorem dX9_receives_193 : decode cX9_receives 193 = .ok (.iconst 4, 1) := by decide +kernel
theorem dX9_receives_194 : decode cX9_receives 194 = .ok (.if_icmp .ge 38, 3) := by decide +kernel
theorem dX9_receives_197 : decode cX9_receives 197 = .ok (.iload 5, 2) := by decide +kernel
theorem dX9_receives_199 : decode cX9_receives 199 = .ok (.ifCond .eq 24, 3) := by decide +kernel
theorem dX9_receives_202 : decode cX9_receives 202 = .ok (.aload_n 0, 1) := by decide +kernel
theorem dX9_receives_203 : decode cX9_receives 203 = .ok (.getfield 22, 3) := by decide +kernel
theorem dX9_receives_206 : decode cX9_receives 206 = .ok (.iload 6, 2) := by decide +kernel
theorem dX9_receives_208 : decode cX9_receives 208 = .ok (.iaload, 1) := by decide +kernel
theorem dX9_receives_209 : decode cX9_receives 209 = .ok (.aload_n 0, 1) := by decide +kernel
theorem dX9_receives_210 : decode cX9_receives 210 = .ok (.iload_n 1, 1) := by decide +kernel
theorem dX9_receives_211 : decode cX9_receives 211 = .ok (.iload 6, 2) := by decide +kernel
theorem dX9_receives_213 : decode cX9_receives 213 = .ok (.invokevirtual 64, 3) := by decide +kernel
theorem dX9_receives_216 : decode cX9_receives 216 = .ok (.if_icmp .ne 7, 3) := by decide +kernel
theorem dX9_receives_219 : decode cX9_receives 219 = .ok (.iconst 1, 1) := by decide +kernel
theorem dX9_receives_220 : decode cX9_receives 220 = .ok (.goto 4, 3) := by decide +kernel
theorem dX9_receives_223 : decode cX9_receives 223 = .ok (.iconst 0, 1) := by decide +kernel
theorem dX9_receives_224 : decode cX9_receives 224 = .ok (.istore 5, 2) := by decide +kernel
theorem dX9_receives_226 : decode cX9_receives 226 = .ok (.iinc 6 1, 3) := by decide +kernel
theorem dX9_receives_229 : decode cX9_receives 229 = .ok (.goto (-38), 3) := by decide +kernel
theorem dX9_receives_232 : decode cX9_receives 232 = .ok (.aload_n 0, 1) := by decide +kernel
theorem dX9_receives_233 : decode cX9_receives 233 = .ok (.iload 4, 2) := by decide +kernel
theorem dX9_receives_235 : decode cX9_receives 235 = .ok (.invokevirtual 126, 3) := by decide +kernel
theorem dX9_receives_238 : decode cX9_receives 238 = .ok (.aload_n 0, 1) := by decide +kernel
theorem dX9_receives_239 : decode cX9_receives 239 = .ok (.getfield 7, 3) := by decide +kernel
theorem dX9_receives_242 : decode cX9_receives 242 = .ok (.bipush 57, 2) := by decide +kernel
theorem dX9_receives_244 : decode cX9_receives 244 = .ok (.dup2, 1) := by decide +kernel
theorem dX9_receives_245 : decode cX9_receives 245 = .ok (.iaload, 1) := by decide +kernel
theorem dX9_receives_246 : decode cX9_receives 246 = .ok (.iconst 1, 1) := by decide +kernel
theorem dX9_receives_247 : decode cX9_receives 247 = .ok (.iadd, 1) := by decide +kernel
theorem dX9_receives_248 : decode cX9_receives 248 = .ok (.iastore, 1) := by decide +kernel
theorem dX9_receives_249 : decode cX9_receives 249 = .ok (.aload_n 0, 1) := by decide +kernel
theorem dX9_receives_250 : decode cX9_receives 250 = .ok (.getfield 7, 3) := by decide +kernel
theorem dX9_receives_253 : decode cX9_receives 253 = .ok (.iload 5, 2) := by decide +kernel
theorem dX9_receives_255 : decode cX9_receives 255 = .ok (.ifCond .eq 8, 3) := by decide +kernel
theorem dX9_receives_258 : decode cX9_receives 258 = .ok (.bipush 58, 2) := by decide +kernel
theorem dX9_receives_260 : decode cX9_receives 260 = .ok (.goto 5, 3) := by decide +kernel
theorem dX9_receives_263 : decode cX9_receives 263 = .ok (.bipush 59, 2) := by decide +kernel
theorem dX9_receives_265 : decode cX9_receives 265 = .ok (.dup2, 1) := by decide +kernel
theorem dX9_receives_266 : decode cX9_receives 266 = .ok (.iaload, 1) := by decide +kernel
theorem dX9_receives_267 : decode cX9_receives 267 = .ok (.iconst 1, 1) := by decide +kernel
theorem dX9_receives_268 : decode cX9_receives 268 = .ok (.iadd, 1) := by decide +kernel
theorem dX9_receives_269 : decode cX9_receives 269 = .ok (.iastore, 1) := by decide +kernel
theorem dX9_receives_270 : decode cX9_receives 270 = .ok (.aload_n 0, 1) := by decide +kernel
theorem dX9_receives_271 : decode cX9_receives 271 = .ok (.getfield 7, 3) := by decide +kernel
theorem dX9_receives_274 : decode cX9_receives 274 = .ok (.bipush 56, 2) := by decide +kernel
theorem dX9_receives_276 : decode cX9_receives 276 = .ok (.iconst 0, 1) := by decide +kernel
theorem dX9_receives_277 : decode cX9_receives 277 = .ok (.iastore, 1) := by decide +kernel
theorem dX9_receives_278 : decode cX9_receives 278 = .ok (.aload_n 0, 1) := by decide +kernel
theorem dX9_receives_279 : decode cX9_receives 279 = .ok (.getfield 7, 3) := by decide +kernel
theorem dX9_receives_282 : decode cX9_receives 282 = .ok (.bipush 57, 2) := by decide +kernel
theorem dX9_receives_284 : decode cX9_receives 284 = .ok (.iaload, 1) := by decide +kernel
theorem dX9_receives_285 : decode cX9_receives 285 = .ok (.aload_n 0, 1) := by decide +kernel
theorem dX9_receives_286 : decode cX9_receives 286 = .ok (.getfield 7, 3) := by decide +kernel
theorem dX9_receives_289 : decode cX9_receives 289 = .ok (.bipush 53, 2) := by decide +kernel
theorem dX9_receives_291 : decode cX9_receives 291 = .ok (.iaload, 1) := by decide +kernel
theorem dX9_receives_292 : decode cX9_receives 292 = .ok (.irem, 1) := by decide +kernel
theorem dX9_receives_293 : decode cX9_receives 293 = .ok (.ifCond .ne 11, 3) := by decide +kernel
theorem dX9_receives_296 : decode cX9_receives 296 = .ok (.aload_n 0, 1) := by decide +kernel
theorem dX9_receives_297 : decode cX9_receives 297 = .ok (.bipush 31, 2) := by decide +kernel
theorem dX9_receives_299 : decode cX9_receives 299 = .ok (.iload 4, 2) := by decide +kernel
theorem dX9_receives_301 : decode cX9_receives 301 = .ok (.invokevirtual 95, 3) := by decide +kernel
theorem dX9_receives_304 : decode cX9_receives 304 = .ok (.iload 5, 2) := by decide +kernel
theorem dX9_receives_306 : decode cX9_receives 306 = .ok (.ifCond .eq 7, 3) := by decide +kernel
theorem dX9_receives_309 : decode cX9_receives 309 = .ok (.iconst 0, 1) := by decide +kernel
theorem dX9_receives_310 : decode cX9_receives 310 = .ok (.goto 4, 3) := by decide +kernel
theorem dX9_receives_313 : decode cX9_receives 313 = .ok (.iconst 1, 1) := by decide +kernel
theorem dX9_receives_314 : decode cX9_receives 314 = .ok (.ireturn, 1) := by decide +kernel
theorem dX9_takes_0 : decode cX9_takes 0 = .ok (.aload_n 0, 1) := by decide +kernel
theorem dX9_takes_1 : decode cX9_takes 1 = .ok (.getfield 7, 3) := by decide +kernel
theorem dX9_takes_4 : decode cX9_takes 4 = .ok (.iload_n 1, 1) := by decide +kernel
theorem dX9_takes_5 : decode cX9_takes 5 = .ok (.iconst 1, 1) := by decide +kernel
theorem dX9_takes_6 : decode cX9_takes 6 = .ok (.iadd, 1) := by decide +kernel
theorem dX9_takes_7 : decode cX9_takes 7 = .ok (.iload_n 2, 1) := by decide +kernel
theorem dX9_takes_8 : decode cX9_takes 8 = .ok (.iadd, 1) := by decide +kernel
theorem dX9_takes_9 : decode cX9_takes 9 = .ok (.iaload, 1) := by decide +kernel
theorem dX9_takes_10 : decode cX9_takes 10 = .ok (.istore_n 3, 1) := by decide +kernel
theorem dX9_takes_11 : decode cX9_takes 11 = .ok (.aload_n 0, 1) := by decide +kernel
theorem dX9_takes_12 : decode cX9_takes 12 = .ok (.getfield 7, 3) := by decide +kernel
theorem dX9_takes_15 : decode cX9_takes 15 = .ok (.iload_n 1, 1) := by decide +kernel
theorem dX9_takes_16 : decode cX9_takes 16 = .ok (.dup2, 1) := by decide +kernel
theorem dX9_takes_17 : decode cX9_takes 17 = .ok (.iaload, 1) := by decide +kernel
theorem dX9_takes_18 : decode cX9_takes 18 = .ok (.iconst 1, 1) := by decide +kernel
theorem dX9_takes_19 : decode cX9_takes 19 = .ok (.isub, 1) := by decide +kernel
theorem dX9_takes_20 : decode cX9_takes 20 = .ok (.iastore, 1) := by decide +kernel
theorem dX9_takes_21 : decode cX9_takes 21 = .ok (.iload_n 2, 1) := by decide +kernel
theorem dX9_takes_22 : decode cX9_takes 22 = .ok (.istore 4, 2) := by decide +kernel
theorem dX9_takes_24 : decode cX9_takes 24 = .ok (.iload 4, 2) := by decide +kernel
theorem dX9_takes_26 : decode cX9_takes 26 = .ok (.aload_n 0, 1) := by decide +kernel
theorem dX9_takes_27 : decode cX9_takes 27 = .ok (.getfield 7, 3) := by decide +kernel
theorem dX9_takes_30 : decode cX9_takes 30 = .ok (.iload_n 1, 1) := by decide +kernel
theorem dX9_takes_31 : decode cX9_takes 31 = .ok (.iaload, 1) := by decide +kernel
theorem dX9_takes_32 : decode cX9_takes 32 = .ok (.if_icmp .ge 31, 3) := by decide +kernel
theorem dX9_takes_35 : decode cX9_takes 35 = .ok (.aload_n 0, 1) := by decide +kernel
theorem dX9_takes_36 : decode cX9_takes 36 = .ok (.getfield 7, 3) := by decide +kernel
theorem dX9_takes_39 : decode cX9_takes 39 = .ok (.iload_n 1, 1) := by decide +kernel
theorem dX9_takes_40 : decode cX9_takes 40 = .ok (.iconst 1, 1) := by decide +kernel
theorem dX9_takes_41 : decode cX9_takes 41 = .ok (.iadd, 1) := by decide +kernel
theorem dX9_takes_42 : decode cX9_takes 42 = .ok (.iload 4, 2) := by decide +kernel
theorem dX9_takes_44 : decode cX9_takes 44 = .ok (.iadd, 1) := by decide +kernel
theorem dX9_takes_45 : decode cX9_takes 45 = .ok (.aload_n 0, 1) := by decide +kernel
theorem dX9_takes_46 : decode cX9_takes 46 = .ok (.getfield 7, 3) := by decide +kernel
theorem dX9_takes_49 : decode cX9_takes 49 = .ok (.iload_n 1, 1) := by decide +kernel
theorem dX9_takes_50 : decode cX9_takes 50 = .ok (.iconst 2, 1) := by decide +kernel
theorem dX9_takes_51 : decode cX9_takes 51 = .ok (.iadd, 1) := by decide +kernel
theorem dX9_takes_52 : decode cX9_takes 52 = .ok (.iload 4, 2) := by decide +kernel
theorem dX9_takes_54 : decode cX9_takes 54 = .ok (.iadd, 1) := by decide +kernel
theorem dX9_takes_55 : decode cX9_takes 55 = .ok (.iaload, 1) := by decide +kernel
theorem dX9_takes_56 : decode cX9_takes 56 = .ok (.iastore, 1) := by decide +kernel
theorem dX9_takes_57 : decode cX9_takes 57 = .ok (.iinc 4 1, 3) := by decide +kernel
theorem dX9_takes_60 : decode cX9_takes 60 = .ok (.goto (-36), 3) := by decide +kernel
theorem dX9_takes_63 : decode cX9_takes 63 = .ok (.aload_n 0, 1) := by decide +kernel
theorem dX9_takes_64 : decode cX9_takes 64 = .ok (.getfield 7, 3) := by decide +kernel
theorem dX9_takes_67 : decode cX9_takes 67 = .ok (.iload_n 1, 1) := by decide +kernel
theorem dX9_takes_68 : decode cX9_takes 68 = .ok (.iconst 1, 1) := by decide +kernel
theorem dX9_takes_69 : decode cX9_takes 69 = .ok (.iadd, 1) := by decide +kernel
theorem dX9_takes_70 : decode cX9_takes 70 = .ok (.aload_n 0, 1) := by decide +kernel
theorem dX9_takes_71 : decode cX9_takes 71 = .ok (.getfield 7, 3) := by decide +kernel
theorem dX9_takes_74 : decode cX9_takes 74 = .ok (.iload_n 1, 1) := by decide +kernel
theorem dX9_takes_75 : decode cX9_takes 75 = .ok (.iaload, 1) := by decide +kernel
theorem dX9_takes_76 : decode cX9_takes 76 = .ok (.iadd, 1) := by decide +kernel
theorem dX9_takes_77 : decode cX9_takes 77 = .ok (.iconst 0, 1) := by decide +kernel
theorem dX9_takes_78 : decode cX9_takes 78 = .ok (.iastore, 1) := by decide +kernel
theorem dX9_takes_79 : decode cX9_takes 79 = .ok (.iload_n 3, 1) := by decide +kernel
theorem dX9_takes_80 : decode cX9_takes 80 = .ok (.ireturn, 1) := by decide +kernel
theorem dX9_isIn_0 : decode cX9_isIn 0 = .ok (.iload_n 2, 1) := by decide +kernel
theorem dX9_isIn_1 : decode cX9_isIn 1 = .ok (.iconst 0, 1) := by decide +kernel
theorem dX9_isIn_2 : decode cX9_isIn 2 = .ok (.aload_n 0, 1) := by decide +kernel
theorem dX9_isIn_3 : decode cX9_isIn 3 = .ok (.getfield 7, 3) := by decide +kernel
theorem dX9_isIn_6 : decode cX9_isIn 6 = .ok (.iload_n 1, 1) := by decide +kernel
theorem dX9_isIn_7 : decode cX9_isIn 7 = .ok (.iaload, 1) := by decide +kernel
theorem dX9_isIn_8 : decode cX9_isIn 8 = .ok (.iconst 1, 1) := by decide +kernel
theorem dX9_isIn_9 : decode cX9_isIn 9 = .ok (.isub, 1) := by decide +kernel
theorem dX9_isIn_10 : decode cX9_isIn 10 = .ok (.invokestatic 41, 3) := by decide +kernel
theorem dX9_isIn_13 : decode cX9_isIn 13 = .ok (.ireturn, 1) := by decide +kernel
theorem dX9_delivers_0 : decode cX9_delivers 0 = .ok (.aload_n 0, 1) := by decide +kernel
theorem dX9_delivers_1 : decode cX9_delivers 1 = .ok (.bipush 10, 2) := by decide +kernel
theorem dX9_delivers_3 : decode cX9_delivers 3 = .ok (.iload_n 1, 1) := by decide +kernel
theorem dX9_delivers_4 : decode cX9_delivers 4 = .ok (.invokevirtual 129, 3) := by decide +kernel
theorem dX9_delivers_7 : decode cX9_delivers 7 = .ok (.ifCond .ne 5, 3) := by decide +kernel
theorem dX9_delivers_10 : decode cX9_delivers 10 = .ok (.iconst 1, 1) := by decide +kernel
theorem dX9_delivers_11 : decode cX9_delivers 11 = .ok (.ireturn, 1) := by decide +kernel
theorem dX9_delivers_12 : decode cX9_delivers 12 = .ok (.aload_n 0, 1) := by decide +kernel
theorem dX9_delivers_13 : decode cX9_delivers 13 = .ok (.aload_n 0, 1) := by decide +kernel
theorem dX9_delivers_14 : decode cX9_delivers 14 = .ok (.aload_n 0, 1) := by decide +kernel
theorem dX9_delivers_15 : decode cX9_delivers 15 = .ok (.bipush 10, 2) := by decide +kernel
theorem dX9_delivers_17 : decode cX9_delivers 17 = .ok (.iload_n 1, 1) := by decide +kernel
theorem dX9_delivers_18 : decode cX9_delivers 18 = .ok (.invokevirtual 132, 3) := by decide +kernel
theorem dX9_delivers_21 : decode cX9_delivers 21 = .ok (.invokevirtual 135, 3) := by decide +kernel
theorem dX9_delivers_24 : decode cX9_delivers 24 = .ok (.putfield 138, 3) := by decide +kernel
theorem dX9_delivers_27 : decode cX9_delivers 27 = .ok (.iconst 0, 1) := by decide +kernel
theorem dX9_delivers_28 : decode cX9_delivers 28 = .ok (.ireturn, 1) := by decide +kernel
theorem dX9_loses_0 : decode cX9_loses 0 = .ok (.aload_n 0, 1) := by decide +kernel
theorem dX9_loses_1 : decode cX9_loses 1 = .ok (.iload_n 1, 1) := by decide +kernel
theorem dX9_loses_2 : decode cX9_loses 2 = .ok (.iload_n 2, 1) := by decide +kernel
theorem dX9_loses_3 : decode cX9_loses 3 = .ok (.invokevirtual 129, 3) := by decide +kernel
theorem dX9_loses_6 : decode cX9_loses 6 = .ok (.ifCond .ne 5, 3) := by decide +kernel
theorem dX9_loses_9 : decode cX9_loses 9 = .ok (.iconst 1, 1) := by decide +kernel
theorem dX9_loses_10 : decode cX9_loses 10 = .ok (.ireturn, 1) := by decide +kernel
theorem dX9_loses_11 : decode cX9_loses 11 = .ok (.aload_n 0, 1) := by decide +kernel
theorem dX9_loses_12 : decode cX9_loses 12 = .ok (.aload_n 0, 1) := by decide +kernel
theorem dX9_loses_13 : decode cX9_loses 13 = .ok (.iload_n 1, 1) := by decide +kernel
theorem dX9_loses_14 : decode cX9_loses 14 = .ok (.iload_n 2, 1) := by decide +kernel
theorem dX9_loses_15 : decode cX9_loses 15 = .ok (.invokevirtual 132, 3) := by decide +kernel
theorem dX9_loses_18 : decode cX9_loses 18 = .ok (.putfield 138, 3) := by decide +kernel
theorem dX9_loses_21 : decode cX9_loses 21 = .ok (.iconst 0, 1) := by decide +kernel
theorem dX9_loses_22 : decode cX9_loses 22 = .ok (.ireturn, 1) := by decide +kernel
theorem dX9_copies_0 : decode cX9_copies 0 = .ok (.aload_n 0, 1) := by decide +kernel
theorem dX9_copies_1 : decode cX9_copies 1 = .ok (.bipush 10, 2) := by decide +kernel
theorem dX9_copies_3 : decode cX9_copies 3 = .ok (.iload_n 1, 1) := by decide +kernel
theorem dX9_copies_4 : decode cX9_copies 4 = .ok (.invokevirtual 129, 3) := by decide +kernel
theorem dX9_copies_7 : decode cX9_copies 7 = .ok (.ifCond .ne 5, 3) := by decide +kernel
theorem dX9_copies_10 : decode cX9_copies 10 = .ok (.iconst 1, 1) := by decide +kernel
theorem dX9_copies_11 : decode cX9_copies 11 = .ok (.ireturn, 1) := by decide +kernel
theorem dX9_copies_12 : decode cX9_copies 12 = .ok (.aload_n 0, 1) := by decide +kernel
theorem dX9_copies_13 : decode cX9_copies 13 = .ok (.getfield 7, 3) := by decide +kernel
theorem dX9_copies_16 : decode cX9_copies 16 = .ok (.bipush 10, 2) := by decide +kernel
theorem dX9_copies_18 : decode cX9_copies 18 = .ok (.iaload, 1) := by decide +kernel
theorem dX9_copies_19 : decode cX9_copies 19 = .ok (.bipush 20, 2) := by decide +kernel
theorem dX9_copies_21 : decode cX9_copies 21 = .ok (.if_icmp .ne 5, 3) := by decide +kernel
theorem dX9_copies_24 : decode cX9_copies 24 = .ok (.iconst 2, 1) := by decide +kernel
theorem dX9_copies_25 : decode cX9_copies 25 = .ok (.ireturn, 1) := by decide +kernel
theorem dX9_copies_26 : decode cX9_copies 26 = .ok (.aload_n 0, 1) := by decide +kernel
theorem dX9_copies_27 : decode cX9_copies 27 = .ok (.bipush 10, 2) := by decide +kernel
theorem dX9_copies_29 : decode cX9_copies 29 = .ok (.aload_n 0, 1) := by decide +kernel
theorem dX9_copies_30 : decode cX9_copies 30 = .ok (.getfield 7, 3) := by decide +kernel
theorem dX9_copies_33 : decode cX9_copies 33 = .ok (.bipush 11, 2) := by decide +kernel
theorem dX9_copies_35 : decode cX9_copies 35 = .ok (.iload_n 1, 1) := by decide +kernel
theorem dX9_copies_36 : decode cX9_copies 36 = .ok (.iadd, 1) := by decide +kernel
theorem dX9_copies_37 : decode cX9_copies 37 = .ok (.iaload, 1) := by decide +kernel
theorem dX9_copies_38 : decode cX9_copies 38 = .ok (.invokevirtual 95, 3) := by decide +kernel
theorem dX9_copies_41 : decode cX9_copies 41 = .ok (.aload_n 0, 1) := by decide +kernel
theorem dX9_copies_42 : decode cX9_copies 42 = .ok (.aload_n 0, 1) := by decide +kernel
theorem dX9_copies_43 : decode cX9_copies 43 = .ok (.getfield 7, 3) := by decide +kernel
theorem dX9_copies_46 : decode cX9_copies 46 = .ok (.bipush 10, 2) := by decide +kernel
theorem dX9_copies_48 : decode cX9_copies 48 = .ok (.iaload, 1) := by decide +kernel
theorem dX9_copies_49 : decode cX9_copies 49 = .ok (.putfield 138, 3) := by decide +kernel
theorem dX9_copies_52 : decode cX9_copies 52 = .ok (.iconst 0, 1) := by decide +kernel
theorem dX9_copies_53 : decode cX9_copies 53 = .ok (.ireturn, 1) := by decide +kernel
theorem dX9_returns_0 : decode cX9_returns 0 = .ok (.aload_n 0, 1) := by decide +kernel
theorem dX9_returns_1 : decode cX9_returns 1 = .ok (.bipush 31, 2) := by decide +kernel
theorem dX9_returns_3 : decode cX9_returns 3 = .ok (.iload_n 1, 1) := by decide +kernel
theorem dX9_returns_4 : decode cX9_returns 4 = .ok (.invokevirtual 129, 3) := by decide +kernel
theorem dX9_returns_7 : decode cX9_returns 7 = .ok (.ifCond .ne 5, 3) := by decide +kernel
theorem dX9_returns_10 : decode cX9_returns 10 = .ok (.iconst 1, 1) := by decide +kernel
theorem dX9_returns_11 : decode cX9_returns 11 = .ok (.ireturn, 1) := by decide +kernel
theorem dX9_returns_12 : decode cX9_returns 12 = .ok (.aload_n 0, 1) := by decide +kernel
theorem dX9_returns_13 : decode cX9_returns 13 = .ok (.aload_n 0, 1) := by decide +kernel
theorem dX9_returns_14 : decode cX9_returns 14 = .ok (.bipush 31, 2) := by decide +kernel
theorem dX9_returns_16 : decode cX9_returns 16 = .ok (.iload_n 1, 1) := by decide +kernel
theorem dX9_returns_17 : decode cX9_returns 17 = .ok (.invokevirtual 132, 3) := by decide +kernel
theorem dX9_returns_20 : decode cX9_returns 20 = .ok (.putfield 138, 3) := by decide +kernel
theorem dX9_returns_23 : decode cX9_returns 23 = .ok (.aload_n 0, 1) := by decide +kernel
theorem dX9_returns_24 : decode cX9_returns 24 = .ok (.getfield 138, 3) := by decide +kernel
theorem dX9_returns_27 : decode cX9_returns 27 = .ok (.iconst (-1), 1) := by decide +kernel
theorem dX9_returns_28 : decode cX9_returns 28 = .ok (.if_icmp .ne 14, 3) := by decide +kernel
theorem dX9_returns_31 : decode cX9_returns 31 = .ok (.aload_n 0, 1) := by decide +kernel
theorem dX9_returns_32 : decode cX9_returns 32 = .ok (.getfield 7, 3) := by decide +kernel
theorem dX9_returns_35 : decode cX9_returns 35 = .ok (.bipush 8, 2) := by decide +kernel
theorem dX9_returns_37 : decode cX9_returns 37 = .ok (.iconst 1, 1) := by decide +kernel
theorem dX9_returns_38 : decode cX9_returns 38 = .ok (.iastore, 1) := by decide +kernel
theorem dX9_returns_39 : decode cX9_returns 39 = .ok (.goto 28, 3) := by decide +kernel
theorem dX9_returns_42 : decode cX9_returns 42 = .ok (.aload_n 0, 1) := by decide +kernel
theorem dX9_returns_43 : decode cX9_returns 43 = .ok (.getfield 138, 3) := by decide +kernel
theorem dX9_returns_46 : decode cX9_returns 46 = .ok (.aload_n 0, 1) := by decide +kernel
theorem dX9_returns_47 : decode cX9_returns 47 = .ok (.getfield 7, 3) := by decide +kernel
theorem dX9_returns_50 : decode cX9_returns 50 = .ok (.bipush 9, 2) := by decide +kernel
theorem dX9_returns_52 : decode cX9_returns 52 = .ok (.iaload, 1) := by decide +kernel
theorem dX9_returns_53 : decode cX9_returns 53 = .ok (.if_icmp .ge 14, 3) := by decide +kernel
theorem dX9_returns_56 : decode cX9_returns 56 = .ok (.aload_n 0, 1) := by decide +kernel
theorem dX9_returns_57 : decode cX9_returns 57 = .ok (.aload_n 0, 1) := by decide +kernel
theorem dX9_returns_58 : decode cX9_returns 58 = .ok (.getfield 138, 3) := by decide +kernel
theorem dX9_returns_61 : decode cX9_returns 61 = .ok (.bipush 9, 2) := by decide +kernel
theorem dX9_returns_63 : decode cX9_returns 63 = .ok (.iconst 1, 1) := by decide +kernel
theorem dX9_returns_64 : decode cX9_returns 64 = .ok (.invokevirtual 91, 3) := by decide +kernel
theorem dX9_returns_67 : decode cX9_returns 67 = .ok (.iconst 0, 1) := by decide +kernel
theorem dX9_returns_68 : decode cX9_returns 68 = .ok (.ireturn, 1) := by decide +kernel
theorem dX9_done_0 : decode cX9_done 0 = .ok (.iload_n 1, 1) := by decide +kernel
theorem dX9_done_1 : decode cX9_done 1 = .ok (.ifCond .le 11, 3) := by decide +kernel
theorem dX9_done_4 : decode cX9_done 4 = .ok (.aload_n 0, 1) := by decide +kernel
theorem dX9_done_5 : decode cX9_done 5 = .ok (.iload_n 1, 1) := by decide +kernel
theorem dX9_done_6 : decode cX9_done 6 = .ok (.invokevirtual 45, 3) := by decide +kernel
theorem dX9_done_9 : decode cX9_done 9 = .ok (.goto 11, 3) := by decide +kernel
theorem dX9_done_12 : decode cX9_done 12 = .ok (.aload_n 0, 1) := by decide +kernel
theorem dX9_done_13 : decode cX9_done 13 = .ok (.aload_n 0, 1) := by decide +kernel
theorem dX9_done_14 : decode cX9_done 14 = .ok (.getfield 138, 3) := by decide +kernel
theorem dX9_done_17 : decode cX9_done 17 = .ok (.invokevirtual 54, 3) := by decide +kernel
theorem dX9_done_20 : decode cX9_done 20 = .ok (.ireturn, 1) := by decide +kernel
theorem dX9_deliver_0 : decode cX9_deliver 0 = .ok (.aload_n 0, 1) := by decide +kernel
theorem dX9_deliver_1 : decode cX9_deliver 1 = .ok (.invokevirtual 51, 3) := by decide +kernel
theorem dX9_deliver_4 : decode cX9_deliver 4 = .ok (.aload_n 0, 1) := by decide +kernel
theorem dX9_deliver_5 : decode cX9_deliver 5 = .ok (.aload_n 0, 1) := by decide +kernel
theorem dX9_deliver_6 : decode cX9_deliver 6 = .ok (.iload_n 1, 1) := by decide +kernel
theorem dX9_deliver_7 : decode cX9_deliver 7 = .ok (.invokevirtual 141, 3) := by decide +kernel
theorem dX9_deliver_10 : decode cX9_deliver 10 = .ok (.invokevirtual 144, 3) := by decide +kernel
theorem dX9_deliver_13 : decode cX9_deliver 13 = .ok (.ireturn, 1) := by decide +kernel
theorem dX9_deliverAll_0 : decode cX9_deliverAll 0 = .ok (.aload_n 0, 1) := by decide +kernel
theorem dX9_deliverAll_1 : decode cX9_deliverAll 1 = .ok (.invokevirtual 51, 3) := by decide +kernel
theorem dX9_deliverAll_4 : decode cX9_deliverAll 4 = .ok (.iconst 0, 1) := by decide +kernel
theorem dX9_deliverAll_5 : decode cX9_deliverAll 5 = .ok (.istore_n 1, 1) := by decide +kernel
theorem dX9_deliverAll_6 : decode cX9_deliverAll 6 = .ok (.aload_n 0, 1) := by decide +kernel
theorem dX9_deliverAll_7 : decode cX9_deliverAll 7 = .ok (.getfield 7, 3) := by decide +kernel
theorem dX9_deliverAll_10 : decode cX9_deliverAll 10 = .ok (.bipush 10, 2) := by decide +kernel
theorem dX9_deliverAll_12 : decode cX9_deliverAll 12 = .ok (.iaload, 1) := by decide +kernel
theorem dX9_deliverAll_13 : decode cX9_deliverAll 13 = .ok (.ifCond .le 29, 3) := by decide +kernel
theorem dX9_deliverAll_16 : decode cX9_deliverAll 16 = .ok (.iload_n 1, 1) := by decide +kernel
theorem dX9_deliverAll_17 : decode cX9_deliverAll 17 = .ok (.aload_n 0, 1) := by decide +kernel
theorem dX9_deliverAll_18 : decode cX9_deliverAll 18 = .ok (.aload_n 0, 1) := by decide +kernel
theorem dX9_deliverAll_19 : decode cX9_deliverAll 19 = .ok (.bipush 10, 2) := by decide +kernel
theorem dX9_deliverAll_21 : decode cX9_deliverAll 21 = .ok (.iconst 0, 1) := by decide +kernel
theorem dX9_deliverAll_22 : decode cX9_deliverAll 22 = .ok (.invokevirtual 132, 3) := by decide +kernel
theorem dX9_deliverAll_25 : decode cX9_deliverAll 25 = .ok (.invokevirtual 135, 3) := by decide +kernel
theorem dX9_deliverAll_28 : decode cX9_deliverAll 28 = .ok (.iconst 2, 1) := by decide +kernel
theorem dX9_deliverAll_29 : decode cX9_deliverAll 29 = .ok (.if_icmp .ge 7, 3) := by decide +kernel
theorem dX9_deliverAll_32 : decode cX9_deliverAll 32 = .ok (.iconst 1, 1) := by decide +kernel
theorem dX9_deliverAll_33 : decode cX9_deliverAll 33 = .ok (.goto 4, 3) := by decide +kernel
theorem dX9_deliverAll_36 : decode cX9_deliverAll 36 = .ok (.iconst 0, 1) := by decide +kernel
theorem dX9_deliverAll_37 : decode cX9_deliverAll 37 = .ok (.iadd, 1) := by decide +kernel
theorem dX9_deliverAll_38 : decode cX9_deliverAll 38 = .ok (.istore_n 1, 1) := by decide +kernel
theorem dX9_deliverAll_39 : decode cX9_deliverAll 39 = .ok (.goto (-33), 3) := by decide +kernel
theorem dX9_deliverAll_42 : decode cX9_deliverAll 42 = .ok (.aload_n 0, 1) := by decide +kernel
theorem dX9_deliverAll_43 : decode cX9_deliverAll 43 = .ok (.iload_n 1, 1) := by decide +kernel
theorem dX9_deliverAll_44 : decode cX9_deliverAll 44 = .ok (.invokevirtual 54, 3) := by decide +kernel
theorem dX9_deliverAll_47 : decode cX9_deliverAll 47 = .ok (.ireturn, 1) := by decide +kernel
theorem dX9_lose_0 : decode cX9_lose 0 = .ok (.aload_n 0, 1) := by decide +kernel
theorem dX9_lose_1 : decode cX9_lose 1 = .ok (.invokevirtual 51, 3) := by decide +kernel
theorem dX9_lose_4 : decode cX9_lose 4 = .ok (.aload_n 0, 1) := by decide +kernel
theorem dX9_lose_5 : decode cX9_lose 5 = .ok (.aload_n 0, 1) := by decide +kernel
theorem dX9_lose_6 : decode cX9_lose 6 = .ok (.bipush 10, 2) := by decide +kernel
theorem dX9_lose_8 : decode cX9_lose 8 = .ok (.iload_n 1, 1) := by decide +kernel
theorem dX9_lose_9 : decode cX9_lose 9 = .ok (.invokevirtual 147, 3) := by decide +kernel
theorem dX9_lose_12 : decode cX9_lose 12 = .ok (.invokevirtual 144, 3) := by decide +kernel
theorem dX9_lose_15 : decode cX9_lose 15 = .ok (.ireturn, 1) := by decide +kernel
theorem dX9_copy_0 : decode cX9_copy 0 = .ok (.aload_n 0, 1) := by decide +kernel
theorem dX9_copy_1 : decode cX9_copy 1 = .ok (.invokevirtual 51, 3) := by decide +kernel
theorem dX9_copy_4 : decode cX9_copy 4 = .ok (.aload_n 0, 1) := by decide +kernel
theorem dX9_copy_5 : decode cX9_copy 5 = .ok (.aload_n 0, 1) := by decide +kernel
theorem dX9_copy_6 : decode cX9_copy 6 = .ok (.iload_n 1, 1) := by decide +kernel
theorem dX9_copy_7 : decode cX9_copy 7 = .ok (.invokevirtual 150, 3) := by decide +kernel
theorem dX9_copy_10 : decode cX9_copy 10 = .ok (.invokevirtual 144, 3) := by decide +kernel
theorem dX9_copy_13 : decode cX9_copy 13 = .ok (.ireturn, 1) := by decide +kernel
theorem dX9_deliverBack_0 : decode cX9_deliverBack 0 = .ok (.aload_n 0, 1) := by decide +kernel
theorem dX9_deliverBack_1 : decode cX9_deliverBack 1 = .ok (.invokevirtual 51, 3) := by decide +kernel
theorem dX9_deliverBack_4 : decode cX9_deliverBack 4 = .ok (.aload_n 0, 1) := by decide +kernel
theorem dX9_deliverBack_5 : decode cX9_deliverBack 5 = .ok (.aload_n 0, 1) := by decide +kernel
theorem dX9_deliverBack_6 : decode cX9_deliverBack 6 = .ok (.iload_n 1, 1) := by decide +kernel
theorem dX9_deliverBack_7 : decode cX9_deliverBack 7 = .ok (.invokevirtual 153, 3) := by decide +kernel
theorem dX9_deliverBack_10 : decode cX9_deliverBack 10 = .ok (.invokevirtual 144, 3) := by decide +kernel
theorem dX9_deliverBack_13 : decode cX9_deliverBack 13 = .ok (.ireturn, 1) := by decide +kernel
theorem dX9_loseBack_0 : decode cX9_loseBack 0 = .ok (.aload_n 0, 1) := by decide +kernel
theorem dX9_loseBack_1 : decode cX9_loseBack 1 = .ok (.invokevirtual 51, 3) := by decide +kernel
theorem dX9_loseBack_4 : decode cX9_loseBack 4 = .ok (.aload_n 0, 1) := by decide +kernel
theorem dX9_loseBack_5 : decode cX9_loseBack 5 = .ok (.aload_n 0, 1) := by decide +kernel
theorem dX9_loseBack_6 : decode cX9_loseBack 6 = .ok (.bipush 31, 2) := by decide +kernel
theorem dX9_loseBack_8 : decode cX9_loseBack 8 = .ok (.iload_n 1, 1) := by decide +kernel
theorem dX9_loseBack_9 : decode cX9_loseBack 9 = .ok (.invokevirtual 147, 3) := by decide +kernel
theorem dX9_loseBack_12 : decode cX9_loseBack 12 = .ok (.invokevirtual 144, 3) := by decide +kernel
theorem dX9_loseBack_15 : decode cX9_loseBack 15 = .ok (.ireturn, 1) := by decide +kernel
theorem dX9_waiting_0 : decode cX9_waiting 0 = .ok (.aload_n 0, 1) := by decide +kernel
theorem dX9_waiting_1 : decode cX9_waiting 1 = .ok (.aload_n 0, 1) := by decide +kernel
theorem dX9_waiting_2 : decode cX9_waiting 2 = .ok (.getfield 7, 3) := by decide +kernel
theorem dX9_waiting_5 : decode cX9_waiting 5 = .ok (.iload_n 1, 1) := by decide +kernel
theorem dX9_waiting_6 : decode cX9_waiting 6 = .ok (.ifCond .eq 8, 3) := by decide +kernel
theorem dX9_waiting_9 : decode cX9_waiting 9 = .ok (.bipush 31, 2) := by decide +kernel
theorem dX9_waiting_11 : decode cX9_waiting 11 = .ok (.goto 5, 3) := by decide +kernel
theorem dX9_waiting_14 : decode cX9_waiting 14 = .ok (.bipush 10, 2) := by decide +kernel
theorem dX9_waiting_16 : decode cX9_waiting 16 = .ok (.iaload, 1) := by decide +kernel
theorem dX9_waiting_17 : decode cX9_waiting 17 = .ok (.invokevirtual 32, 3) := by decide +kernel
theorem dX9_waiting_20 : decode cX9_waiting 20 = .ok (.ireturn, 1) := by decide +kernel
theorem dX9_waitingAt_0 : decode cX9_waitingAt 0 = .ok (.iload_n 1, 1) := by decide +kernel
theorem dX9_waitingAt_1 : decode cX9_waitingAt 1 = .ok (.ifCond .eq 8, 3) := by decide +kernel
theorem dX9_waitingAt_4 : decode cX9_waitingAt 4 = .ok (.bipush 31, 2) := by decide +kernel
theorem dX9_waitingAt_6 : decode cX9_waitingAt 6 = .ok (.goto 5, 3) := by decide +kernel
theorem dX9_waitingAt_9 : decode cX9_waitingAt 9 = .ok (.bipush 10, 2) := by decide +kernel
theorem dX9_waitingAt_11 : decode cX9_waitingAt 11 = .ok (.istore_n 3, 1) := by decide +kernel
theorem dX9_waitingAt_12 : decode cX9_waitingAt 12 = .ok (.aload_n 0, 1) := by decide +kernel
theorem dX9_waitingAt_13 : decode cX9_waitingAt 13 = .ok (.iload_n 3, 1) := by decide +kernel
theorem dX9_waitingAt_14 : decode cX9_waitingAt 14 = .ok (.iload_n 2, 1) := by decide +kernel
theorem dX9_waitingAt_15 : decode cX9_waitingAt 15 = .ok (.invokevirtual 129, 3) := by decide +kernel
theorem dX9_waitingAt_18 : decode cX9_waitingAt 18 = .ok (.ifCond .eq 20, 3) := by decide +kernel
theorem dX9_waitingAt_21 : decode cX9_waitingAt 21 = .ok (.aload_n 0, 1) := by decide +kernel
theorem dX9_waitingAt_22 : decode cX9_waitingAt 22 = .ok (.aload_n 0, 1) := by decide +kernel
theorem dX9_waitingAt_23 : decode cX9_waitingAt 23 = .ok (.getfield 7, 3) := by decide +kernel
theorem dX9_waitingAt_26 : decode cX9_waitingAt 26 = .ok (.iload_n 3, 1) := by decide +kernel
theorem dX9_waitingAt_27 : decode cX9_waitingAt 27 = .ok (.iconst 1, 1) := by decide +kernel
theorem dX9_waitingAt_28 : decode cX9_waitingAt 28 = .ok (.iadd, 1) := by decide +kernel
theorem dX9_waitingAt_29 : decode cX9_waitingAt 29 = .ok (.iload_n 2, 1) := by decide +kernel
theorem dX9_waitingAt_30 : decode cX9_waitingAt 30 = .ok (.iadd, 1) := by decide +kernel
theorem dX9_waitingAt_31 : decode cX9_waitingAt 31 = .ok (.iaload, 1) := by decide +kernel
theorem dX9_waitingAt_32 : decode cX9_waitingAt 32 = .ok (.invokevirtual 32, 3) := by decide +kernel
theorem dX9_waitingAt_35 : decode cX9_waitingAt 35 = .ok (.goto 8, 3) := by decide +kernel
theorem dX9_waitingAt_38 : decode cX9_waitingAt 38 = .ok (.aload_n 0, 1) := by decide +kernel
theorem dX9_waitingAt_39 : decode cX9_waitingAt 39 = .ok (.iconst 1, 1) := by decide +kernel
theorem dX9_waitingAt_40 : decode cX9_waitingAt 40 = .ok (.invokevirtual 45, 3) := by decide +kernel
theorem dX9_waitingAt_43 : decode cX9_waitingAt 43 = .ok (.ireturn, 1) := by decide +kernel
theorem dX9_setReceiver_0 : decode cX9_setReceiver 0 = .ok (.iload_n 1, 1) := by decide +kernel
theorem dX9_setReceiver_1 : decode cX9_setReceiver 1 = .ok (.iconst 0, 1) := by decide +kernel
theorem dX9_setReceiver_2 : decode cX9_setReceiver 2 = .ok (.bipush 15, 2) := by decide +kernel
theorem dX9_setReceiver_4 : decode cX9_setReceiver 4 = .ok (.invokestatic 41, 3) := by decide +kernel
theorem dX9_setReceiver_7 : decode cX9_setReceiver 7 = .ok (.ifCond .eq 23, 3) := by decide +kernel
theorem dX9_setReceiver_10 : decode cX9_setReceiver 10 = .ok (.iload_n 2, 1) := by decide +kernel
theorem dX9_setReceiver_11 : decode cX9_setReceiver 11 = .ok (.iconst 1, 1) := by decide +kernel
theorem dX9_setReceiver_12 : decode cX9_setReceiver 12 = .ok (.bipush 16, 2) := by decide +kernel
theorem dX9_setReceiver_14 : decode cX9_setReceiver 14 = .ok (.invokestatic 41, 3) := by decide +kernel
theorem dX9_setReceiver_17 : decode cX9_setReceiver 17 = .ok (.ifCond .eq 13, 3) := by decide +kernel
theorem dX9_setReceiver_20 : decode cX9_setReceiver 20 = .ok (.iload_n 3, 1) := by decide +kernel
theorem dX9_setReceiver_21 : decode cX9_setReceiver 21 = .ok (.iconst 1, 1) := by decide +kernel
theorem dX9_setReceiver_22 : decode cX9_setReceiver 22 = .ok (.bipush 8, 2) := by decide +kernel
theorem dX9_setReceiver_24 : decode cX9_setReceiver 24 = .ok (.invokestatic 41, 3) := by decide +kernel
theorem dX9_setReceiver_27 : decode cX9_setReceiver 27 = .ok (.ifCond .ne 9, 3) := by decide +kernel
theorem dX9_setReceiver_30 : decode cX9_setReceiver 30 = .ok (.aload_n 0, 1) := by decide +kernel
theorem dX9_setReceiver_31 : decode cX9_setReceiver 31 = .ok (.iconst 1, 1) := by decide +kernel
theorem dX9_setReceiver_32 : decode cX9_setReceiver 32 = .ok (.invokevirtual 45, 3) := by decide +kernel
theorem dX9_setReceiver_35 : decode cX9_setReceiver 35 = .ok (.ireturn, 1) := by decide +kernel
theorem dX9_setReceiver_36 : decode cX9_setReceiver 36 = .ok (.aload_n 0, 1) := by decide +kernel
theorem dX9_setReceiver_37 : decode cX9_setReceiver 37 = .ok (.invokevirtual 51, 3) := by decide +kernel
theorem dX9_setReceiver_40 : decode cX9_setReceiver 40 = .ok (.aload_n 0, 1) := by decide +kernel
theorem dX9_setReceiver_41 : decode cX9_setReceiver 41 = .ok (.getfield 7, 3) := by decide +kernel
theorem dX9_setReceiver_44 : decode cX9_setReceiver 44 = .ok (.bipush 52, 2) := by decide +kernel
theorem dX9_setReceiver_46 : decode cX9_setReceiver 46 = .ok (.iaload, 1) := by decide +kernel
theorem dX9_setReceiver_47 : decode cX9_setReceiver 47 = .ok (.istore 4, 2) := by decide +kernel
theorem dX9_setReceiver_49 : decode cX9_setReceiver 49 = .ok (.aload_n 0, 1) := by decide +kernel
theorem dX9_setReceiver_50 : decode cX9_setReceiver 50 = .ok (.getfield 7, 3) := by decide +kernel
theorem dX9_setReceiver_53 : decode cX9_setReceiver 53 = .ok (.bipush 52, 2) := by decide +kernel
theorem dX9_setReceiver_55 : decode cX9_setReceiver 55 = .ok (.iload_n 1, 1) := by decide +kernel
theorem dX9_setReceiver_56 : decode cX9_setReceiver 56 = .ok (.iastore, 1) := by decide +kernel
theorem dX9_setReceiver_57 : decode cX9_setReceiver 57 = .ok (.aload_n 0, 1) := by decide +kernel
theorem dX9_setReceiver_58 : decode cX9_setReceiver 58 = .ok (.getfield 7, 3) := by decide +kernel
theorem dX9_setReceiver_61 : decode cX9_setReceiver 61 = .ok (.bipush 53, 2) := by decide +kernel
theorem dX9_setReceiver_63 : decode cX9_setReceiver 63 = .ok (.iload_n 2, 1) := by decide +kernel
theorem dX9_setReceiver_64 : decode cX9_setReceiver 64 = .ok (.iastore, 1) := by decide +kernel
theorem dX9_setReceiver_65 : decode cX9_setReceiver 65 = .ok (.aload_n 0, 1) := by decide +kernel
theorem dX9_setReceiver_66 : decode cX9_setReceiver 66 = .ok (.getfield 7, 3) := by decide +kernel
theorem dX9_setReceiver_69 : decode cX9_setReceiver 69 = .ok (.bipush 54, 2) := by decide +kernel
theorem dX9_setReceiver_71 : decode cX9_setReceiver 71 = .ok (.iload_n 3, 1) := by decide +kernel
theorem dX9_setReceiver_72 : decode cX9_setReceiver 72 = .ok (.iastore, 1) := by decide +kernel
theorem dX9_setReceiver_73 : decode cX9_setReceiver 73 = .ok (.aload_n 0, 1) := by decide +kernel
theorem dX9_setReceiver_74 : decode cX9_setReceiver 74 = .ok (.iload 4, 2) := by decide +kernel
theorem dX9_setReceiver_76 : decode cX9_setReceiver 76 = .ok (.invokevirtual 54, 3) := by decide +kernel
theorem dX9_setReceiver_79 : decode cX9_setReceiver 79 = .ok (.ireturn, 1) := by decide +kernel
theorem dX9_highest_0 : decode cX9_highest 0 = .ok (.aload_n 0, 1) := by decide +kernel
theorem dX9_highest_1 : decode cX9_highest 1 = .ok (.aload_n 0, 1) := by decide +kernel
theorem dX9_highest_2 : decode cX9_highest 2 = .ok (.getfield 7, 3) := by decide +kernel
theorem dX9_highest_5 : decode cX9_highest 5 = .ok (.bipush 55, 2) := by decide +kernel
theorem dX9_highest_7 : decode cX9_highest 7 = .ok (.iaload, 1) := by decide +kernel
theorem dX9_highest_8 : decode cX9_highest 8 = .ok (.invokevirtual 32, 3) := by decide +kernel
theorem dX9_highest_11 : decode cX9_highest 11 = .ok (.ireturn, 1) := by decide +kernel
theorem dX9_recordOf_0 : decode cX9_recordOf 0 = .ok (.aload_n 0, 1) := by decide +kernel
theorem dX9_recordOf_1 : decode cX9_recordOf 1 = .ok (.iload_n 1, 1) := by decide +kernel
theorem dX9_recordOf_2 : decode cX9_recordOf 2 = .ok (.invokevirtual 116, 3) := by decide +kernel
theorem dX9_recordOf_5 : decode cX9_recordOf 5 = .ok (.istore_n 3, 1) := by decide +kernel
theorem dX9_recordOf_6 : decode cX9_recordOf 6 = .ok (.iload_n 3, 1) := by decide +kernel
theorem dX9_recordOf_7 : decode cX9_recordOf 7 = .ok (.iconst (-1), 1) := by decide +kernel
theorem dX9_recordOf_8 : decode cX9_recordOf 8 = .ok (.if_icmp .ne 7, 3) := by decide +kernel
theorem dX9_recordOf_11 : decode cX9_recordOf 11 = .ok (.iconst (-1), 1) := by decide +kernel
theorem dX9_recordOf_12 : decode cX9_recordOf 12 = .ok (.goto 13, 3) := by decide +kernel
theorem dX9_recordOf_15 : decode cX9_recordOf 15 = .ok (.aload_n 0, 1) := by decide +kernel
theorem dX9_recordOf_16 : decode cX9_recordOf 16 = .ok (.getfield 7, 3) := by decide +kernel
theorem dX9_recordOf_19 : decode cX9_recordOf 19 = .ok (.iload_n 3, 1) := by decide +kernel
theorem dX9_recordOf_20 : decode cX9_recordOf 20 = .ok (.iconst 1, 1) := by decide +kernel
theorem dX9_recordOf_21 : decode cX9_recordOf 21 = .ok (.iadd, 1) := by decide +kernel
theorem dX9_recordOf_22 : decode cX9_recordOf 22 = .ok (.iload_n 2, 1) := by decide +kernel
theorem dX9_recordOf_23 : decode cX9_recordOf 23 = .ok (.iadd, 1) := by decide +kernel
theorem dX9_recordOf_24 : decode cX9_recordOf 24 = .ok (.iaload, 1) := by decide +kernel
theorem dX9_recordOf_25 : decode cX9_recordOf 25 = .ok (.ireturn, 1) := by decide +kernel
theorem dX9_record_0 : decode cX9_record 0 = .ok (.iload_n 1, 1) := by decide +kernel
theorem dX9_record_1 : decode cX9_record 1 = .ok (.iconst 0, 1) := by decide +kernel
theorem dX9_record_2 : decode cX9_record 2 = .ok (.sipush 999, 3) := by decide +kernel
theorem dX9_record_5 : decode cX9_record 5 = .ok (.invokestatic 41, 3) := by decide +kernel
theorem dX9_record_8 : decode cX9_record 8 = .ok (.ifCond .eq 25, 3) := by decide +kernel
theorem dX9_record_11 : decode cX9_record 11 = .ok (.iload_n 2, 1) := by decide +kernel
theorem dX9_record_12 : decode cX9_record 12 = .ok (.iconst 0, 1) := by decide +kernel
theorem dX9_record_13 : decode cX9_record 13 = .ok (.iconst 5, 1) := by decide +kernel
theorem dX9_record_14 : decode cX9_record 14 = .ok (.invokestatic 41, 3) := by decide +kernel
theorem dX9_record_17 : decode cX9_record 17 = .ok (.ifCond .eq 16, 3) := by decide +kernel
theorem dX9_record_20 : decode cX9_record 20 = .ok (.aload_n 0, 1) := by decide +kernel
theorem dX9_record_21 : decode cX9_record 21 = .ok (.aload_n 0, 1) := by decide +kernel
theorem dX9_record_22 : decode cX9_record 22 = .ok (.iload_n 1, 1) := by decide +kernel
theorem dX9_record_23 : decode cX9_record 23 = .ok (.iload_n 2, 1) := by decide +kernel
theorem dX9_record_24 : decode cX9_record 24 = .ok (.invokevirtual 156, 3) := by decide +kernel
theorem dX9_record_27 : decode cX9_record 27 = .ok (.invokevirtual 32, 3) := by decide +kernel
theorem dX9_record_30 : decode cX9_record 30 = .ok (.goto 8, 3) := by decide +kernel
theorem dX9_record_33 : decode cX9_record 33 = .ok (.aload_n 0, 1) := by decide +kernel
theorem dX9_record_34 : decode cX9_record 34 = .ok (.iconst 1, 1) := by decide +kernel
theorem dX9_record_35 : decode cX9_record 35 = .ok (.invokevirtual 45, 3) := by decide +kernel
theorem dX9_record_38 : decode cX9_record 38 = .ok (.ireturn, 1) := by decide +kernel
theorem dX9_keptMany_0 : decode cX9_keptMany 0 = .ok (.iconst 0, 1) := by decide +kernel
theorem dX9_keptMany_1 : decode cX9_keptMany 1 = .ok (.istore_n 1, 1) := by decide +kernel
theorem dX9_keptMany_2 : decode cX9_keptMany 2 = .ok (.iconst 0, 1) := by decide +kernel
theorem dX9_keptMany_3 : decode cX9_keptMany 3 = .ok (.istore_n 2, 1) := by decide +kernel
theorem dX9_keptMany_4 : decode cX9_keptMany 4 = .ok (.iload_n 2, 1) := by decide +kernel
theorem dX9_keptMany_5 : decode cX9_keptMany 5 = .ok (.bipush 64, 2) := by decide +kernel
theorem dX9_keptMany_7 : decode cX9_keptMany 7 = .ok (.if_icmp .ge 33, 3) := by decide +kernel
theorem dX9_keptMany_10 : decode cX9_keptMany 10 = .ok (.iload_n 1, 1) := by decide +kernel
theorem dX9_keptMany_11 : decode cX9_keptMany 11 = .ok (.aload_n 0, 1) := by decide +kernel
theorem dX9_keptMany_12 : decode cX9_keptMany 12 = .ok (.getfield 7, 3) := by decide +kernel
theorem dX9_keptMany_15 : decode cX9_keptMany 15 = .ok (.bipush 66, 2) := by decide +kernel
theorem dX9_keptMany_17 : decode cX9_keptMany 17 = .ok (.bipush 7, 2) := by decide +kernel
theorem dX9_keptMany_19 : decode cX9_keptMany 19 = .ok (.iload_n 2, 1) := by decide +kernel
theorem dX9_keptMany_20 : decode cX9_keptMany 20 = .ok (.imul, 1) := by decide +kernel
theorem dX9_keptMany_21 : decode cX9_keptMany 21 = .ok (.iadd, 1) := by decide +kernel
theorem dX9_keptMany_22 : decode cX9_keptMany 22 = .ok (.iaload, 1) := by decide +kernel
theorem dX9_keptMany_23 : decode cX9_keptMany 23 = .ok (.iconst (-1), 1) := by decide +kernel
theorem dX9_keptMany_24 : decode cX9_keptMany 24 = .ok (.if_icmp .ne 7, 3) := by decide +kernel
theorem dX9_keptMany_27 : decode cX9_keptMany 27 = .ok (.iconst 0, 1) := by decide +kernel
theorem dX9_keptMany_28 : decode cX9_keptMany 28 = .ok (.goto 4, 3) := by decide +kernel
theorem dX9_keptMany_31 : decode cX9_keptMany 31 = .ok (.iconst 1, 1) := by decide +kernel
theorem dX9_keptMany_32 : decode cX9_keptMany 32 = .ok (.iadd, 1) := by decide +kernel
theorem dX9_keptMany_33 : decode cX9_keptMany 33 = .ok (.istore_n 1, 1) := by decide +kernel
theorem dX9_keptMany_34 : decode cX9_keptMany 34 = .ok (.iinc 2 1, 3) := by decide +kernel
theorem dX9_keptMany_37 : decode cX9_keptMany 37 = .ok (.goto (-33), 3) := by decide +kernel
theorem dX9_keptMany_40 : decode cX9_keptMany 40 = .ok (.iload_n 1, 1) := by decide +kernel
theorem dX9_keptMany_41 : decode cX9_keptMany 41 = .ok (.ireturn, 1) := by decide +kernel
theorem dX9_records_0 : decode cX9_records 0 = .ok (.aload_n 0, 1) := by decide +kernel
theorem dX9_records_1 : decode cX9_records 1 = .ok (.aload_n 0, 1) := by decide +kernel
theorem dX9_records_2 : decode cX9_records 2 = .ok (.invokevirtual 159, 3) := by decide +kernel
theorem dX9_records_5 : decode cX9_records 5 = .ok (.invokevirtual 32, 3) := by decide +kernel
theorem dX9_records_8 : decode cX9_records 8 = .ok (.ireturn, 1) := by decide +kernel
theorem dX9_numberFor_0 : decode cX9_numberFor 0 = .ok (.iload_n 1, 1) := by decide +kernel
theorem dX9_numberFor_1 : decode cX9_numberFor 1 = .ok (.iconst 0, 1) := by decide +kernel
theorem dX9_numberFor_2 : decode cX9_numberFor 2 = .ok (.bipush 63, 2) := by decide +kernel
theorem dX9_numberFor_4 : decode cX9_numberFor 4 = .ok (.invokestatic 41, 3) := by decide +kernel
theorem dX9_numberFor_7 : decode cX9_numberFor 7 = .ok (.ifCond .eq 15, 3) := by decide +kernel
theorem dX9_numberFor_10 : decode cX9_numberFor 10 = .ok (.aload_n 0, 1) := by decide +kernel
theorem dX9_numberFor_11 : decode cX9_numberFor 11 = .ok (.aload_n 0, 1) := by decide +kernel
theorem dX9_numberFor_12 : decode cX9_numberFor 12 = .ok (.iload_n 1, 1) := by decide +kernel
theorem dX9_numberFor_13 : decode cX9_numberFor 13 = .ok (.invokevirtual 113, 3) := by decide +kernel
theorem dX9_numberFor_16 : decode cX9_numberFor 16 = .ok (.invokevirtual 32, 3) := by decide +kernel
theorem dX9_numberFor_19 : decode cX9_numberFor 19 = .ok (.goto 8, 3) := by decide +kernel
theorem dX9_numberFor_22 : decode cX9_numberFor 22 = .ok (.aload_n 0, 1) := by decide +kernel
theorem dX9_numberFor_23 : decode cX9_numberFor 23 = .ok (.iconst 1, 1) := by decide +kernel
theorem dX9_numberFor_24 : decode cX9_numberFor 24 = .ok (.invokevirtual 45, 3) := by decide +kernel
theorem dX9_numberFor_27 : decode cX9_numberFor 27 = .ok (.ireturn, 1) := by decide +kernel
theorem dX9_counted_0 : decode cX9_counted 0 = .ok (.iload_n 1, 1) := by decide +kernel
theorem dX9_counted_1 : decode cX9_counted 1 = .ok (.ifCond .ne 13, 3) := by decide +kernel
theorem dX9_counted_4 : decode cX9_counted 4 = .ok (.aload_n 0, 1) := by decide +kernel
theorem dX9_counted_5 : decode cX9_counted 5 = .ok (.getfield 7, 3) := by decide +kernel
theorem dX9_counted_8 : decode cX9_counted 8 = .ok (.bipush 9, 2) := by decide +kernel
theorem dX9_counted_10 : decode cX9_counted 10 = .ok (.iaload, 1) := by decide +kernel
theorem dX9_counted_11 : decode cX9_counted 11 = .ok (.goto 14, 3) := by decide +kernel
theorem dX9_counted_14 : decode cX9_counted 14 = .ok (.aload_n 0, 1) := by decide +kernel
theorem dX9_counted_15 : decode cX9_counted 15 = .ok (.getfield 7, 3) := by decide +kernel
theorem dX9_counted_18 : decode cX9_counted 18 = .ok (.bipush 57, 2) := by decide +kernel
theorem dX9_counted_20 : decode cX9_counted 20 = .ok (.iload_n 1, 1) := by decide +kernel
theorem dX9_counted_21 : decode cX9_counted 21 = .ok (.iadd, 1) := by decide +kernel
theorem dX9_counted_22 : decode cX9_counted 22 = .ok (.iconst 1, 1) := by decide +kernel
theorem dX9_counted_23 : decode cX9_counted 23 = .ok (.isub, 1) := by decide +kernel
theorem dX9_counted_24 : decode cX9_counted 24 = .ok (.iaload, 1) := by decide +kernel
theorem dX9_counted_25 : decode cX9_counted 25 = .ok (.ireturn, 1) := by decide +kernel
theorem dX9_count_0 : decode cX9_count 0 = .ok (.iload_n 1, 1) := by decide +kernel
theorem dX9_count_1 : decode cX9_count 1 = .ok (.iconst 0, 1) := by decide +kernel
theorem dX9_count_2 : decode cX9_count 2 = .ok (.bipush 7, 2) := by decide +kernel
theorem dX9_count_4 : decode cX9_count 4 = .ok (.invokestatic 41, 3) := by decide +kernel
theorem dX9_count_7 : decode cX9_count 7 = .ok (.ifCond .eq 15, 3) := by decide +kernel
theorem dX9_count_10 : decode cX9_count 10 = .ok (.aload_n 0, 1) := by decide +kernel
theorem dX9_count_11 : decode cX9_count 11 = .ok (.aload_n 0, 1) := by decide +kernel
theorem dX9_count_12 : decode cX9_count 12 = .ok (.iload_n 1, 1) := by decide +kernel
theorem dX9_count_13 : decode cX9_count 13 = .ok (.invokevirtual 162, 3) := by decide +kernel
theorem dX9_count_16 : decode cX9_count 16 = .ok (.invokevirtual 32, 3) := by decide +kernel
theorem dX9_count_19 : decode cX9_count 19 = .ok (.goto 8, 3) := by decide +kernel
theorem dX9_count_22 : decode cX9_count 22 = .ok (.aload_n 0, 1) := by decide +kernel
theorem dX9_count_23 : decode cX9_count 23 = .ok (.iconst 1, 1) := by decide +kernel
theorem dX9_count_24 : decode cX9_count 24 = .ok (.invokevirtual 45, 3) := by decide +kernel
theorem dX9_count_27 : decode cX9_count 27 = .ok (.ireturn, 1) := by decide +kernel
theorem dX9_spared_0 : decode cX9_spared 0 = .ok (.bipush 6, 2) := by decide +kernel
theorem dX9_spared_2 : decode cX9_spared 2 = .ok (.aload_n 0, 1) := by decide +kernel
theorem dX9_spared_3 : decode cX9_spared 3 = .ok (.getfield 7, 3) := by decide +kernel
theorem dX9_spared_6 : decode cX9_spared 6 = .ok (.bipush 9, 2) := by decide +kernel
theorem dX9_spared_8 : decode cX9_spared 8 = .ok (.iaload, 1) := by decide +kernel
theorem dX9_spared_9 : decode cX9_spared 9 = .ok (.imul, 1) := by decide +kernel
theorem dX9_spared_10 : decode cX9_spared 10 = .ok (.aload_n 0, 1) := by decide +kernel
theorem dX9_spared_11 : decode cX9_spared 11 = .ok (.getfield 7, 3) := by decide +kernel
theorem dX9_spared_14 : decode cX9_spared 14 = .ok (.bipush 64, 2) := by decide +kernel
theorem dX9_spared_16 : decode cX9_spared 16 = .ok (.iaload, 1) := by decide +kernel
theorem dX9_spared_17 : decode cX9_spared 17 = .ok (.isub, 1) := by decide +kernel
theorem dX9_spared_18 : decode cX9_spared 18 = .ok (.ireturn, 1) := by decide +kernel
theorem dX9_saved_0 : decode cX9_saved 0 = .ok (.aload_n 0, 1) := by decide +kernel
theorem dX9_saved_1 : decode cX9_saved 1 = .ok (.aload_n 0, 1) := by decide +kernel
theorem dX9_saved_2 : decode cX9_saved 2 = .ok (.invokevirtual 165, 3) := by decide +kernel
theorem dX9_saved_5 : decode cX9_saved 5 = .ok (.invokevirtual 32, 3) := by decide +kernel
theorem dX9_saved_8 : decode cX9_saved 8 = .ok (.ireturn, 1) := by decide +kernel
theorem dX9_lateness_0 : decode cX9_lateness 0 = .ok (.aload_n 0, 1) := by decide +kernel
theorem dX9_lateness_1 : decode cX9_lateness 1 = .ok (.aload_n 0, 1) := by decide +kernel
theorem dX9_lateness_2 : decode cX9_lateness 2 = .ok (.getfield 7, 3) := by decide +kernel
theorem dX9_lateness_5 : decode cX9_lateness 5 = .ok (.bipush 65, 2) := by decide +kernel
theorem dX9_lateness_7 : decode cX9_lateness 7 = .ok (.iaload, 1) := by decide +kernel
theorem dX9_lateness_8 : decode cX9_lateness 8 = .ok (.invokevirtual 32, 3) := by decide +kernel
theorem dX9_lateness_11 : decode cX9_lateness 11 = .ok (.ireturn, 1) := by decide +kernel
theorem dX9_meanSize_0 : decode cX9_meanSize 0 = .ok (.aload_n 0, 1) := by decide +kernel
theorem dX9_meanSize_1 : decode cX9_meanSize 1 = .ok (.iconst 0, 1) := by decide +kernel
theorem dX9_meanSize_2 : decode cX9_meanSize 2 = .ok (.putfield 25, 3) := by decide +kernel
theorem dX9_meanSize_5 : decode cX9_meanSize 5 = .ok (.aload_n 0, 1) := by decide +kernel
theorem dX9_meanSize_6 : decode cX9_meanSize 6 = .ok (.getfield 7, 3) := by decide +kernel
theorem dX9_meanSize_9 : decode cX9_meanSize 9 = .ok (.bipush 9, 2) := by decide +kernel
theorem dX9_meanSize_11 : decode cX9_meanSize 11 = .ok (.iaload, 1) := by decide +kernel
theorem dX9_meanSize_12 : decode cX9_meanSize 12 = .ok (.ifCond .ne 7, 3) := by decide +kernel
theorem dX9_meanSize_15 : decode cX9_meanSize 15 = .ok (.dconst 0, 1) := by decide +kernel
theorem dX9_meanSize_16 : decode cX9_meanSize 16 = .ok (.goto 20, 3) := by decide +kernel
theorem dX9_meanSize_19 : decode cX9_meanSize 19 = .ok (.aload_n 0, 1) := by decide +kernel
theorem dX9_meanSize_20 : decode cX9_meanSize 20 = .ok (.getfield 7, 3) := by decide +kernel
theorem dX9_meanSize_23 : decode cX9_meanSize 23 = .ok (.bipush 64, 2) := by decide +kernel
theorem dX9_meanSize_25 : decode cX9_meanSize 25 = .ok (.iaload, 1) := by decide +kernel
theorem dX9_meanSize_26 : decode cX9_meanSize 26 = .ok (.i2d, 1) := by decide +kernel
theorem dX9_meanSize_27 : decode cX9_meanSize 27 = .ok (.aload_n 0, 1) := by decide +kernel
theorem dX9_meanSize_28 : decode cX9_meanSize 28 = .ok (.getfield 7, 3) := by decide +kernel
theorem dX9_meanSize_31 : decode cX9_meanSize 31 = .ok (.bipush 9, 2) := by decide +kernel
theorem dX9_meanSize_33 : decode cX9_meanSize 33 = .ok (.iaload, 1) := by decide +kernel
theorem dX9_meanSize_34 : decode cX9_meanSize 34 = .ok (.i2d, 1) := by decide +kernel
theorem dX9_meanSize_35 : decode cX9_meanSize 35 = .ok (.ddiv, 1) := by decide +kernel
theorem dX9_meanSize_36 : decode cX9_meanSize 36 = .ok (.dreturn, 1) := by decide +kernel
theorem dX9_append_0 : decode cX9_append 0 = .ok (.iload_n 1, 1) := by decide +kernel
theorem dX9_append_1 : decode cX9_append 1 = .ok (.iconst 0, 1) := by decide +kernel
theorem dX9_append_2 : decode cX9_append 2 = .ok (.bipush 127, 2) := by decide +kernel
theorem dX9_append_4 : decode cX9_append 4 = .ok (.invokestatic 41, 3) := by decide +kernel
theorem dX9_append_7 : decode cX9_append 7 = .ok (.ifCond .ne 9, 3) := by decide +kernel
theorem dX9_append_10 : decode cX9_append 10 = .ok (.aload_n 0, 1) := by decide +kernel
theorem dX9_append_11 : decode cX9_append 11 = .ok (.iconst 1, 1) := by decide +kernel
theorem dX9_append_12 : decode cX9_append 12 = .ok (.invokevirtual 45, 3) := by decide +kernel
theorem dX9_append_15 : decode cX9_append 15 = .ok (.ireturn, 1) := by decide +kernel
theorem dX9_append_16 : decode cX9_append 16 = .ok (.aload_n 0, 1) := by decide +kernel
theorem dX9_append_17 : decode cX9_append 17 = .ok (.getfield 168, 3) := by decide +kernel
theorem dX9_append_20 : decode cX9_append 20 = .ok (.bipush 100, 2) := by decide +kernel
theorem dX9_append_22 : decode cX9_append 22 = .ok (.if_icmp .ne 9, 3) := by decide +kernel
theorem dX9_append_25 : decode cX9_append 25 = .ok (.aload_n 0, 1) := by decide +kernel
theorem dX9_append_26 : decode cX9_append 26 = .ok (.iconst 2, 1) := by decide +kernel
theorem dX9_append_27 : decode cX9_append 27 = .ok (.invokevirtual 45, 3) := by decide +kernel
theorem dX9_append_30 : decode cX9_append 30 = .ok (.ireturn, 1) := by decide +kernel
theorem dX9_append_31 : decode cX9_append 31 = .ok (.aload_n 0, 1) := by decide +kernel
theorem dX9_append_32 : decode cX9_append 32 = .ok (.getfield 19, 3) := by decide +kernel
theorem dX9_append_35 : decode cX9_append 35 = .ok (.aload_n 0, 1) := by decide +kernel
theorem dX9_append_36 : decode cX9_append 36 = .ok (.getfield 168, 3) := by decide +kernel
theorem dX9_append_39 : decode cX9_append 39 = .ok (.iload_n 1, 1) := by decide +kernel
theorem dX9_append_40 : decode cX9_append 40 = .ok (.iastore, 1) := by decide +kernel
theorem dX9_append_41 : decode cX9_append 41 = .ok (.aload_n 0, 1) := by decide +kernel
theorem dX9_append_42 : decode cX9_append 42 = .ok (.dup, 1) := by decide +kernel
theorem dX9_append_43 : decode cX9_append 43 = .ok (.getfield 168, 3) := by decide +kernel
theorem dX9_append_46 : decode cX9_append 46 = .ok (.iconst 1, 1) := by decide +kernel
theorem dX9_append_47 : decode cX9_append 47 = .ok (.iadd, 1) := by decide +kernel
theorem dX9_append_48 : decode cX9_append 48 = .ok (.putfield 168, 3) := by decide +kernel
theorem dX9_append_51 : decode cX9_append 51 = .ok (.aload_n 0, 1) := by decide +kernel
theorem dX9_append_52 : decode cX9_append 52 = .ok (.aload_n 0, 1) := by decide +kernel
theorem dX9_append_53 : decode cX9_append 53 = .ok (.getfield 168, 3) := by decide +kernel
theorem dX9_append_56 : decode cX9_append 56 = .ok (.invokevirtual 32, 3) := by decide +kernel
theorem dX9_append_59 : decode cX9_append 59 = .ok (.ireturn, 1) := by decide +kernel
theorem dX9_clearText_0 : decode cX9_clearText 0 = .ok (.aload_n 0, 1) := by decide +kernel
theorem dX9_clearText_1 : decode cX9_clearText 1 = .ok (.getfield 168, 3) := by decide +kernel
theorem dX9_clearText_4 : decode cX9_clearText 4 = .ok (.istore_n 1, 1) := by decide +kernel
theorem dX9_clearText_5 : decode cX9_clearText 5 = .ok (.aload_n 0, 1) := by decide +kernel
theorem dX9_clearText_6 : decode cX9_clearText 6 = .ok (.iconst 0, 1) := by decide +kernel
theorem dX9_clearText_7 : decode cX9_clearText 7 = .ok (.putfield 168, 3) := by decide +kernel
theorem dX9_clearText_10 : decode cX9_clearText 10 = .ok (.aload_n 0, 1) := by decide +kernel
theorem dX9_clearText_11 : decode cX9_clearText 11 = .ok (.iload_n 1, 1) := by decide +kernel
theorem dX9_clearText_12 : decode cX9_clearText 12 = .ok (.invokevirtual 32, 3) := by decide +kernel
theorem dX9_clearText_15 : decode cX9_clearText 15 = .ok (.ireturn, 1) := by decide +kernel
theorem dX9_digitHere_0 : decode cX9_digitHere 0 = .ok (.aload_n 0, 1) := by decide +kernel
theorem dX9_digitHere_1 : decode cX9_digitHere 1 = .ok (.getfield 171, 3) := by decide +kernel
theorem dX9_digitHere_4 : decode cX9_digitHere 4 = .ok (.aload_n 0, 1) := by decide +kernel
theorem dX9_digitHere_5 : decode cX9_digitHere 5 = .ok (.getfield 168, 3) := by decide +kernel
theorem dX9_digitHere_8 : decode cX9_digitHere 8 = .ok (.if_icmp .ge 37, 3) := by decide +kernel
theorem dX9_digitHere_11 : decode cX9_digitHere 11 = .ok (.aload_n 0, 1) := by decide +kernel
theorem dX9_digitHere_12 : decode cX9_digitHere 12 = .ok (.getfield 19, 3) := by decide +kernel
theorem dX9_digitHere_15 : decode cX9_digitHere 15 = .ok (.aload_n 0, 1) := by decide +kernel
theorem dX9_digitHere_16 : decode cX9_digitHere 16 = .ok (.getfield 171, 3) := by decide +kernel
theorem dX9_digitHere_19 : decode cX9_digitHere 19 = .ok (.iaload, 1) := by decide +kernel
theorem dX9_digitHere_20 : decode cX9_digitHere 20 = .ok (.bipush 48, 2) := by decide +kernel
theorem dX9_digitHere_22 : decode cX9_digitHere 22 = .ok (.bipush 57, 2) := by decide +kernel
theorem dX9_digitHere_24 : decode cX9_digitHere 24 = .ok (.invokestatic 41, 3) := by decide +kernel
theorem dX9_digitHere_27 : decode cX9_digitHere 27 = .ok (.ifCond .eq 18, 3) := by decide +kernel
theorem dX9_digitHere_30 : decode cX9_digitHere 30 = .ok (.aload_n 0, 1) := by decide +kernel
theorem dX9_digitHere_31 : decode cX9_digitHere 31 = .ok (.getfield 19, 3) := by decide +kernel
theorem dX9_digitHere_34 : decode cX9_digitHere 34 = .ok (.aload_n 0, 1) := by decide +kernel
theorem dX9_digitHere_35 : decode cX9_digitHere 35 = .ok (.getfield 171, 3) := by decide +kernel
theorem dX9_digitHere_38 : decode cX9_digitHere 38 = .ok (.iaload, 1) := by decide +kernel
theorem dX9_digitHere_39 : decode cX9_digitHere 39 = .ok (.bipush 48, 2) := by decide +kernel
theorem dX9_digitHere_41 : decode cX9_digitHere 41 = .ok (.isub, 1) := by decide +kernel
theorem dX9_digitHere_42 : decode cX9_digitHere 42 = .ok (.goto 4, 3) := by decide +kernel
theorem dX9_digitHere_45 : decode cX9_digitHere 45 = .ok (.iconst (-1), 1) := by decide +kernel
theorem dX9_digitHere_46 : decode cX9_digitHere 46 = .ok (.ireturn, 1) := by decide +kernel
theorem dX9_isOrder_0 : decode cX9_isOrder 0 = .ok (.aload_n 0, 1) := by decide +kernel
theorem dX9_isOrder_1 : decode cX9_isOrder 1 = .ok (.aload_n 0, 1) := by decide +kernel
theorem dX9_isOrder_2 : decode cX9_isOrder 2 = .ok (.getfield 19, 3) := by decide +kernel
theorem dX9_isOrder_5 : decode cX9_isOrder 5 = .ok (.aload_n 0, 1) := by decide +kernel
theorem dX9_isOrder_6 : decode cX9_isOrder 6 = .ok (.getfield 171, 3) := by decide +kernel
theorem dX9_isOrder_9 : decode cX9_isOrder 9 = .ok (.iaload, 1) := by decide +kernel
theorem dX9_isOrder_10 : decode cX9_isOrder 10 = .ok (.putfield 174, 3) := by decide +kernel
theorem dX9_isOrder_13 : decode cX9_isOrder 13 = .ok (.aload_n 0, 1) := by decide +kernel
theorem dX9_isOrder_14 : decode cX9_isOrder 14 = .ok (.getfield 174, 3) := by decide +kernel
theorem dX9_isOrder_17 : decode cX9_isOrder 17 = .ok (.bipush 100, 2) := by decide +kernel
theorem dX9_isOrder_19 : decode cX9_isOrder 19 = .ok (.if_icmp .eq 39, 3) := by decide +kernel
theorem dX9_isOrder_22 : decode cX9_isOrder 22 = .ok (.aload_n 0, 1) := by decide +kernel
theorem dX9_isOrder_23 : decode cX9_isOrder 23 = .ok (.getfield 174, 3) := by decide +kernel
theorem dX9_isOrder_26 : decode cX9_isOrder 26 = .ok (.bipush 108, 2) := by decide +kernel
theorem dX9_isOrder_28 : decode cX9_isOrder 28 = .ok (.if_icmp .eq 30, 3) := by decide +kernel
theorem dX9_isOrder_31 : decode cX9_isOrder 31 = .ok (.aload_n 0, 1) := by decide +kernel
theorem dX9_isOrder_32 : decode cX9_isOrder 32 = .ok (.getfield 174, 3) := by decide +kernel
theorem dX9_isOrder_35 : decode cX9_isOrder 35 = .ok (.bipush 99, 2) := by decide +kernel
theorem dX9_isOrder_37 : decode cX9_isOrder 37 = .ok (.if_icmp .eq 21, 3) := by decide +kernel
theorem dX9_isOrder_40 : decode cX9_isOrder 40 = .ok (.aload_n 0, 1) := by decide +kernel
theorem dX9_isOrder_41 : decode cX9_isOrder 41 = .ok (.getfield 174, 3) := by decide +kernel
theorem dX9_isOrder_44 : decode cX9_isOrder 44 = .ok (.bipush 97, 2) := by decide +kernel
theorem dX9_isOrder_46 : decode cX9_isOrder 46 = .ok (.if_icmp .eq 12, 3) := by decide +kernel
theorem dX9_isOrder_49 : decode cX9_isOrder 49 = .ok (.aload_n 0, 1) := by decide +kernel
theorem dX9_isOrder_50 : decode cX9_isOrder 50 = .ok (.getfield 174, 3) := by decide +kernel
theorem dX9_isOrder_53 : decode cX9_isOrder 53 = .ok (.bipush 120, 2) := by decide +kernel
theorem dX9_isOrder_55 : decode cX9_isOrder 55 = .ok (.if_icmp .ne 7, 3) := by decide +kernel
theorem dX9_isOrder_58 : decode cX9_isOrder 58 = .ok (.iconst 1, 1) := by decide +kernel
theorem dX9_isOrder_59 : decode cX9_isOrder 59 = .ok (.goto 4, 3) := by decide +kernel
theorem dX9_isOrder_62 : decode cX9_isOrder 62 = .ok (.iconst 0, 1) := by decide +kernel
theorem dX9_isOrder_63 : decode cX9_isOrder 63 = .ok (.istore_n 1, 1) := by decide +kernel
theorem dX9_isOrder_64 : decode cX9_isOrder 64 = .ok (.iload_n 1, 1) := by decide +kernel
theorem dX9_isOrder_65 : decode cX9_isOrder 65 = .ok (.ifCond .ne 23, 3) := by decide +kernel
theorem dX9_isOrder_68 : decode cX9_isOrder 68 = .ok (.aload_n 0, 1) := by decide +kernel
theorem dX9_isOrder_69 : decode cX9_isOrder 69 = .ok (.getfield 174, 3) := by decide +kernel
theorem dX9_isOrder_72 : decode cX9_isOrder 72 = .ok (.bipush 110, 2) := by decide +kernel
theorem dX9_isOrder_74 : decode cX9_isOrder 74 = .ok (.if_icmp .eq 14, 3) := by decide +kernel
theorem dX9_isOrder_77 : decode cX9_isOrder 77 = .ok (.aload_n 0, 1) := by decide +kernel
theorem dX9_isOrder_78 : decode cX9_isOrder 78 = .ok (.getfield 174, 3) := by decide +kernel
theorem dX9_isOrder_81 : decode cX9_isOrder 81 = .ok (.bipush 115, 2) := by decide +kernel
theorem dX9_isOrder_83 : decode cX9_isOrder 83 = .ok (.if_icmp .eq 5, 3) := by decide +kernel
theorem dX9_isOrder_86 : decode cX9_isOrder 86 = .ok (.iconst 0, 1) := by decide +kernel
theorem dX9_isOrder_87 : decode cX9_isOrder 87 = .ok (.ireturn, 1) := by decide +kernel
theorem dX9_isOrder_88 : decode cX9_isOrder 88 = .ok (.aload_n 0, 1) := by decide +kernel
theorem dX9_isOrder_89 : decode cX9_isOrder 89 = .ok (.dup, 1) := by decide +kernel
theorem dX9_isOrder_90 : decode cX9_isOrder 90 = .ok (.getfield 171, 3) := by decide +kernel
theorem dX9_isOrder_93 : decode cX9_isOrder 93 = .ok (.iconst 1, 1) := by decide +kernel
theorem dX9_isOrder_94 : decode cX9_isOrder 94 = .ok (.iadd, 1) := by decide +kernel
theorem dX9_isOrder_95 : decode cX9_isOrder 95 = .ok (.putfield 171, 3) := by decide +kernel
theorem dX9_isOrder_98 : decode cX9_isOrder 98 = .ok (.aload_n 0, 1) := by decide +kernel
theorem dX9_isOrder_99 : decode cX9_isOrder 99 = .ok (.iconst 0, 1) := by decide +kernel
theorem dX9_isOrder_100 : decode cX9_isOrder 100 = .ok (.putfield 177, 3) := by decide +kernel
theorem dX9_isOrder_103 : decode cX9_isOrder 103 = .ok (.iconst 0, 1) := by decide +kernel
theorem dX9_isOrder_104 : decode cX9_isOrder 104 = .ok (.istore_n 2, 1) := by decide +kernel
theorem dX9_isOrder_105 : decode cX9_isOrder 105 = .ok (.iload_n 2, 1) := by decide +kernel
theorem dX9_isOrder_106 : decode cX9_isOrder 106 = .ok (.iconst 2, 1) := by decide +kernel
theorem dX9_isOrder_107 : decode cX9_isOrder 107 = .ok (.if_icmp .ge 73, 3) := by decide +kernel
theorem dX9_isOrder_110 : decode cX9_isOrder 110 = .ok (.iload_n 1, 1) := by decide +kernel
theorem dX9_isOrder_111 : decode cX9_isOrder 111 = .ok (.ifCond .eq 69, 3) := by decide +kernel
theorem dX9_isOrder_114 : decode cX9_isOrder 114 = .ok (.aload_n 0, 1) := by decide +kernel
theorem dX9_isOrder_115 : decode cX9_isOrder 115 = .ok (.invokevirtual 180, 3) := by decide +kernel
theorem dX9_isOrder_118 : decode cX9_isOrder 118 = .ok (.istore_n 3, 1) := by decide +kernel
theorem dX9_isOrder_119 : decode cX9_isOrder 119 = .ok (.iload_n 3, 1) := by decide +kernel
theorem dX9_isOrder_120 : decode cX9_isOrder 120 = .ok (.iconst (-1), 1) := by decide +kernel
theorem dX9_isOrder_121 : decode cX9_isOrder 121 = .ok (.if_icmp .ne 9, 3) := by decide +kernel
theorem dX9_isOrder_124 : decode cX9_isOrder 124 = .ok (.iload_n 2, 1) := by decide +kernel
theorem dX9_isOrder_125 : decode cX9_isOrder 125 = .ok (.ifCond .ne 5, 3) := by decide +kernel
theorem dX9_isOrder_128 : decode cX9_isOrder 128 = .ok (.iconst 0, 1) := by decide +kernel
theorem dX9_isOrder_129 : decode cX9_isOrder 129 = .ok (.ireturn, 1) := by decide +kernel
theorem dX9_isOrder_130 : decode cX9_isOrder 130 = .ok (.aload_n 0, 1) := by decide +kernel
theorem dX9_isOrder_131 : decode cX9_isOrder 131 = .ok (.iload_n 3, 1) := by decide +kernel
theorem dX9_isOrder_132 : decode cX9_isOrder 132 = .ok (.iconst (-1), 1) := by decide +kernel
theorem dX9_isOrder_133 : decode cX9_isOrder 133 = .ok (.if_icmp .ne 10, 3) := by decide +kernel
theorem dX9_isOrder_136 : decode cX9_isOrder 136 = .ok (.aload_n 0, 1) := by decide +kernel
theorem dX9_isOrder_137 : decode cX9_isOrder 137 = .ok (.getfield 177, 3) := by decide +kernel
theorem dX9_isOrder_140 : decode cX9_isOrder 140 = .ok (.goto 12, 3) := by decide +kernel
theorem dX9_isOrder_143 : decode cX9_isOrder 143 = .ok (.bipush 10, 2) := by decide +kernel
theorem dX9_isOrder_145 : decode cX9_isOrder 145 = .ok (.aload_n 0, 1) := by decide +kernel
theorem dX9_isOrder_146 : decode cX9_isOrder 146 = .ok (.getfield 177, 3) := by decide +kernel
theorem dX9_isOrder_149 : decode cX9_isOrder 149 = .ok (.imul, 1) := by decide +kernel
theorem dX9_isOrder_150 : decode cX9_isOrder 150 = .ok (.iload_n 3, 1) := by decide +kernel
theorem dX9_isOrder_151 : decode cX9_isOrder 151 = .ok (.iadd, 1) := by decide +kernel
theorem dX9_isOrder_152 : decode cX9_isOrder 152 = .ok (.putfield 177, 3) := by decide +kernel
theorem dX9_isOrder_155 : decode cX9_isOrder 155 = .ok (.aload_n 0, 1) := by decide +kernel
theorem dX9_isOrder_156 : decode cX9_isOrder 156 = .ok (.dup, 1) := by decide +kernel
theorem dX9_isOrder_157 : decode cX9_isOrder 157 = .ok (.getfield 171, 3) := by decide +kernel
theorem dX9_isOrder_160 : decode cX9_isOrder 160 = .ok (.iload_n 3, 1) := by decide +kernel
theorem dX9_isOrder_161 : decode cX9_isOrder 161 = .ok (.iconst (-1), 1) := by decide +kernel
theorem dX9_isOrder_162 : decode cX9_isOrder 162 = .ok (.if_icmp .ne 7, 3) := by decide +kernel
theorem dX9_isOrder_165 : decode cX9_isOrder 165 = .ok (.iconst 0, 1) := by decide +kernel
theorem dX9_isOrder_166 : decode cX9_isOrder 166 = .ok (.goto 4, 3) := by decide +kernel
theorem dX9_isOrder_169 : decode cX9_isOrder 169 = .ok (.iconst 1, 1) := by decide +kernel
theorem dX9_isOrder_170 : decode cX9_isOrder 170 = .ok (.iadd, 1) := by decide +kernel
theorem dX9_isOrder_171 : decode cX9_isOrder 171 = .ok (.putfield 171, 3) := by decide +kernel
theorem dX9_isOrder_174 : decode cX9_isOrder 174 = .ok (.iinc 2 1, 3) := by decide +kernel
theorem dX9_isOrder_177 : decode cX9_isOrder 177 = .ok (.goto (-72), 3) := by decide +kernel
theorem dX9_isOrder_180 : decode cX9_isOrder 180 = .ok (.aload_n 0, 1) := by decide +kernel
theorem dX9_isOrder_181 : decode cX9_isOrder 181 = .ok (.getfield 171, 3) := by decide +kernel
theorem dX9_isOrder_184 : decode cX9_isOrder 184 = .ok (.aload_n 0, 1) := by decide +kernel
theorem dX9_isOrder_185 : decode cX9_isOrder 185 = .ok (.getfield 168, 3) := by decide +kernel
theorem dX9_isOrder_188 : decode cX9_isOrder 188 = .ok (.if_icmp .ge 17, 3) := by decide +kernel
theorem dX9_isOrder_191 : decode cX9_isOrder 191 = .ok (.aload_n 0, 1) := by decide +kernel
theorem dX9_isOrder_192 : decode cX9_isOrder 192 = .ok (.getfield 19, 3) := by decide +kernel
theorem dX9_isOrder_195 : decode cX9_isOrder 195 = .ok (.aload_n 0, 1) := by decide +kernel
theorem dX9_isOrder_196 : decode cX9_isOrder 196 = .ok (.getfield 171, 3) := by decide +kernel
theorem dX9_isOrder_199 : decode cX9_isOrder 199 = .ok (.iaload, 1) := by decide +kernel
theorem dX9_isOrder_200 : decode cX9_isOrder 200 = .ok (.bipush 59, 2) := by decide +kernel
theorem dX9_isOrder_202 : decode cX9_isOrder 202 = .ok (.if_icmp .eq 5, 3) := by decide +kernel
theorem dX9_isOrder_205 : decode cX9_isOrder 205 = .ok (.iconst 0, 1) := by decide +kernel
theorem dX9_isOrder_206 : decode cX9_isOrder 206 = .ok (.ireturn, 1) := by decide +kernel
theorem dX9_isOrder_207 : decode cX9_isOrder 207 = .ok (.aload_n 0, 1) := by decide +kernel
theorem dX9_isOrder_208 : decode cX9_isOrder 208 = .ok (.dup, 1) := by decide +kernel
theorem dX9_isOrder_209 : decode cX9_isOrder 209 = .ok (.getfield 171, 3) := by decide +kernel
theorem dX9_isOrder_212 : decode cX9_isOrder 212 = .ok (.iconst 1, 1) := by decide +kernel
theorem dX9_isOrder_213 : decode cX9_isOrder 213 = .ok (.iadd, 1) := by decide +kernel
theorem dX9_isOrder_214 : decode cX9_isOrder 214 = .ok (.putfield 171, 3) := by decide +kernel
theorem dX9_isOrder_217 : decode cX9_isOrder 217 = .ok (.iconst 1, 1) := by decide +kernel
theorem dX9_isOrder_218 : decode cX9_isOrder 218 = .ok (.ireturn, 1) := by decide +kernel
theorem dX9_isDone_0 : decode cX9_isDone 0 = .ok (.aload_n 0, 1) := by decide +kernel
theorem dX9_isDone_1 : decode cX9_isDone 1 = .ok (.getfield 174, 3) := by decide +kernel
theorem dX9_isDone_4 : decode cX9_isDone 4 = .ok (.tableswitch 184 97 115 #[167, 184, 150, 114, 184, 184, 184, 184, 184, 184, 184, 131, 184, 92, 184, 184, 184, 184, 98], 92) := by decide +kernel
theorem dX9_isDone_96 : decode cX9_isDone 96 = .ok (.aload_n 0, 1) := by decide +kernel
theorem dX9_isDone_97 : decode cX9_isDone 97 = .ok (.invokevirtual 61, 3) := by decide +kernel
theorem dX9_isDone_100 : decode cX9_isDone 100 = .ok (.iconst 1, 1) := by decide +kernel
theorem dX9_isDone_101 : decode cX9_isDone 101 = .ok (.ireturn, 1) := by decide +kernel
theorem dX9_isDone_102 : decode cX9_isDone 102 = .ok (.aload_n 0, 1) := by decide +kernel
theorem dX9_isDone_103 : decode cX9_isDone 103 = .ok (.iconst 1, 1) := by decide +kernel
theorem dX9_isDone_104 : decode cX9_isDone 104 = .ok (.invokevirtual 99, 3) := by decide +kernel
theorem dX9_isDone_107 : decode cX9_isDone 107 = .ok (.ifCond .ne 5, 3) := by decide +kernel
theorem dX9_isDone_110 : decode cX9_isDone 110 = .ok (.iconst 0, 1) := by decide +kernel
theorem dX9_isDone_111 : decode cX9_isDone 111 = .ok (.ireturn, 1) := by decide +kernel
theorem dX9_isDone_112 : decode cX9_isDone 112 = .ok (.aload_n 0, 1) := by decide +kernel
theorem dX9_isDone_113 : decode cX9_isDone 113 = .ok (.invokevirtual 103, 3) := by decide +kernel
theorem dX9_isDone_116 : decode cX9_isDone 116 = .ok (.iconst 1, 1) := by decide +kernel
theorem dX9_isDone_117 : decode cX9_isDone 117 = .ok (.ireturn, 1) := by decide +kernel
theorem dX9_isDone_118 : decode cX9_isDone 118 = .ok (.aload_n 0, 1) := by decide +kernel
theorem dX9_isDone_119 : decode cX9_isDone 119 = .ok (.aload_n 0, 1) := by decide +kernel
theorem dX9_isDone_120 : decode cX9_isDone 120 = .ok (.getfield 177, 3) := by decide +kernel
theorem dX9_isDone_123 : decode cX9_isDone 123 = .ok (.invokevirtual 141, 3) := by decide +kernel
theorem dX9_isDone_126 : decode cX9_isDone 126 = .ok (.ifCond .ne 7, 3) := by decide +kernel
theorem dX9_isDone_129 : decode cX9_isDone 129 = .ok (.iconst 1, 1) := by decide +kernel
theorem dX9_isDone_130 : decode cX9_isDone 130 = .ok (.goto 4, 3) := by decide +kernel
theorem dX9_isDone_133 : decode cX9_isDone 133 = .ok (.iconst 0, 1) := by decide +kernel
theorem dX9_isDone_134 : decode cX9_isDone 134 = .ok (.ireturn, 1) := by decide +kernel
theorem dX9_isDone_135 : decode cX9_isDone 135 = .ok (.aload_n 0, 1) := by decide +kernel
theorem dX9_isDone_136 : decode cX9_isDone 136 = .ok (.bipush 10, 2) := by decide +kernel
theorem dX9_isDone_138 : decode cX9_isDone 138 = .ok (.aload_n 0, 1) := by decide +kernel
theorem dX9_isDone_139 : decode cX9_isDone 139 = .ok (.getfield 177, 3) := by decide +kernel
theorem dX9_isDone_142 : decode cX9_isDone 142 = .ok (.invokevirtual 147, 3) := by decide +kernel
theorem dX9_isDone_145 : decode cX9_isDone 145 = .ok (.ifCond .ne 7, 3) := by decide +kernel
theorem dX9_isDone_148 : decode cX9_isDone 148 = .ok (.iconst 1, 1) := by decide +kernel
theorem dX9_isDone_149 : decode cX9_isDone 149 = .ok (.goto 4, 3) := by decide +kernel
theorem dX9_isDone_152 : decode cX9_isDone 152 = .ok (.iconst 0, 1) := by decide +kernel
theorem dX9_isDone_153 : decode cX9_isDone 153 = .ok (.ireturn, 1) := by decide +kernel
theorem dX9_isDone_154 : decode cX9_isDone 154 = .ok (.aload_n 0, 1) := by decide +kernel
theorem dX9_isDone_155 : decode cX9_isDone 155 = .ok (.aload_n 0, 1) := by decide +kernel
theorem dX9_isDone_156 : decode cX9_isDone 156 = .ok (.getfield 177, 3) := by decide +kernel
theorem dX9_isDone_159 : decode cX9_isDone 159 = .ok (.invokevirtual 150, 3) := by decide +kernel
theorem dX9_isDone_162 : decode cX9_isDone 162 = .ok (.ifCond .ne 7, 3) := by decide +kernel
theorem dX9_isDone_165 : decode cX9_isDone 165 = .ok (.iconst 1, 1) := by decide +kernel
theorem dX9_isDone_166 : decode cX9_isDone 166 = .ok (.goto 4, 3) := by decide +kernel
theorem dX9_isDone_169 : decode cX9_isDone 169 = .ok (.iconst 0, 1) := by decide +kernel
theorem dX9_isDone_170 : decode cX9_isDone 170 = .ok (.ireturn, 1) := by decide +kernel
theorem dX9_isDone_171 : decode cX9_isDone 171 = .ok (.aload_n 0, 1) := by decide +kernel
theorem dX9_isDone_172 : decode cX9_isDone 172 = .ok (.aload_n 0, 1) := by decide +kernel
theorem dX9_isDone_173 : decode cX9_isDone 173 = .ok (.getfield 177, 3) := by decide +kernel
theorem dX9_isDone_176 : decode cX9_isDone 176 = .ok (.invokevirtual 153, 3) := by decide +kernel
theorem dX9_isDone_179 : decode cX9_isDone 179 = .ok (.ifCond .ne 7, 3) := by decide +kernel
theorem dX9_isDone_182 : decode cX9_isDone 182 = .ok (.iconst 1, 1) := by decide +kernel
theorem dX9_isDone_183 : decode cX9_isDone 183 = .ok (.goto 4, 3) := by decide +kernel
theorem dX9_isDone_186 : decode cX9_isDone 186 = .ok (.iconst 0, 1) := by decide +kernel
theorem dX9_isDone_187 : decode cX9_isDone 187 = .ok (.ireturn, 1) := by decide +kernel
theorem dX9_isDone_188 : decode cX9_isDone 188 = .ok (.aload_n 0, 1) := by decide +kernel
theorem dX9_isDone_189 : decode cX9_isDone 189 = .ok (.bipush 31, 2) := by decide +kernel
theorem dX9_isDone_191 : decode cX9_isDone 191 = .ok (.aload_n 0, 1) := by decide +kernel
theorem dX9_isDone_192 : decode cX9_isDone 192 = .ok (.getfield 177, 3) := by decide +kernel
theorem dX9_isDone_195 : decode cX9_isDone 195 = .ok (.invokevirtual 147, 3) := by decide +kernel
theorem dX9_isDone_198 : decode cX9_isDone 198 = .ok (.ifCond .ne 7, 3) := by decide +kernel
theorem dX9_isDone_201 : decode cX9_isDone 201 = .ok (.iconst 1, 1) := by decide +kernel
theorem dX9_isDone_202 : decode cX9_isDone 202 = .ok (.goto 4, 3) := by decide +kernel
theorem dX9_isDone_205 : decode cX9_isDone 205 = .ok (.iconst 0, 1) := by decide +kernel
theorem dX9_isDone_206 : decode cX9_isDone 206 = .ok (.ireturn, 1) := by decide +kernel
theorem dX9_carryOut_0 : decode cX9_carryOut 0 = .ok (.aload_n 0, 1) := by decide +kernel
theorem dX9_carryOut_1 : decode cX9_carryOut 1 = .ok (.iconst 0, 1) := by decide +kernel
theorem dX9_carryOut_2 : decode cX9_carryOut 2 = .ok (.putfield 25, 3) := by decide +kernel
theorem dX9_carryOut_5 : decode cX9_carryOut 5 = .ok (.aload_n 0, 1) := by decide +kernel
theorem dX9_carryOut_6 : decode cX9_carryOut 6 = .ok (.iconst 0, 1) := by decide +kernel
theorem dX9_carryOut_7 : decode cX9_carryOut 7 = .ok (.putfield 171, 3) := by decide +kernel
theorem dX9_carryOut_10 : decode cX9_carryOut 10 = .ok (.aload_n 0, 1) := by decide +kernel
theorem dX9_carryOut_11 : decode cX9_carryOut 11 = .ok (.getfield 171, 3) := by decide +kernel
theorem dX9_carryOut_14 : decode cX9_carryOut 14 = .ok (.aload_n 0, 1) := by decide +kernel
theorem dX9_carryOut_15 : decode cX9_carryOut 15 = .ok (.getfield 168, 3) := by decide +kernel
theorem dX9_carryOut_18 : decode cX9_carryOut 18 = .ok (.if_icmp .ge 18, 3) := by decide +kernel
theorem dX9_carryOut_21 : decode cX9_carryOut 21 = .ok (.aload_n 0, 1) := by decide +kernel
theorem dX9_carryOut_22 : decode cX9_carryOut 22 = .ok (.invokevirtual 183, 3) := by decide +kernel
theorem dX9_carryOut_25 : decode cX9_carryOut 25 = .ok (.ifCond .ne (-15), 3) := by decide +kernel
theorem dX9_carryOut_28 : decode cX9_carryOut 28 = .ok (.bipush (-10), 2) := by decide +kernel
theorem dX9_carryOut_30 : decode cX9_carryOut 30 = .ok (.aload_n 0, 1) := by decide +kernel
theorem dX9_carryOut_31 : decode cX9_carryOut 31 = .ok (.getfield 171, 3) := by decide +kernel
theorem dX9_carryOut_34 : decode cX9_carryOut 34 = .ok (.isub, 1) := by decide +kernel
theorem dX9_carryOut_35 : decode cX9_carryOut 35 = .ok (.ireturn, 1) := by decide +kernel
theorem dX9_carryOut_36 : decode cX9_carryOut 36 = .ok (.aload_n 0, 1) := by decide +kernel
theorem dX9_carryOut_37 : decode cX9_carryOut 37 = .ok (.invokevirtual 51, 3) := by decide +kernel
theorem dX9_carryOut_40 : decode cX9_carryOut 40 = .ok (.aload_n 0, 1) := by decide +kernel
theorem dX9_carryOut_41 : decode cX9_carryOut 41 = .ok (.iconst 0, 1) := by decide +kernel
theorem dX9_carryOut_42 : decode cX9_carryOut 42 = .ok (.putfield 171, 3) := by decide +kernel
theorem dX9_carryOut_45 : decode cX9_carryOut 45 = .ok (.iconst 0, 1) := by decide +kernel
theorem dX9_carryOut_46 : decode cX9_carryOut 46 = .ok (.istore_n 1, 1) := by decide +kernel
theorem dX9_carryOut_47 : decode cX9_carryOut 47 = .ok (.aload_n 0, 1) := by decide +kernel
theorem dX9_carryOut_48 : decode cX9_carryOut 48 = .ok (.getfield 171, 3) := by decide +kernel
theorem dX9_carryOut_51 : decode cX9_carryOut 51 = .ok (.aload_n 0, 1) := by decide +kernel
theorem dX9_carryOut_52 : decode cX9_carryOut 52 = .ok (.getfield 168, 3) := by decide +kernel
theorem dX9_carryOut_55 : decode cX9_carryOut 55 = .ok (.if_icmp .ge 43, 3) := by decide +kernel
theorem dX9_carryOut_58 : decode cX9_carryOut 58 = .ok (.aload_n 0, 1) := by decide +kernel
theorem dX9_carryOut_59 : decode cX9_carryOut 59 = .ok (.invokevirtual 183, 3) := by decide +kernel
theorem dX9_carryOut_62 : decode cX9_carryOut 62 = .ok (.ifCond .eq 14, 3) := by decide +kernel
theorem dX9_carryOut_65 : decode cX9_carryOut 65 = .ok (.aload_n 0, 1) := by decide +kernel
theorem dX9_carryOut_66 : decode cX9_carryOut 66 = .ok (.invokevirtual 187, 3) := by decide +kernel
theorem dX9_carryOut_69 : decode cX9_carryOut 69 = .ok (.ifCond .eq 7, 3) := by decide +kernel
theorem dX9_carryOut_72 : decode cX9_carryOut 72 = .ok (.iconst 1, 1) := by decide +kernel
theorem dX9_carryOut_73 : decode cX9_carryOut 73 = .ok (.goto 4, 3) := by decide +kernel
theorem dX9_carryOut_76 : decode cX9_carryOut 76 = .ok (.iconst 0, 1) := by decide +kernel
theorem dX9_carryOut_77 : decode cX9_carryOut 77 = .ok (.istore_n 2, 1) := by decide +kernel
theorem dX9_carryOut_78 : decode cX9_carryOut 78 = .ok (.iload_n 2, 1) := by decide +kernel
theorem dX9_carryOut_79 : decode cX9_carryOut 79 = .ok (.ifCond .ne 13, 3) := by decide +kernel
theorem dX9_carryOut_82 : decode cX9_carryOut 82 = .ok (.aload_n 0, 1) := by decide +kernel
theorem dX9_carryOut_83 : decode cX9_carryOut 83 = .ok (.invokevirtual 190, 3) := by decide +kernel
theorem dX9_carryOut_86 : decode cX9_carryOut 86 = .ok (.sipush (-1000), 3) := by decide +kernel
theorem dX9_carryOut_89 : decode cX9_carryOut 89 = .ok (.iload_n 1, 1) := by decide +kernel
theorem dX9_carryOut_90 : decode cX9_carryOut 90 = .ok (.isub, 1) := by decide +kernel
theorem dX9_carryOut_91 : decode cX9_carryOut 91 = .ok (.ireturn, 1) := by decide +kernel
theorem dX9_carryOut_92 : decode cX9_carryOut 92 = .ok (.iinc 1 1, 3) := by decide +kernel
theorem dX9_carryOut_95 : decode cX9_carryOut 95 = .ok (.goto (-48), 3) := by decide +kernel
theorem dX9_carryOut_98 : decode cX9_carryOut 98 = .ok (.aload_n 0, 1) := by decide +kernel
theorem dX9_carryOut_99 : decode cX9_carryOut 99 = .ok (.iload_n 1, 1) := by decide +kernel
theorem dX9_carryOut_100 : decode cX9_carryOut 100 = .ok (.invokevirtual 54, 3) := by decide +kernel
theorem dX9_carryOut_103 : decode cX9_carryOut 103 = .ok (.ireturn, 1) := by decide +kernel
theorem dX9_undo_0 : decode cX9_undo 0 = .ok (.aload_n 0, 1) := by decide +kernel
theorem dX9_undo_1 : decode cX9_undo 1 = .ok (.getfield 29, 3) := by decide +kernel
theorem dX9_undo_4 : decode cX9_undo 4 = .ok (.ifCond .ne 9, 3) := by decide +kernel
theorem dX9_undo_7 : decode cX9_undo 7 = .ok (.aload_n 0, 1) := by decide +kernel
theorem dX9_undo_8 : decode cX9_undo 8 = .ok (.iconst 1, 1) := by decide +kernel
theorem dX9_undo_9 : decode cX9_undo 9 = .ok (.invokevirtual 45, 3) := by decide +kernel
theorem dX9_undo_12 : decode cX9_undo 12 = .ok (.ireturn, 1) := by decide +kernel
theorem dX9_undo_13 : decode cX9_undo 13 = .ok (.aload_n 0, 1) := by decide +kernel
theorem dX9_undo_14 : decode cX9_undo 14 = .ok (.dup, 1) := by decide +kernel
theorem dX9_undo_15 : decode cX9_undo 15 = .ok (.getfield 29, 3) := by decide +kernel
theorem dX9_undo_18 : decode cX9_undo 18 = .ok (.iconst 1, 1) := by decide +kernel
theorem dX9_undo_19 : decode cX9_undo 19 = .ok (.isub, 1) := by decide +kernel
theorem dX9_undo_20 : decode cX9_undo 20 = .ok (.putfield 29, 3) := by decide +kernel
theorem dX9_undo_23 : decode cX9_undo 23 = .ok (.iconst 0, 1) := by decide +kernel
theorem dX9_undo_24 : decode cX9_undo 24 = .ok (.istore_n 1, 1) := by decide +kernel
theorem dX9_undo_25 : decode cX9_undo 25 = .ok (.iload_n 1, 1) := by decide +kernel
theorem dX9_undo_26 : decode cX9_undo 26 = .ok (.sipush 5514, 3) := by decide +kernel
theorem dX9_undo_29 : decode cX9_undo 29 = .ok (.if_icmp .ge 30, 3) := by decide +kernel
theorem dX9_undo_32 : decode cX9_undo 32 = .ok (.aload_n 0, 1) := by decide +kernel
theorem dX9_undo_33 : decode cX9_undo 33 = .ok (.getfield 7, 3) := by decide +kernel
theorem dX9_undo_36 : decode cX9_undo 36 = .ok (.iload_n 1, 1) := by decide +kernel
theorem dX9_undo_37 : decode cX9_undo 37 = .ok (.aload_n 0, 1) := by decide +kernel
theorem dX9_undo_38 : decode cX9_undo 38 = .ok (.getfield 13, 3) := by decide +kernel
theorem dX9_undo_41 : decode cX9_undo 41 = .ok (.sipush 5514, 3) := by decide +kernel
theorem dX9_undo_44 : decode cX9_undo 44 = .ok (.aload_n 0, 1) := by decide +kernel
theorem dX9_undo_45 : decode cX9_undo 45 = .ok (.getfield 29, 3) := by decide +kernel
theorem dX9_undo_48 : decode cX9_undo 48 = .ok (.imul, 1) := by decide +kernel
theorem dX9_undo_49 : decode cX9_undo 49 = .ok (.iload_n 1, 1) := by decide +kernel
theorem dX9_undo_50 : decode cX9_undo 50 = .ok (.iadd, 1) := by decide +kernel
theorem dX9_undo_51 : decode cX9_undo 51 = .ok (.iaload, 1) := by decide +kernel
theorem dX9_undo_52 : decode cX9_undo 52 = .ok (.iastore, 1) := by decide +kernel
theorem dX9_undo_53 : decode cX9_undo 53 = .ok (.iinc 1 1, 3) := by decide +kernel
theorem dX9_undo_56 : decode cX9_undo 56 = .ok (.goto (-31), 3) := by decide +kernel
theorem dX9_undo_59 : decode cX9_undo 59 = .ok (.aload_n 0, 1) := by decide +kernel
theorem dX9_undo_60 : decode cX9_undo 60 = .ok (.aload_n 0, 1) := by decide +kernel
theorem dX9_undo_61 : decode cX9_undo 61 = .ok (.getfield 29, 3) := by decide +kernel
theorem dX9_undo_64 : decode cX9_undo 64 = .ok (.invokevirtual 32, 3) := by decide +kernel
theorem dX9_undo_67 : decode cX9_undo 67 = .ok (.ireturn, 1) := by decide +kernel
theorem dX9_mix_0 : decode cX9_mix 0 = .ok (.aload_n 0, 1) := by decide +kernel
theorem dX9_mix_1 : decode cX9_mix 1 = .ok (.ldc2_w 193, 3) := by decide +kernel
theorem dX9_mix_4 : decode cX9_mix 4 = .ok (.aload_n 0, 1) := by decide +kernel
theorem dX9_mix_5 : decode cX9_mix 5 = .ok (.getfield 195, 3) := by decide +kernel
theorem dX9_mix_8 : decode cX9_mix 8 = .ok (.lmul, 1) := by decide +kernel
theorem dX9_mix_9 : decode cX9_mix 9 = .ok (.iload_n 1, 1) := by decide +kernel
theorem dX9_mix_10 : decode cX9_mix 10 = .ok (.i2l, 1) := by decide +kernel
theorem dX9_mix_11 : decode cX9_mix 11 = .ok (.ladd, 1) := by decide +kernel
theorem dX9_mix_12 : decode cX9_mix 12 = .ok (.putfield 195, 3) := by decide +kernel
theorem dX9_mix_15 : decode cX9_mix 15 = .ok (.return_, 1) := by decide +kernel
theorem dX9_mixAll_0 : decode cX9_mixAll 0 = .ok (.iconst 0, 1) := by decide +kernel
theorem dX9_mixAll_1 : decode cX9_mixAll 1 = .ok (.istore_n 3, 1) := by decide +kernel
theorem dX9_mixAll_2 : decode cX9_mixAll 2 = .ok (.iload_n 3, 1) := by decide +kernel
theorem dX9_mixAll_3 : decode cX9_mixAll 3 = .ok (.iload_n 2, 1) := by decide +kernel
theorem dX9_mixAll_4 : decode cX9_mixAll 4 = .ok (.if_icmp .ge 21, 3) := by decide +kernel
theorem dX9_mixAll_7 : decode cX9_mixAll 7 = .ok (.aload_n 0, 1) := by decide +kernel
theorem dX9_mixAll_8 : decode cX9_mixAll 8 = .ok (.aload_n 0, 1) := by decide +kernel
theorem dX9_mixAll_9 : decode cX9_mixAll 9 = .ok (.getfield 7, 3) := by decide +kernel
theorem dX9_mixAll_12 : decode cX9_mixAll 12 = .ok (.iload_n 1, 1) := by decide +kernel
theorem dX9_mixAll_13 : decode cX9_mixAll 13 = .ok (.iload_n 3, 1) := by decide +kernel
theorem dX9_mixAll_14 : decode cX9_mixAll 14 = .ok (.iadd, 1) := by decide +kernel
theorem dX9_mixAll_15 : decode cX9_mixAll 15 = .ok (.iaload, 1) := by decide +kernel
theorem dX9_mixAll_16 : decode cX9_mixAll 16 = .ok (.invokevirtual 199, 3) := by decide +kernel
theorem dX9_mixAll_19 : decode cX9_mixAll 19 = .ok (.iinc 3 1, 3) := by decide +kernel
theorem dX9_mixAll_22 : decode cX9_mixAll 22 = .ok (.goto (-20), 3) := by decide +kernel
theorem dX9_mixAll_25 : decode cX9_mixAll 25 = .ok (.return_, 1) := by decide +kernel
theorem dX9_digest_0 : decode cX9_digest 0 = .ok (.aload_n 0, 1) := by decide +kernel
theorem dX9_digest_1 : decode cX9_digest 1 = .ok (.iconst 0, 1) := by decide +kernel
theorem dX9_digest_2 : decode cX9_digest 2 = .ok (.putfield 25, 3) := by decide +kernel
theorem dX9_digest_5 : decode cX9_digest 5 = .ok (.aload_n 0, 1) := by decide +kernel
theorem dX9_digest_6 : decode cX9_digest 6 = .ok (.ldc2_w 202, 3) := by decide +kernel
theorem dX9_digest_9 : decode cX9_digest 9 = .ok (.putfield 195, 3) := by decide +kernel
theorem dX9_digest_12 : decode cX9_digest 12 = .ok (.aload_n 0, 1) := by decide +kernel
theorem dX9_digest_13 : decode cX9_digest 13 = .ok (.aload_n 0, 1) := by decide +kernel
theorem dX9_digest_14 : decode cX9_digest 14 = .ok (.getfield 168, 3) := by decide +kernel
theorem dX9_digest_17 : decode cX9_digest 17 = .ok (.invokevirtual 199, 3) := by decide +kernel
theorem dX9_digest_20 : decode cX9_digest 20 = .ok (.aload_n 0, 1) := by decide +kernel
theorem dX9_digest_21 : decode cX9_digest 21 = .ok (.iconst 0, 1) := by decide +kernel
theorem dX9_digest_22 : decode cX9_digest 22 = .ok (.bipush 9, 2) := by decide +kernel
theorem dX9_digest_24 : decode cX9_digest 24 = .ok (.invokevirtual 204, 3) := by decide +kernel
theorem dX9_digest_27 : decode cX9_digest 27 = .ok (.iconst 0, 1) := by decide +kernel
theorem dX9_digest_28 : decode cX9_digest 28 = .ok (.istore_n 1, 1) := by decide +kernel
theorem dX9_digest_29 : decode cX9_digest 29 = .ok (.iload_n 1, 1) := by decide +kernel
theorem dX9_digest_30 : decode cX9_digest 30 = .ok (.aload_n 0, 1) := by decide +kernel
theorem dX9_digest_31 : decode cX9_digest 31 = .ok (.getfield 7, 3) := by decide +kernel
theorem dX9_digest_34 : decode cX9_digest 34 = .ok (.bipush 9, 2) := by decide +kernel
theorem dX9_digest_36 : decode cX9_digest 36 = .ok (.iaload, 1) := by decide +kernel
theorem dX9_digest_37 : decode cX9_digest 37 = .ok (.if_icmp .ge 33, 3) := by decide +kernel
theorem dX9_digest_40 : decode cX9_digest 40 = .ok (.iconst 0, 1) := by decide +kernel
theorem dX9_digest_41 : decode cX9_digest 41 = .ok (.istore_n 2, 1) := by decide +kernel
theorem dX9_digest_42 : decode cX9_digest 42 = .ok (.iload_n 2, 1) := by decide +kernel
theorem dX9_digest_43 : decode cX9_digest 43 = .ok (.bipush 8, 2) := by decide +kernel
theorem dX9_digest_45 : decode cX9_digest 45 = .ok (.if_icmp .ge 19, 3) := by decide +kernel
theorem dX9_digest_48 : decode cX9_digest 48 = .ok (.aload_n 0, 1) := by decide +kernel
theorem dX9_digest_49 : decode cX9_digest 49 = .ok (.aload_n 0, 1) := by decide +kernel
theorem dX9_digest_50 : decode cX9_digest 50 = .ok (.iload_n 1, 1) := by decide +kernel
theorem dX9_digest_51 : decode cX9_digest 51 = .ok (.iload_n 2, 1) := by decide +kernel
theorem dX9_digest_52 : decode cX9_digest 52 = .ok (.invokevirtual 106, 3) := by decide +kernel
theorem dX9_digest_55 : decode cX9_digest 55 = .ok (.invokevirtual 199, 3) := by decide +kernel
theorem dX9_digest_58 : decode cX9_digest 58 = .ok (.iinc 2 1, 3) := by decide +kernel
theorem dX9_digest_61 : decode cX9_digest 61 = .ok (.goto (-19), 3) := by decide +kernel
theorem dX9_digest_64 : decode cX9_digest 64 = .ok (.iinc 1 1, 3) := by decide +kernel
theorem dX9_digest_67 : decode cX9_digest 67 = .ok (.goto (-38), 3) := by decide +kernel
theorem dX9_digest_70 : decode cX9_digest 70 = .ok (.aload_n 0, 1) := by decide +kernel
theorem dX9_digest_71 : decode cX9_digest 71 = .ok (.bipush 10, 2) := by decide +kernel
theorem dX9_digest_73 : decode cX9_digest 73 = .ok (.iconst 1, 1) := by decide +kernel
theorem dX9_digest_74 : decode cX9_digest 74 = .ok (.aload_n 0, 1) := by decide +kernel
theorem dX9_digest_75 : decode cX9_digest 75 = .ok (.getfield 7, 3) := by decide +kernel
theorem dX9_digest_78 : decode cX9_digest 78 = .ok (.bipush 10, 2) := by decide +kernel
theorem dX9_digest_80 : decode cX9_digest 80 = .ok (.iaload, 1) := by decide +kernel
theorem dX9_digest_81 : decode cX9_digest 81 = .ok (.iadd, 1) := by decide +kernel
theorem dX9_digest_82 : decode cX9_digest 82 = .ok (.invokevirtual 204, 3) := by decide +kernel
theorem dX9_digest_85 : decode cX9_digest 85 = .ok (.aload_n 0, 1) := by decide +kernel
theorem dX9_digest_86 : decode cX9_digest 86 = .ok (.bipush 31, 2) := by decide +kernel
theorem dX9_digest_88 : decode cX9_digest 88 = .ok (.iconst 1, 1) := by decide +kernel
theorem dX9_digest_89 : decode cX9_digest 89 = .ok (.aload_n 0, 1) := by decide +kernel
theorem dX9_digest_90 : decode cX9_digest 90 = .ok (.getfield 7, 3) := by decide +kernel
theorem dX9_digest_93 : decode cX9_digest 93 = .ok (.bipush 31, 2) := by decide +kernel
theorem dX9_digest_95 : decode cX9_digest 95 = .ok (.iaload, 1) := by decide +kernel
theorem dX9_digest_96 : decode cX9_digest 96 = .ok (.iadd, 1) := by decide +kernel
theorem dX9_digest_97 : decode cX9_digest 97 = .ok (.invokevirtual 204, 3) := by decide +kernel
theorem dX9_digest_100 : decode cX9_digest 100 = .ok (.aload_n 0, 1) := by decide +kernel
theorem dX9_digest_101 : decode cX9_digest 101 = .ok (.bipush 52, 2) := by decide +kernel
theorem dX9_digest_103 : decode cX9_digest 103 = .ok (.iconst 5, 1) := by decide +kernel
theorem dX9_digest_104 : decode cX9_digest 104 = .ok (.invokevirtual 204, 3) := by decide +kernel
theorem dX9_digest_107 : decode cX9_digest 107 = .ok (.aload_n 0, 1) := by decide +kernel
theorem dX9_digest_108 : decode cX9_digest 108 = .ok (.aload_n 0, 1) := by decide +kernel
theorem dX9_digest_109 : decode cX9_digest 109 = .ok (.invokevirtual 159, 3) := by decide +kernel
theorem dX9_digest_112 : decode cX9_digest 112 = .ok (.invokevirtual 199, 3) := by decide +kernel
theorem dX9_digest_115 : decode cX9_digest 115 = .ok (.aload_n 0, 1) := by decide +kernel
theorem dX9_digest_116 : decode cX9_digest 116 = .ok (.getfield 7, 3) := by decide +kernel
theorem dX9_digest_119 : decode cX9_digest 119 = .ok (.bipush 55, 2) := by decide +kernel
theorem dX9_digest_121 : decode cX9_digest 121 = .ok (.iaload, 1) := by decide +kernel
theorem dX9_digest_122 : decode cX9_digest 122 = .ok (.bipush 63, 2) := by decide +kernel
theorem dX9_digest_124 : decode cX9_digest 124 = .ok (.if_icmp .le 16, 3) := by decide +kernel
theorem dX9_digest_127 : decode cX9_digest 127 = .ok (.aload_n 0, 1) := by decide +kernel
theorem dX9_digest_128 : decode cX9_digest 128 = .ok (.getfield 7, 3) := by decide +kernel
theorem dX9_digest_131 : decode cX9_digest 131 = .ok (.bipush 55, 2) := by decide +kernel
theorem dX9_digest_133 : decode cX9_digest 133 = .ok (.iaload, 1) := by decide +kernel
theorem dX9_digest_134 : decode cX9_digest 134 = .ok (.bipush 63, 2) := by decide +kernel
theorem dX9_digest_136 : decode cX9_digest 136 = .ok (.isub, 1) := by decide +kernel
theorem dX9_digest_137 : decode cX9_digest 137 = .ok (.goto 4, 3) := by decide +kernel
theorem dX9_digest_140 : decode cX9_digest 140 = .ok (.iconst 0, 1) := by decide +kernel
theorem dX9_digest_141 : decode cX9_digest 141 = .ok (.istore_n 1, 1) := by decide +kernel
theorem dX9_digest_142 : decode cX9_digest 142 = .ok (.iload_n 1, 1) := by decide +kernel
theorem dX9_digest_143 : decode cX9_digest 143 = .ok (.aload_n 0, 1) := by decide +kernel
theorem dX9_digest_144 : decode cX9_digest 144 = .ok (.getfield 7, 3) := by decide +kernel
theorem dX9_digest_147 : decode cX9_digest 147 = .ok (.bipush 55, 2) := by decide +kernel
theorem dX9_digest_149 : decode cX9_digest 149 = .ok (.iaload, 1) := by decide +kernel
theorem dX9_digest_150 : decode cX9_digest 150 = .ok (.if_icmp .gt 33, 3) := by decide +kernel
theorem dX9_digest_153 : decode cX9_digest 153 = .ok (.iconst 0, 1) := by decide +kernel
theorem dX9_digest_154 : decode cX9_digest 154 = .ok (.istore_n 2, 1) := by decide +kernel
theorem dX9_digest_155 : decode cX9_digest 155 = .ok (.iload_n 2, 1) := by decide +kernel
theorem dX9_digest_156 : decode cX9_digest 156 = .ok (.bipush 6, 2) := by decide +kernel
theorem dX9_digest_158 : decode cX9_digest 158 = .ok (.if_icmp .ge 19, 3) := by decide +kernel
theorem dX9_digest_161 : decode cX9_digest 161 = .ok (.aload_n 0, 1) := by decide +kernel
theorem dX9_digest_162 : decode cX9_digest 162 = .ok (.aload_n 0, 1) := by decide +kernel
theorem dX9_digest_163 : decode cX9_digest 163 = .ok (.iload_n 1, 1) := by decide +kernel
theorem dX9_digest_164 : decode cX9_digest 164 = .ok (.iload_n 2, 1) := by decide +kernel
theorem dX9_digest_165 : decode cX9_digest 165 = .ok (.invokevirtual 156, 3) := by decide +kernel
theorem dX9_digest_168 : decode cX9_digest 168 = .ok (.invokevirtual 199, 3) := by decide +kernel
theorem dX9_digest_171 : decode cX9_digest 171 = .ok (.iinc 2 1, 3) := by decide +kernel
theorem dX9_digest_174 : decode cX9_digest 174 = .ok (.goto (-19), 3) := by decide +kernel
theorem dX9_digest_177 : decode cX9_digest 177 = .ok (.iinc 1 1, 3) := by decide +kernel
theorem dX9_digest_180 : decode cX9_digest 180 = .ok (.goto (-38), 3) := by decide +kernel
theorem dX9_digest_183 : decode cX9_digest 183 = .ok (.iconst 0, 1) := by decide +kernel
theorem dX9_digest_184 : decode cX9_digest 184 = .ok (.istore_n 1, 1) := by decide +kernel
theorem dX9_digest_185 : decode cX9_digest 185 = .ok (.iload_n 1, 1) := by decide +kernel
theorem dX9_digest_186 : decode cX9_digest 186 = .ok (.bipush 8, 2) := by decide +kernel
theorem dX9_digest_188 : decode cX9_digest 188 = .ok (.if_icmp .ge 18, 3) := by decide +kernel
theorem dX9_digest_191 : decode cX9_digest 191 = .ok (.aload_n 0, 1) := by decide +kernel
theorem dX9_digest_192 : decode cX9_digest 192 = .ok (.aload_n 0, 1) := by decide +kernel
theorem dX9_digest_193 : decode cX9_digest 193 = .ok (.iload_n 1, 1) := by decide +kernel
theorem dX9_digest_194 : decode cX9_digest 194 = .ok (.invokevirtual 162, 3) := by decide +kernel
theorem dX9_digest_197 : decode cX9_digest 197 = .ok (.invokevirtual 199, 3) := by decide +kernel
theorem dX9_digest_200 : decode cX9_digest 200 = .ok (.iinc 1 1, 3) := by decide +kernel
theorem dX9_digest_203 : decode cX9_digest 203 = .ok (.goto (-18), 3) := by decide +kernel
theorem dX9_digest_206 : decode cX9_digest 206 = .ok (.aload_n 0, 1) := by decide +kernel
theorem dX9_digest_207 : decode cX9_digest 207 = .ok (.aload_n 0, 1) := by decide +kernel
theorem dX9_digest_208 : decode cX9_digest 208 = .ok (.invokevirtual 165, 3) := by decide +kernel
theorem dX9_digest_211 : decode cX9_digest 211 = .ok (.invokevirtual 199, 3) := by decide +kernel
theorem dX9_digest_214 : decode cX9_digest 214 = .ok (.aload_n 0, 1) := by decide +kernel
theorem dX9_digest_215 : decode cX9_digest 215 = .ok (.aload_n 0, 1) := by decide +kernel
theorem dX9_digest_216 : decode cX9_digest 216 = .ok (.getfield 7, 3) := by decide +kernel
theorem dX9_digest_219 : decode cX9_digest 219 = .ok (.bipush 65, 2) := by decide +kernel
theorem dX9_digest_221 : decode cX9_digest 221 = .ok (.iaload, 1) := by decide +kernel
theorem dX9_digest_222 : decode cX9_digest 222 = .ok (.invokevirtual 199, 3) := by decide +kernel
theorem dX9_digest_225 : decode cX9_digest 225 = .ok (.aload_n 0, 1) := by decide +kernel
theorem dX9_digest_226 : decode cX9_digest 226 = .ok (.aload_n 0, 1) := by decide +kernel
theorem dX9_digest_227 : decode cX9_digest 227 = .ok (.getfield 29, 3) := by decide +kernel
theorem dX9_digest_230 : decode cX9_digest 230 = .ok (.invokevirtual 199, 3) := by decide +kernel
theorem dX9_digest_233 : decode cX9_digest 233 = .ok (.aload_n 0, 1) := by decide +kernel
theorem dX9_digest_234 : decode cX9_digest 234 = .ok (.getfield 195, 3) := by decide +kernel
theorem dX9_digest_237 : decode cX9_digest 237 = .ok (.lreturn, 1) := by decide +kernel
