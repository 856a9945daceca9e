theorem dX0_init_0 : decode cX0_init 0 = .ok (.aload_n 0, 1) := by decide +kernel
theorem dX0_init_1 : decode cX0_init 1 = .ok (.invokespecial 3, 3) := by decide +kernel
theorem dX0_init_4 : decode cX0_init 4 = .ok (.aload_n 0, 1) := by decide +kernel
theorem dX0_init_5 : decode cX0_init 5 = .ok (.bipush 8, 2) := by decide +kernel
theorem dX0_init_7 : decode cX0_init 7 = .ok (.newarray .int, 2) := by decide +kernel
theorem dX0_init_9 : decode cX0_init 9 = .ok (.putfield 9, 3) := by decide +kernel
theorem dX0_init_12 : decode cX0_init 12 = .ok (.aload_n 0, 1) := by decide +kernel
theorem dX0_init_13 : decode cX0_init 13 = .ok (.bipush 80, 2) := by decide +kernel
theorem dX0_init_15 : decode cX0_init 15 = .ok (.newarray .int, 2) := by decide +kernel
theorem dX0_init_17 : decode cX0_init 17 = .ok (.putfield 15, 3) := by decide +kernel
theorem dX0_init_20 : decode cX0_init 20 = .ok (.aload_n 0, 1) := by decide +kernel
theorem dX0_init_21 : decode cX0_init 21 = .ok (.sipush 2048, 3) := by decide +kernel
theorem dX0_init_24 : decode cX0_init 24 = .ok (.newarray .int, 2) := by decide +kernel
theorem dX0_init_26 : decode cX0_init 26 = .ok (.putfield 18, 3) := by decide +kernel
theorem dX0_init_29 : decode cX0_init 29 = .ok (.aload_n 0, 1) := by decide +kernel
theorem dX0_init_30 : decode cX0_init 30 = .ok (.sipush 2048, 3) := by decide +kernel
theorem dX0_init_33 : decode cX0_init 33 = .ok (.newarray .int, 2) := by decide +kernel
theorem dX0_init_35 : decode cX0_init 35 = .ok (.putfield 21, 3) := by decide +kernel
theorem dX0_init_38 : decode cX0_init 38 = .ok (.return_, 1) := by decide +kernel
theorem dX0_clear_0 : decode cX0_clear 0 = .ok (.aload_n 0, 1) := by decide +kernel
theorem dX0_clear_1 : decode cX0_clear 1 = .ok (.iconst 0, 1) := by decide +kernel
theorem dX0_clear_2 : decode cX0_clear 2 = .ok (.putfield 24, 3) := by decide +kernel
theorem dX0_clear_5 : decode cX0_clear 5 = .ok (.aload_n 0, 1) := by decide +kernel
theorem dX0_clear_6 : decode cX0_clear 6 = .ok (.iconst 0, 1) := by decide +kernel
theorem dX0_clear_7 : decode cX0_clear 7 = .ok (.putfield 28, 3) := by decide +kernel
theorem dX0_clear_10 : decode cX0_clear 10 = .ok (.return_, 1) := by decide +kernel
theorem dX0_make_0 : decode cX0_make 0 = .ok (.aload_n 0, 1) := by decide +kernel
theorem dX0_make_1 : decode cX0_make 1 = .ok (.aload_n 2, 1) := by decide +kernel
theorem dX0_make_2 : decode cX0_make 2 = .ok (.aload_n 3, 1) := by decide +kernel
theorem dX0_make_3 : decode cX0_make 3 = .ok (.invokevirtual 31, 3) := by decide +kernel
theorem dX0_make_6 : decode cX0_make 6 = .ok (.iconst 0, 1) := by decide +kernel
theorem dX0_make_7 : decode cX0_make 7 = .ok (.istore 4, 2) := by decide +kernel
theorem dX0_make_9 : decode cX0_make 9 = .ok (.iload 4, 2) := by decide +kernel
theorem dX0_make_11 : decode cX0_make 11 = .ok (.iload_n 1, 1) := by decide +kernel
theorem dX0_make_12 : decode cX0_make 12 = .ok (.if_icmp .gt 62, 3) := by decide +kernel
theorem dX0_make_15 : decode cX0_make 15 = .ok (.iload 4, 2) := by decide +kernel
theorem dX0_make_17 : decode cX0_make 17 = .ok (.sipush 256, 3) := by decide +kernel
theorem dX0_make_20 : decode cX0_make 20 = .ok (.if_icmp .ge 54, 3) := by decide +kernel
theorem dX0_make_23 : decode cX0_make 23 = .ok (.iconst 0, 1) := by decide +kernel
theorem dX0_make_24 : decode cX0_make 24 = .ok (.istore 5, 2) := by decide +kernel
theorem dX0_make_26 : decode cX0_make 26 = .ok (.iload 5, 2) := by decide +kernel
theorem dX0_make_28 : decode cX0_make 28 = .ok (.bipush 8, 2) := by decide +kernel
theorem dX0_make_30 : decode cX0_make 30 = .ok (.if_icmp .ge 38, 3) := by decide +kernel
theorem dX0_make_33 : decode cX0_make 33 = .ok (.iload 4, 2) := by decide +kernel
theorem dX0_make_35 : decode cX0_make 35 = .ok (.iload_n 1, 1) := by decide +kernel
theorem dX0_make_36 : decode cX0_make 36 = .ok (.iand, 1) := by decide +kernel
theorem dX0_make_37 : decode cX0_make 37 = .ok (.iload 4, 2) := by decide +kernel
theorem dX0_make_39 : decode cX0_make 39 = .ok (.if_icmp .ne 23, 3) := by decide +kernel
theorem dX0_make_42 : decode cX0_make 42 = .ok (.iload_n 1, 1) := by decide +kernel
theorem dX0_make_43 : decode cX0_make 43 = .ok (.iload 4, 2) := by decide +kernel
theorem dX0_make_45 : decode cX0_make 45 = .ok (.ixor, 1) := by decide +kernel
theorem dX0_make_46 : decode cX0_make 46 = .ok (.iload 5, 2) := by decide +kernel
theorem dX0_make_48 : decode cX0_make 48 = .ok (.invokestatic 35, 3) := by decide +kernel
theorem dX0_make_51 : decode cX0_make 51 = .ok (.ifCond .eq 11, 3) := by decide +kernel
theorem dX0_make_54 : decode cX0_make 54 = .ok (.aload_n 0, 1) := by decide +kernel
theorem dX0_make_55 : decode cX0_make 55 = .ok (.iload 4, 2) := by decide +kernel
theorem dX0_make_57 : decode cX0_make 57 = .ok (.iload 5, 2) := by decide +kernel
theorem dX0_make_59 : decode cX0_make 59 = .ok (.invokevirtual 39, 3) := by decide +kernel
theorem dX0_make_62 : decode cX0_make 62 = .ok (.iinc 5 1, 3) := by decide +kernel
theorem dX0_make_65 : decode cX0_make 65 = .ok (.goto (-39), 3) := by decide +kernel
theorem dX0_make_68 : decode cX0_make 68 = .ok (.iinc 4 1, 3) := by decide +kernel
theorem dX0_make_71 : decode cX0_make 71 = .ok (.goto (-62), 3) := by decide +kernel
theorem dX0_make_74 : decode cX0_make 74 = .ok (.aload_n 0, 1) := by decide +kernel
theorem dX0_make_75 : decode cX0_make 75 = .ok (.iload_n 1, 1) := by decide +kernel
theorem dX0_make_76 : decode cX0_make 76 = .ok (.invokevirtual 43, 3) := by decide +kernel
theorem dX0_make_79 : decode cX0_make 79 = .ok (.ireturn, 1) := by decide +kernel
theorem dX0_measure_0 : decode cX0_measure 0 = .ok (.aload_n 1, 1) := by decide +kernel
theorem dX0_measure_1 : decode cX0_measure 1 = .ok (.getfield 47, 3) := by decide +kernel
theorem dX0_measure_4 : decode cX0_measure 4 = .ok (.astore_n 3, 1) := by decide +kernel
theorem dX0_measure_5 : decode cX0_measure 5 = .ok (.iconst 0, 1) := by decide +kernel
theorem dX0_measure_6 : decode cX0_measure 6 = .ok (.istore 4, 2) := by decide +kernel
theorem dX0_measure_8 : decode cX0_measure 8 = .ok (.iload 4, 2) := by decide +kernel
theorem dX0_measure_10 : decode cX0_measure 10 = .ok (.aload_n 1, 1) := by decide +kernel
theorem dX0_measure_11 : decode cX0_measure 11 = .ok (.getfield 52, 3) := by decide +kernel
theorem dX0_measure_14 : decode cX0_measure 14 = .ok (.if_icmp .ge 124, 3) := by decide +kernel
theorem dX0_measure_17 : decode cX0_measure 17 = .ok (.iconst 0, 1) := by decide +kernel
theorem dX0_measure_18 : decode cX0_measure 18 = .ok (.istore 5, 2) := by decide +kernel
theorem dX0_measure_20 : decode cX0_measure 20 = .ok (.iload 5, 2) := by decide +kernel
theorem dX0_measure_22 : decode cX0_measure 22 = .ok (.aload_n 1, 1) := by decide +kernel
theorem dX0_measure_23 : decode cX0_measure 23 = .ok (.getfield 52, 3) := by decide +kernel
theorem dX0_measure_26 : decode cX0_measure 26 = .ok (.if_icmp .ge 36, 3) := by decide +kernel
theorem dX0_measure_29 : decode cX0_measure 29 = .ok (.aload_n 0, 1) := by decide +kernel
theorem dX0_measure_30 : decode cX0_measure 30 = .ok (.getfield 15, 3) := by decide +kernel
theorem dX0_measure_33 : decode cX0_measure 33 = .ok (.iload 5, 2) := by decide +kernel
theorem dX0_measure_35 : decode cX0_measure 35 = .ok (.iload 4, 2) := by decide +kernel
theorem dX0_measure_37 : decode cX0_measure 37 = .ok (.invokestatic 55, 3) := by decide +kernel
theorem dX0_measure_40 : decode cX0_measure 40 = .ok (.aload_n 3, 1) := by decide +kernel
theorem dX0_measure_41 : decode cX0_measure 41 = .ok (.bipush 12, 2) := by decide +kernel
theorem dX0_measure_43 : decode cX0_measure 43 = .ok (.iload 5, 2) := by decide +kernel
theorem dX0_measure_45 : decode cX0_measure 45 = .ok (.imul, 1) := by decide +kernel
theorem dX0_measure_46 : decode cX0_measure 46 = .ok (.aload_n 3, 1) := by decide +kernel
theorem dX0_measure_47 : decode cX0_measure 47 = .ok (.bipush 12, 2) := by decide +kernel
theorem dX0_measure_49 : decode cX0_measure 49 = .ok (.iload 4, 2) := by decide +kernel
theorem dX0_measure_51 : decode cX0_measure 51 = .ok (.imul, 1) := by decide +kernel
theorem dX0_measure_52 : decode cX0_measure 52 = .ok (.invokestatic 59, 3) := by decide +kernel
theorem dX0_measure_55 : decode cX0_measure 55 = .ok (.iastore, 1) := by decide +kernel
theorem dX0_measure_56 : decode cX0_measure 56 = .ok (.iinc 5 1, 3) := by decide +kernel
theorem dX0_measure_59 : decode cX0_measure 59 = .ok (.goto (-39), 3) := by decide +kernel
theorem dX0_measure_62 : decode cX0_measure 62 = .ok (.aload_n 0, 1) := by decide +kernel
theorem dX0_measure_63 : decode cX0_measure 63 = .ok (.getfield 15, 3) := by decide +kernel
theorem dX0_measure_66 : decode cX0_measure 66 = .ok (.bipush 8, 2) := by decide +kernel
theorem dX0_measure_68 : decode cX0_measure 68 = .ok (.iload 4, 2) := by decide +kernel
theorem dX0_measure_70 : decode cX0_measure 70 = .ok (.invokestatic 55, 3) := by decide +kernel
theorem dX0_measure_73 : decode cX0_measure 73 = .ok (.aload_n 2, 1) := by decide +kernel
theorem dX0_measure_74 : decode cX0_measure 74 = .ok (.iconst 0, 1) := by decide +kernel
theorem dX0_measure_75 : decode cX0_measure 75 = .ok (.aload_n 3, 1) := by decide +kernel
theorem dX0_measure_76 : decode cX0_measure 76 = .ok (.bipush 12, 2) := by decide +kernel
theorem dX0_measure_78 : decode cX0_measure 78 = .ok (.iload 4, 2) := by decide +kernel
theorem dX0_measure_80 : decode cX0_measure 80 = .ok (.imul, 1) := by decide +kernel
theorem dX0_measure_81 : decode cX0_measure 81 = .ok (.invokestatic 59, 3) := by decide +kernel
theorem dX0_measure_84 : decode cX0_measure 84 = .ok (.iastore, 1) := by decide +kernel
theorem dX0_measure_85 : decode cX0_measure 85 = .ok (.iconst 0, 1) := by decide +kernel
theorem dX0_measure_86 : decode cX0_measure 86 = .ok (.istore 5, 2) := by decide +kernel
theorem dX0_measure_88 : decode cX0_measure 88 = .ok (.iconst 0, 1) := by decide +kernel
theorem dX0_measure_89 : decode cX0_measure 89 = .ok (.istore 6, 2) := by decide +kernel
theorem dX0_measure_91 : decode cX0_measure 91 = .ok (.iload 6, 2) := by decide +kernel
theorem dX0_measure_93 : decode cX0_measure 93 = .ok (.iconst 4, 1) := by decide +kernel
theorem dX0_measure_94 : decode cX0_measure 94 = .ok (.if_icmp .ge 24, 3) := by decide +kernel
theorem dX0_measure_97 : decode cX0_measure 97 = .ok (.iload 5, 2) := by decide +kernel
theorem dX0_measure_99 : decode cX0_measure 99 = .ok (.aload_n 3, 1) := by decide +kernel
theorem dX0_measure_100 : decode cX0_measure 100 = .ok (.bipush 12, 2) := by decide +kernel
theorem dX0_measure_102 : decode cX0_measure 102 = .ok (.iload 4, 2) := by decide +kernel
theorem dX0_measure_104 : decode cX0_measure 104 = .ok (.imul, 1) := by decide +kernel
theorem dX0_measure_105 : decode cX0_measure 105 = .ok (.iload 6, 2) := by decide +kernel
theorem dX0_measure_107 : decode cX0_measure 107 = .ok (.iadd, 1) := by decide +kernel
theorem dX0_measure_108 : decode cX0_measure 108 = .ok (.iaload, 1) := by decide +kernel
theorem dX0_measure_109 : decode cX0_measure 109 = .ok (.iadd, 1) := by decide +kernel
theorem dX0_measure_110 : decode cX0_measure 110 = .ok (.istore 5, 2) := by decide +kernel
theorem dX0_measure_112 : decode cX0_measure 112 = .ok (.iinc 6 1, 3) := by decide +kernel
theorem dX0_measure_115 : decode cX0_measure 115 = .ok (.goto (-24), 3) := by decide +kernel
theorem dX0_measure_118 : decode cX0_measure 118 = .ok (.aload_n 0, 1) := by decide +kernel
theorem dX0_measure_119 : decode cX0_measure 119 = .ok (.getfield 15, 3) := by decide +kernel
theorem dX0_measure_122 : decode cX0_measure 122 = .ok (.bipush 9, 2) := by decide +kernel
theorem dX0_measure_124 : decode cX0_measure 124 = .ok (.iload 4, 2) := by decide +kernel
theorem dX0_measure_126 : decode cX0_measure 126 = .ok (.invokestatic 55, 3) := by decide +kernel
theorem dX0_measure_129 : decode cX0_measure 129 = .ok (.iload 5, 2) := by decide +kernel
theorem dX0_measure_131 : decode cX0_measure 131 = .ok (.iastore, 1) := by decide +kernel
theorem dX0_measure_132 : decode cX0_measure 132 = .ok (.iinc 4 1, 3) := by decide +kernel
theorem dX0_measure_135 : decode cX0_measure 135 = .ok (.goto (-127), 3) := by decide +kernel
theorem dX0_measure_138 : decode cX0_measure 138 = .ok (.return_, 1) := by decide +kernel
theorem dX0_pennies_0 : decode cX0_pennies 0 = .ok (.iconst 0, 1) := by decide +kernel
theorem dX0_pennies_1 : decode cX0_pennies 1 = .ok (.istore 4, 2) := by decide +kernel
theorem dX0_pennies_3 : decode cX0_pennies 3 = .ok (.iconst 0, 1) := by decide +kernel
theorem dX0_pennies_4 : decode cX0_pennies 4 = .ok (.istore 5, 2) := by decide +kernel
theorem dX0_pennies_6 : decode cX0_pennies 6 = .ok (.iload 5, 2) := by decide +kernel
theorem dX0_pennies_8 : decode cX0_pennies 8 = .ok (.iconst 4, 1) := by decide +kernel
theorem dX0_pennies_9 : decode cX0_pennies 9 = .ok (.if_icmp .ge 30, 3) := by decide +kernel
theorem dX0_pennies_12 : decode cX0_pennies 12 = .ok (.iload 4, 2) := by decide +kernel
theorem dX0_pennies_14 : decode cX0_pennies 14 = .ok (.aload_n 0, 1) := by decide +kernel
theorem dX0_pennies_15 : decode cX0_pennies 15 = .ok (.iload_n 1, 1) := by decide +kernel
theorem dX0_pennies_16 : decode cX0_pennies 16 = .ok (.iload 5, 2) := by decide +kernel
theorem dX0_pennies_18 : decode cX0_pennies 18 = .ok (.iadd, 1) := by decide +kernel
theorem dX0_pennies_19 : decode cX0_pennies 19 = .ok (.iaload, 1) := by decide +kernel
theorem dX0_pennies_20 : decode cX0_pennies 20 = .ok (.aload_n 2, 1) := by decide +kernel
theorem dX0_pennies_21 : decode cX0_pennies 21 = .ok (.iload_n 3, 1) := by decide +kernel
theorem dX0_pennies_22 : decode cX0_pennies 22 = .ok (.iload 5, 2) := by decide +kernel
theorem dX0_pennies_24 : decode cX0_pennies 24 = .ok (.iadd, 1) := by decide +kernel
theorem dX0_pennies_25 : decode cX0_pennies 25 = .ok (.iaload, 1) := by decide +kernel
theorem dX0_pennies_26 : decode cX0_pennies 26 = .ok (.isub, 1) := by decide +kernel
theorem dX0_pennies_27 : decode cX0_pennies 27 = .ok (.invokestatic 63, 3) := by decide +kernel
theorem dX0_pennies_30 : decode cX0_pennies 30 = .ok (.iadd, 1) := by decide +kernel
theorem dX0_pennies_31 : decode cX0_pennies 31 = .ok (.istore 4, 2) := by decide +kernel
theorem dX0_pennies_33 : decode cX0_pennies 33 = .ok (.iinc 5 1, 3) := by decide +kernel
theorem dX0_pennies_36 : decode cX0_pennies 36 = .ok (.goto (-30), 3) := by decide +kernel
theorem dX0_pennies_39 : decode cX0_pennies 39 = .ok (.iload 4, 2) := by decide +kernel
theorem dX0_pennies_41 : decode cX0_pennies 41 = .ok (.ireturn, 1) := by decide +kernel
theorem dX0_apartOf_0 : decode cX0_apartOf 0 = .ok (.bipush 8, 2) := by decide +kernel
theorem dX0_apartOf_2 : decode cX0_apartOf 2 = .ok (.iload_n 0, 1) := by decide +kernel
theorem dX0_apartOf_3 : decode cX0_apartOf 3 = .ok (.imul, 1) := by decide +kernel
theorem dX0_apartOf_4 : decode cX0_apartOf 4 = .ok (.iload_n 1, 1) := by decide +kernel
theorem dX0_apartOf_5 : decode cX0_apartOf 5 = .ok (.iadd, 1) := by decide +kernel
theorem dX0_apartOf_6 : decode cX0_apartOf 6 = .ok (.ireturn, 1) := by decide +kernel
theorem dX0_has_0 : decode cX0_has 0 = .ok (.iload_n 0, 1) := by decide +kernel
theorem dX0_has_1 : decode cX0_has 1 = .ok (.iload_n 1, 1) := by decide +kernel
theorem dX0_has_2 : decode cX0_has 2 = .ok (.ishr, 1) := by decide +kernel
theorem dX0_has_3 : decode cX0_has 3 = .ok (.iconst 1, 1) := by decide +kernel
theorem dX0_has_4 : decode cX0_has 4 = .ok (.iand, 1) := by decide +kernel
theorem dX0_has_5 : decode cX0_has 5 = .ok (.iconst 1, 1) := by decide +kernel
theorem dX0_has_6 : decode cX0_has 6 = .ok (.if_icmp .ne 7, 3) := by decide +kernel
theorem dX0_has_9 : decode cX0_has 9 = .ok (.iconst 1, 1) := by decide +kernel
theorem dX0_has_10 : decode cX0_has 10 = .ok (.goto 4, 3) := by decide +kernel
theorem dX0_has_13 : decode cX0_has 13 = .ok (.iconst 0, 1) := by decide +kernel
theorem dX0_has_14 : decode cX0_has 14 = .ok (.ireturn, 1) := by decide +kernel
theorem dX0_stateOf_0 : decode cX0_stateOf 0 = .ok (.bipush 8, 2) := by decide +kernel
theorem dX0_stateOf_2 : decode cX0_stateOf 2 = .ok (.iload_n 0, 1) := by decide +kernel
theorem dX0_stateOf_3 : decode cX0_stateOf 3 = .ok (.imul, 1) := by decide +kernel
theorem dX0_stateOf_4 : decode cX0_stateOf 4 = .ok (.iload_n 1, 1) := by decide +kernel
theorem dX0_stateOf_5 : decode cX0_stateOf 5 = .ok (.iadd, 1) := by decide +kernel
theorem dX0_stateOf_6 : decode cX0_stateOf 6 = .ok (.ireturn, 1) := by decide +kernel
theorem dX0_weigh_0 : decode cX0_weigh 0 = .ok (.iload_n 1, 1) := by decide +kernel
theorem dX0_weigh_1 : decode cX0_weigh 1 = .ok (.ifCond .ne 7, 3) := by decide +kernel
theorem dX0_weigh_4 : decode cX0_weigh 4 = .ok (.iconst 0, 1) := by decide +kernel
theorem dX0_weigh_5 : decode cX0_weigh 5 = .ok (.goto 5, 3) := by decide +kernel
theorem dX0_weigh_8 : decode cX0_weigh 8 = .ok (.ldc 68, 2) := by decide +kernel
theorem dX0_weigh_10 : decode cX0_weigh 10 = .ok (.istore_n 3, 1) := by decide +kernel
theorem dX0_weigh_11 : decode cX0_weigh 11 = .ok (.iload_n 3, 1) := by decide +kernel
theorem dX0_weigh_12 : decode cX0_weigh 12 = .ok (.istore 4, 2) := by decide +kernel
theorem dX0_weigh_14 : decode cX0_weigh 14 = .ok (.iconst 0, 1) := by decide +kernel
theorem dX0_weigh_15 : decode cX0_weigh 15 = .ok (.istore 5, 2) := by decide +kernel
theorem dX0_weigh_17 : decode cX0_weigh 17 = .ok (.iload 5, 2) := by decide +kernel
theorem dX0_weigh_19 : decode cX0_weigh 19 = .ok (.bipush 8, 2) := by decide +kernel
theorem dX0_weigh_21 : decode cX0_weigh 21 = .ok (.if_icmp .ge 103, 3) := by decide +kernel
theorem dX0_weigh_24 : decode cX0_weigh 24 = .ok (.iload_n 1, 1) := by decide +kernel
theorem dX0_weigh_25 : decode cX0_weigh 25 = .ok (.iload 5, 2) := by decide +kernel
theorem dX0_weigh_27 : decode cX0_weigh 27 = .ok (.invokestatic 35, 3) := by decide +kernel
theorem dX0_weigh_30 : decode cX0_weigh 30 = .ok (.ifCond .eq 88, 3) := by decide +kernel
theorem dX0_weigh_33 : decode cX0_weigh 33 = .ok (.iload_n 1, 1) := by decide +kernel
theorem dX0_weigh_34 : decode cX0_weigh 34 = .ok (.iconst 1, 1) := by decide +kernel
theorem dX0_weigh_35 : decode cX0_weigh 35 = .ok (.iload 5, 2) := by decide +kernel
theorem dX0_weigh_37 : decode cX0_weigh 37 = .ok (.ishl, 1) := by decide +kernel
theorem dX0_weigh_38 : decode cX0_weigh 38 = .ok (.ixor, 1) := by decide +kernel
theorem dX0_weigh_39 : decode cX0_weigh 39 = .ok (.iload 5, 2) := by decide +kernel
theorem dX0_weigh_41 : decode cX0_weigh 41 = .ok (.invokestatic 69, 3) := by decide +kernel
theorem dX0_weigh_44 : decode cX0_weigh 44 = .ok (.istore 6, 2) := by decide +kernel
theorem dX0_weigh_46 : decode cX0_weigh 46 = .ok (.aload_n 0, 1) := by decide +kernel
theorem dX0_weigh_47 : decode cX0_weigh 47 = .ok (.getfield 15, 3) := by decide +kernel
theorem dX0_weigh_50 : decode cX0_weigh 50 = .ok (.iload_n 2, 1) := by decide +kernel
theorem dX0_weigh_51 : decode cX0_weigh 51 = .ok (.iload 5, 2) := by decide +kernel
theorem dX0_weigh_53 : decode cX0_weigh 53 = .ok (.invokestatic 55, 3) := by decide +kernel
theorem dX0_weigh_56 : decode cX0_weigh 56 = .ok (.iaload, 1) := by decide +kernel
theorem dX0_weigh_57 : decode cX0_weigh 57 = .ok (.istore 7, 2) := by decide +kernel
theorem dX0_weigh_59 : decode cX0_weigh 59 = .ok (.aload_n 0, 1) := by decide +kernel
theorem dX0_weigh_60 : decode cX0_weigh 60 = .ok (.getfield 15, 3) := by decide +kernel
theorem dX0_weigh_63 : decode cX0_weigh 63 = .ok (.bipush 9, 2) := by decide +kernel
theorem dX0_weigh_65 : decode cX0_weigh 65 = .ok (.iload 5, 2) := by decide +kernel
theorem dX0_weigh_67 : decode cX0_weigh 67 = .ok (.invokestatic 55, 3) := by decide +kernel
theorem dX0_weigh_70 : decode cX0_weigh 70 = .ok (.iaload, 1) := by decide +kernel
theorem dX0_weigh_71 : decode cX0_weigh 71 = .ok (.istore 8, 2) := by decide +kernel
theorem dX0_weigh_73 : decode cX0_weigh 73 = .ok (.iload 4, 2) := by decide +kernel
theorem dX0_weigh_75 : decode cX0_weigh 75 = .ok (.iload 7, 2) := by decide +kernel
theorem dX0_weigh_77 : decode cX0_weigh 77 = .ok (.aload_n 0, 1) := by decide +kernel
theorem dX0_weigh_78 : decode cX0_weigh 78 = .ok (.getfield 21, 3) := by decide +kernel
theorem dX0_weigh_81 : decode cX0_weigh 81 = .ok (.iload 6, 2) := by decide +kernel
theorem dX0_weigh_83 : decode cX0_weigh 83 = .ok (.iaload, 1) := by decide +kernel
theorem dX0_weigh_84 : decode cX0_weigh 84 = .ok (.iadd, 1) := by decide +kernel
theorem dX0_weigh_85 : decode cX0_weigh 85 = .ok (.invokestatic 72, 3) := by decide +kernel
theorem dX0_weigh_88 : decode cX0_weigh 88 = .ok (.istore 4, 2) := by decide +kernel
theorem dX0_weigh_90 : decode cX0_weigh 90 = .ok (.iload_n 3, 1) := by decide +kernel
theorem dX0_weigh_91 : decode cX0_weigh 91 = .ok (.iload 7, 2) := by decide +kernel
theorem dX0_weigh_93 : decode cX0_weigh 93 = .ok (.aload_n 0, 1) := by decide +kernel
theorem dX0_weigh_94 : decode cX0_weigh 94 = .ok (.getfield 18, 3) := by decide +kernel
theorem dX0_weigh_97 : decode cX0_weigh 97 = .ok (.iload 6, 2) := by decide +kernel
theorem dX0_weigh_99 : decode cX0_weigh 99 = .ok (.iaload, 1) := by decide +kernel
theorem dX0_weigh_100 : decode cX0_weigh 100 = .ok (.iadd, 1) := by decide +kernel
theorem dX0_weigh_101 : decode cX0_weigh 101 = .ok (.iload 8, 2) := by decide +kernel
theorem dX0_weigh_103 : decode cX0_weigh 103 = .ok (.aload_n 0, 1) := by decide +kernel
theorem dX0_weigh_104 : decode cX0_weigh 104 = .ok (.getfield 21, 3) := by decide +kernel
theorem dX0_weigh_107 : decode cX0_weigh 107 = .ok (.iload 6, 2) := by decide +kernel
theorem dX0_weigh_109 : decode cX0_weigh 109 = .ok (.iaload, 1) := by decide +kernel
theorem dX0_weigh_110 : decode cX0_weigh 110 = .ok (.iadd, 1) := by decide +kernel
theorem dX0_weigh_111 : decode cX0_weigh 111 = .ok (.invokestatic 72, 3) := by decide +kernel
theorem dX0_weigh_114 : decode cX0_weigh 114 = .ok (.invokestatic 72, 3) := by decide +kernel
theorem dX0_weigh_117 : decode cX0_weigh 117 = .ok (.istore_n 3, 1) := by decide +kernel
theorem dX0_weigh_118 : decode cX0_weigh 118 = .ok (.iinc 5 1, 3) := by decide +kernel
theorem dX0_weigh_121 : decode cX0_weigh 121 = .ok (.goto (-104), 3) := by decide +kernel
theorem dX0_weigh_124 : decode cX0_weigh 124 = .ok (.aload_n 0, 1) := by decide +kernel
theorem dX0_weigh_125 : decode cX0_weigh 125 = .ok (.getfield 18, 3) := by decide +kernel
theorem dX0_weigh_128 : decode cX0_weigh 128 = .ok (.iload_n 1, 1) := by decide +kernel
theorem dX0_weigh_129 : decode cX0_weigh 129 = .ok (.iload_n 2, 1) := by decide +kernel
theorem dX0_weigh_130 : decode cX0_weigh 130 = .ok (.invokestatic 69, 3) := by decide +kernel
theorem dX0_weigh_133 : decode cX0_weigh 133 = .ok (.iload_n 3, 1) := by decide +kernel
theorem dX0_weigh_134 : decode cX0_weigh 134 = .ok (.iastore, 1) := by decide +kernel
theorem dX0_weigh_135 : decode cX0_weigh 135 = .ok (.aload_n 0, 1) := by decide +kernel
theorem dX0_weigh_136 : decode cX0_weigh 136 = .ok (.getfield 21, 3) := by decide +kernel
theorem dX0_weigh_139 : decode cX0_weigh 139 = .ok (.iload_n 1, 1) := by decide +kernel
theorem dX0_weigh_140 : decode cX0_weigh 140 = .ok (.iload_n 2, 1) := by decide +kernel
theorem dX0_weigh_141 : decode cX0_weigh 141 = .ok (.invokestatic 69, 3) := by decide +kernel
theorem dX0_weigh_144 : decode cX0_weigh 144 = .ok (.iload 4, 2) := by decide +kernel
theorem dX0_weigh_146 : decode cX0_weigh 146 = .ok (.iastore, 1) := by decide +kernel
theorem dX0_weigh_147 : decode cX0_weigh 147 = .ok (.return_, 1) := by decide +kernel
theorem dX0_choose_0 : decode cX0_choose 0 = .ok (.iload_n 1, 1) := by decide +kernel
theorem dX0_choose_1 : decode cX0_choose 1 = .ok (.istore_n 2, 1) := by decide +kernel
theorem dX0_choose_2 : decode cX0_choose 2 = .ok (.bipush 8, 2) := by decide +kernel
theorem dX0_choose_4 : decode cX0_choose 4 = .ok (.istore_n 3, 1) := by decide +kernel
theorem dX0_choose_5 : decode cX0_choose 5 = .ok (.iconst 0, 1) := by decide +kernel
theorem dX0_choose_6 : decode cX0_choose 6 = .ok (.istore 4, 2) := by decide +kernel
theorem dX0_choose_8 : decode cX0_choose 8 = .ok (.ldc 68, 2) := by decide +kernel
theorem dX0_choose_10 : decode cX0_choose 10 = .ok (.istore 5, 2) := by decide +kernel
theorem dX0_choose_12 : decode cX0_choose 12 = .ok (.ldc 68, 2) := by decide +kernel
theorem dX0_choose_14 : decode cX0_choose 14 = .ok (.istore 6, 2) := by decide +kernel
theorem dX0_choose_16 : decode cX0_choose 16 = .ok (.aload_n 0, 1) := by decide +kernel
theorem dX0_choose_17 : decode cX0_choose 17 = .ok (.iconst 0, 1) := by decide +kernel
theorem dX0_choose_18 : decode cX0_choose 18 = .ok (.putfield 24, 3) := by decide +kernel
theorem dX0_choose_21 : decode cX0_choose 21 = .ok (.iload_n 2, 1) := by decide +kernel
theorem dX0_choose_22 : decode cX0_choose 22 = .ok (.ifCond .eq 143, 3) := by decide +kernel
theorem dX0_choose_25 : decode cX0_choose 25 = .ok (.aload_n 0, 1) := by decide +kernel
theorem dX0_choose_26 : decode cX0_choose 26 = .ok (.getfield 24, 3) := by decide +kernel
theorem dX0_choose_29 : decode cX0_choose 29 = .ok (.bipush 8, 2) := by decide +kernel
theorem dX0_choose_31 : decode cX0_choose 31 = .ok (.if_icmp .ge 134, 3) := by decide +kernel
theorem dX0_choose_34 : decode cX0_choose 34 = .ok (.iconst 0, 1) := by decide +kernel
theorem dX0_choose_35 : decode cX0_choose 35 = .ok (.istore 7, 2) := by decide +kernel
theorem dX0_choose_37 : decode cX0_choose 37 = .ok (.ldc 68, 2) := by decide +kernel
theorem dX0_choose_39 : decode cX0_choose 39 = .ok (.istore 6, 2) := by decide +kernel
theorem dX0_choose_41 : decode cX0_choose 41 = .ok (.iconst 0, 1) := by decide +kernel
theorem dX0_choose_42 : decode cX0_choose 42 = .ok (.istore 8, 2) := by decide +kernel
theorem dX0_choose_44 : decode cX0_choose 44 = .ok (.iload 8, 2) := by decide +kernel
theorem dX0_choose_46 : decode cX0_choose 46 = .ok (.bipush 8, 2) := by decide +kernel
theorem dX0_choose_48 : decode cX0_choose 48 = .ok (.if_icmp .ge 52, 3) := by decide +kernel
theorem dX0_choose_51 : decode cX0_choose 51 = .ok (.iload_n 2, 1) := by decide +kernel
theorem dX0_choose_52 : decode cX0_choose 52 = .ok (.iload 8, 2) := by decide +kernel
theorem dX0_choose_54 : decode cX0_choose 54 = .ok (.invokestatic 35, 3) := by decide +kernel
theorem dX0_choose_57 : decode cX0_choose 57 = .ok (.ifCond .eq 18, 3) := by decide +kernel
theorem dX0_choose_60 : decode cX0_choose 60 = .ok (.aload_n 0, 1) := by decide +kernel
theorem dX0_choose_61 : decode cX0_choose 61 = .ok (.iload_n 2, 1) := by decide +kernel
theorem dX0_choose_62 : decode cX0_choose 62 = .ok (.iload_n 3, 1) := by decide +kernel
theorem dX0_choose_63 : decode cX0_choose 63 = .ok (.iload 8, 2) := by decide +kernel
theorem dX0_choose_65 : decode cX0_choose 65 = .ok (.iload 4, 2) := by decide +kernel
theorem dX0_choose_67 : decode cX0_choose 67 = .ok (.iload 5, 2) := by decide +kernel
theorem dX0_choose_69 : decode cX0_choose 69 = .ok (.invokevirtual 75, 3) := by decide +kernel
theorem dX0_choose_72 : decode cX0_choose 72 = .ok (.goto 5, 3) := by decide +kernel
theorem dX0_choose_75 : decode cX0_choose 75 = .ok (.ldc 68, 2) := by decide +kernel
theorem dX0_choose_77 : decode cX0_choose 77 = .ok (.istore 9, 2) := by decide +kernel
theorem dX0_choose_79 : decode cX0_choose 79 = .ok (.iload 9, 2) := by decide +kernel
theorem dX0_choose_81 : decode cX0_choose 81 = .ok (.iload 6, 2) := by decide +kernel
theorem dX0_choose_83 : decode cX0_choose 83 = .ok (.if_icmp .ge 11, 3) := by decide +kernel
theorem dX0_choose_86 : decode cX0_choose 86 = .ok (.iload 9, 2) := by decide +kernel
theorem dX0_choose_88 : decode cX0_choose 88 = .ok (.istore 6, 2) := by decide +kernel
theorem dX0_choose_90 : decode cX0_choose 90 = .ok (.iload 8, 2) := by decide +kernel
theorem dX0_choose_92 : decode cX0_choose 92 = .ok (.istore 7, 2) := by decide +kernel
theorem dX0_choose_94 : decode cX0_choose 94 = .ok (.iinc 8 1, 3) := by decide +kernel
theorem dX0_choose_97 : decode cX0_choose 97 = .ok (.goto (-53), 3) := by decide +kernel
theorem dX0_choose_100 : decode cX0_choose 100 = .ok (.aload_n 0, 1) := by decide +kernel
theorem dX0_choose_101 : decode cX0_choose 101 = .ok (.iload_n 3, 1) := by decide +kernel
theorem dX0_choose_102 : decode cX0_choose 102 = .ok (.iload 7, 2) := by decide +kernel
theorem dX0_choose_104 : decode cX0_choose 104 = .ok (.iload 4, 2) := by decide +kernel
theorem dX0_choose_106 : decode cX0_choose 106 = .ok (.iload 5, 2) := by decide +kernel
theorem dX0_choose_108 : decode cX0_choose 108 = .ok (.invokevirtual 79, 3) := by decide +kernel
theorem dX0_choose_111 : decode cX0_choose 111 = .ok (.istore 5, 2) := by decide +kernel
theorem dX0_choose_113 : decode cX0_choose 113 = .ok (.iload 4, 2) := by decide +kernel
theorem dX0_choose_115 : decode cX0_choose 115 = .ok (.aload_n 0, 1) := by decide +kernel
theorem dX0_choose_116 : decode cX0_choose 116 = .ok (.getfield 15, 3) := by decide +kernel
theorem dX0_choose_119 : decode cX0_choose 119 = .ok (.iload_n 3, 1) := by decide +kernel
theorem dX0_choose_120 : decode cX0_choose 120 = .ok (.iload 7, 2) := by decide +kernel
theorem dX0_choose_122 : decode cX0_choose 122 = .ok (.invokestatic 55, 3) := by decide +kernel
theorem dX0_choose_125 : decode cX0_choose 125 = .ok (.iaload, 1) := by decide +kernel
theorem dX0_choose_126 : decode cX0_choose 126 = .ok (.iadd, 1) := by decide +kernel
theorem dX0_choose_127 : decode cX0_choose 127 = .ok (.istore 4, 2) := by decide +kernel
theorem dX0_choose_129 : decode cX0_choose 129 = .ok (.aload_n 0, 1) := by decide +kernel
theorem dX0_choose_130 : decode cX0_choose 130 = .ok (.getfield 9, 3) := by decide +kernel
theorem dX0_choose_133 : decode cX0_choose 133 = .ok (.aload_n 0, 1) := by decide +kernel
theorem dX0_choose_134 : decode cX0_choose 134 = .ok (.getfield 24, 3) := by decide +kernel
theorem dX0_choose_137 : decode cX0_choose 137 = .ok (.iload 7, 2) := by decide +kernel
theorem dX0_choose_139 : decode cX0_choose 139 = .ok (.iastore, 1) := by decide +kernel
theorem dX0_choose_140 : decode cX0_choose 140 = .ok (.aload_n 0, 1) := by decide +kernel
theorem dX0_choose_141 : decode cX0_choose 141 = .ok (.dup, 1) := by decide +kernel
theorem dX0_choose_142 : decode cX0_choose 142 = .ok (.getfield 24, 3) := by decide +kernel
theorem dX0_choose_145 : decode cX0_choose 145 = .ok (.iconst 1, 1) := by decide +kernel
theorem dX0_choose_146 : decode cX0_choose 146 = .ok (.iadd, 1) := by decide +kernel
theorem dX0_choose_147 : decode cX0_choose 147 = .ok (.putfield 24, 3) := by decide +kernel
theorem dX0_choose_150 : decode cX0_choose 150 = .ok (.iload_n 2, 1) := by decide +kernel
theorem dX0_choose_151 : decode cX0_choose 151 = .ok (.iconst 1, 1) := by decide +kernel
theorem dX0_choose_152 : decode cX0_choose 152 = .ok (.iload 7, 2) := by decide +kernel
theorem dX0_choose_154 : decode cX0_choose 154 = .ok (.ishl, 1) := by decide +kernel
theorem dX0_choose_155 : decode cX0_choose 155 = .ok (.iconst (-1), 1) := by decide +kernel
theorem dX0_choose_156 : decode cX0_choose 156 = .ok (.ixor, 1) := by decide +kernel
theorem dX0_choose_157 : decode cX0_choose 157 = .ok (.iand, 1) := by decide +kernel
theorem dX0_choose_158 : decode cX0_choose 158 = .ok (.istore_n 2, 1) := by decide +kernel
theorem dX0_choose_159 : decode cX0_choose 159 = .ok (.iload 7, 2) := by decide +kernel
theorem dX0_choose_161 : decode cX0_choose 161 = .ok (.istore_n 3, 1) := by decide +kernel
theorem dX0_choose_162 : decode cX0_choose 162 = .ok (.goto (-141), 3) := by decide +kernel
theorem dX0_choose_165 : decode cX0_choose 165 = .ok (.aload_n 0, 1) := by decide +kernel
theorem dX0_choose_166 : decode cX0_choose 166 = .ok (.iload 4, 2) := by decide +kernel
theorem dX0_choose_168 : decode cX0_choose 168 = .ok (.iload 6, 2) := by decide +kernel
theorem dX0_choose_170 : decode cX0_choose 170 = .ok (.if_icmp .ne 7, 3) := by decide +kernel
theorem dX0_choose_173 : decode cX0_choose 173 = .ok (.iconst 0, 1) := by decide +kernel
theorem dX0_choose_174 : decode cX0_choose 174 = .ok (.goto 9, 3) := by decide +kernel
theorem dX0_choose_177 : decode cX0_choose 177 = .ok (.aload_n 0, 1) := by decide +kernel
theorem dX0_choose_178 : decode cX0_choose 178 = .ok (.iload 6, 2) := by decide +kernel
theorem dX0_choose_180 : decode cX0_choose 180 = .ok (.invokevirtual 83, 3) := by decide +kernel
theorem dX0_choose_183 : decode cX0_choose 183 = .ok (.putfield 28, 3) := by decide +kernel
theorem dX0_choose_186 : decode cX0_choose 186 = .ok (.iload 6, 2) := by decide +kernel
theorem dX0_choose_188 : decode cX0_choose 188 = .ok (.ireturn, 1) := by decide +kernel
theorem dX0_through_0 : decode cX0_through 0 = .ok (.iload_n 1, 1) := by decide +kernel
theorem dX0_through_1 : decode cX0_through 1 = .ok (.iconst 1, 1) := by decide +kernel
theorem dX0_through_2 : decode cX0_through 2 = .ok (.iload_n 3, 1) := by decide +kernel
theorem dX0_through_3 : decode cX0_through 3 = .ok (.ishl, 1) := by decide +kernel
theorem dX0_through_4 : decode cX0_through 4 = .ok (.ixor, 1) := by decide +kernel
theorem dX0_through_5 : decode cX0_through 5 = .ok (.iload_n 3, 1) := by decide +kernel
theorem dX0_through_6 : decode cX0_through 6 = .ok (.invokestatic 69, 3) := by decide +kernel
theorem dX0_through_9 : decode cX0_through 9 = .ok (.istore 6, 2) := by decide +kernel
theorem dX0_through_11 : decode cX0_through 11 = .ok (.iload 4, 2) := by decide +kernel
theorem dX0_through_13 : decode cX0_through 13 = .ok (.aload_n 0, 1) := by decide +kernel
theorem dX0_through_14 : decode cX0_through 14 = .ok (.getfield 15, 3) := by decide +kernel
theorem dX0_through_17 : decode cX0_through 17 = .ok (.iload_n 2, 1) := by decide +kernel
theorem dX0_through_18 : decode cX0_through 18 = .ok (.iload_n 3, 1) := by decide +kernel
theorem dX0_through_19 : decode cX0_through 19 = .ok (.invokestatic 55, 3) := by decide +kernel
theorem dX0_through_22 : decode cX0_through 22 = .ok (.iaload, 1) := by decide +kernel
theorem dX0_through_23 : decode cX0_through 23 = .ok (.iadd, 1) := by decide +kernel
theorem dX0_through_24 : decode cX0_through 24 = .ok (.aload_n 0, 1) := by decide +kernel
theorem dX0_through_25 : decode cX0_through 25 = .ok (.getfield 18, 3) := by decide +kernel
theorem dX0_through_28 : decode cX0_through 28 = .ok (.iload 6, 2) := by decide +kernel
theorem dX0_through_30 : decode cX0_through 30 = .ok (.iaload, 1) := by decide +kernel
theorem dX0_through_31 : decode cX0_through 31 = .ok (.iadd, 1) := by decide +kernel
theorem dX0_through_32 : decode cX0_through 32 = .ok (.istore 7, 2) := by decide +kernel
theorem dX0_through_34 : decode cX0_through 34 = .ok (.iload 7, 2) := by decide +kernel
theorem dX0_through_36 : decode cX0_through 36 = .ok (.aload_n 0, 1) := by decide +kernel
theorem dX0_through_37 : decode cX0_through 37 = .ok (.iload_n 2, 1) := by decide +kernel
theorem dX0_through_38 : decode cX0_through 38 = .ok (.iload_n 3, 1) := by decide +kernel
theorem dX0_through_39 : decode cX0_through 39 = .ok (.iload 4, 2) := by decide +kernel
theorem dX0_through_41 : decode cX0_through 41 = .ok (.iload 5, 2) := by decide +kernel
theorem dX0_through_43 : decode cX0_through 43 = .ok (.invokevirtual 79, 3) := by decide +kernel
theorem dX0_through_46 : decode cX0_through 46 = .ok (.aload_n 0, 1) := by decide +kernel
theorem dX0_through_47 : decode cX0_through 47 = .ok (.getfield 21, 3) := by decide +kernel
theorem dX0_through_50 : decode cX0_through 50 = .ok (.iload 6, 2) := by decide +kernel
theorem dX0_through_52 : decode cX0_through 52 = .ok (.iaload, 1) := by decide +kernel
theorem dX0_through_53 : decode cX0_through 53 = .ok (.iadd, 1) := by decide +kernel
theorem dX0_through_54 : decode cX0_through 54 = .ok (.invokestatic 72, 3) := by decide +kernel
theorem dX0_through_57 : decode cX0_through 57 = .ok (.ireturn, 1) := by decide +kernel
theorem dX0_withTea_0 : decode cX0_withTea 0 = .ok (.iload_n 1, 1) := by decide +kernel
theorem dX0_withTea_1 : decode cX0_withTea 1 = .ok (.bipush 8, 2) := by decide +kernel
theorem dX0_withTea_3 : decode cX0_withTea 3 = .ok (.if_icmp .ne 8, 3) := by decide +kernel
theorem dX0_withTea_6 : decode cX0_withTea 6 = .ok (.ldc 68, 2) := by decide +kernel
theorem dX0_withTea_8 : decode cX0_withTea 8 = .ok (.goto 16, 3) := by decide +kernel
theorem dX0_withTea_11 : decode cX0_withTea 11 = .ok (.iload_n 3, 1) := by decide +kernel
theorem dX0_withTea_12 : decode cX0_withTea 12 = .ok (.aload_n 0, 1) := by decide +kernel
theorem dX0_withTea_13 : decode cX0_withTea 13 = .ok (.getfield 15, 3) := by decide +kernel
theorem dX0_withTea_16 : decode cX0_withTea 16 = .ok (.bipush 9, 2) := by decide +kernel
theorem dX0_withTea_18 : decode cX0_withTea 18 = .ok (.iload_n 2, 1) := by decide +kernel
theorem dX0_withTea_19 : decode cX0_withTea 19 = .ok (.invokestatic 55, 3) := by decide +kernel
theorem dX0_withTea_22 : decode cX0_withTea 22 = .ok (.iaload, 1) := by decide +kernel
theorem dX0_withTea_23 : decode cX0_withTea 23 = .ok (.iadd, 1) := by decide +kernel
theorem dX0_withTea_24 : decode cX0_withTea 24 = .ok (.istore 5, 2) := by decide +kernel
theorem dX0_withTea_26 : decode cX0_withTea 26 = .ok (.iload 4, 2) := by decide +kernel
theorem dX0_withTea_28 : decode cX0_withTea 28 = .ok (.aload_n 0, 1) := by decide +kernel
theorem dX0_withTea_29 : decode cX0_withTea 29 = .ok (.getfield 15, 3) := by decide +kernel
theorem dX0_withTea_32 : decode cX0_withTea 32 = .ok (.iload_n 1, 1) := by decide +kernel
theorem dX0_withTea_33 : decode cX0_withTea 33 = .ok (.iload_n 2, 1) := by decide +kernel
theorem dX0_withTea_34 : decode cX0_withTea 34 = .ok (.invokestatic 55, 3) := by decide +kernel
theorem dX0_withTea_37 : decode cX0_withTea 37 = .ok (.iaload, 1) := by decide +kernel
theorem dX0_withTea_38 : decode cX0_withTea 38 = .ok (.iadd, 1) := by decide +kernel
theorem dX0_withTea_39 : decode cX0_withTea 39 = .ok (.iload 5, 2) := by decide +kernel
theorem dX0_withTea_41 : decode cX0_withTea 41 = .ok (.invokestatic 72, 3) := by decide +kernel
theorem dX0_withTea_44 : decode cX0_withTea 44 = .ok (.ireturn, 1) := by decide +kernel
theorem dX0_soonestTea_0 : decode cX0_soonestTea 0 = .ok (.iconst 1, 1) := by decide +kernel
theorem dX0_soonestTea_1 : decode cX0_soonestTea 1 = .ok (.istore_n 2, 1) := by decide +kernel
theorem dX0_soonestTea_2 : decode cX0_soonestTea 2 = .ok (.iload_n 2, 1) := by decide +kernel
theorem dX0_soonestTea_3 : decode cX0_soonestTea 3 = .ok (.aload_n 0, 1) := by decide +kernel
theorem dX0_soonestTea_4 : decode cX0_soonestTea 4 = .ok (.getfield 24, 3) := by decide +kernel
theorem dX0_soonestTea_7 : decode cX0_soonestTea 7 = .ok (.if_icmp .ge 20, 3) := by decide +kernel
theorem dX0_soonestTea_10 : decode cX0_soonestTea 10 = .ok (.aload_n 0, 1) := by decide +kernel
theorem dX0_soonestTea_11 : decode cX0_soonestTea 11 = .ok (.iload_n 2, 1) := by decide +kernel
theorem dX0_soonestTea_12 : decode cX0_soonestTea 12 = .ok (.invokevirtual 86, 3) := by decide +kernel
theorem dX0_soonestTea_15 : decode cX0_soonestTea 15 = .ok (.iload_n 1, 1) := by decide +kernel
theorem dX0_soonestTea_16 : decode cX0_soonestTea 16 = .ok (.if_icmp .ne 5, 3) := by decide +kernel
theorem dX0_soonestTea_19 : decode cX0_soonestTea 19 = .ok (.iload_n 2, 1) := by decide +kernel
theorem dX0_soonestTea_20 : decode cX0_soonestTea 20 = .ok (.ireturn, 1) := by decide +kernel
theorem dX0_soonestTea_21 : decode cX0_soonestTea 21 = .ok (.iinc 2 1, 3) := by decide +kernel
theorem dX0_soonestTea_24 : decode cX0_soonestTea 24 = .ok (.goto (-22), 3) := by decide +kernel
theorem dX0_soonestTea_27 : decode cX0_soonestTea 27 = .ok (.iconst 0, 1) := by decide +kernel
theorem dX0_soonestTea_28 : decode cX0_soonestTea 28 = .ok (.ireturn, 1) := by decide +kernel
theorem dX0_costWithTea_0 : decode cX0_costWithTea 0 = .ok (.iconst 0, 1) := by decide +kernel
theorem dX0_costWithTea_1 : decode cX0_costWithTea 1 = .ok (.istore_n 2, 1) := by decide +kernel
theorem dX0_costWithTea_2 : decode cX0_costWithTea 2 = .ok (.bipush 8, 2) := by decide +kernel
theorem dX0_costWithTea_4 : decode cX0_costWithTea 4 = .ok (.istore_n 3, 1) := by decide +kernel
theorem dX0_costWithTea_5 : decode cX0_costWithTea 5 = .ok (.iconst 0, 1) := by decide +kernel
theorem dX0_costWithTea_6 : decode cX0_costWithTea 6 = .ok (.istore 4, 2) := by decide +kernel
theorem dX0_costWithTea_8 : decode cX0_costWithTea 8 = .ok (.iload 4, 2) := by decide +kernel
theorem dX0_costWithTea_10 : decode cX0_costWithTea 10 = .ok (.aload_n 0, 1) := by decide +kernel
theorem dX0_costWithTea_11 : decode cX0_costWithTea 11 = .ok (.getfield 24, 3) := by decide +kernel
theorem dX0_costWithTea_14 : decode cX0_costWithTea 14 = .ok (.if_icmp .ge 47, 3) := by decide +kernel
theorem dX0_costWithTea_17 : decode cX0_costWithTea 17 = .ok (.iload_n 2, 1) := by decide +kernel
theorem dX0_costWithTea_18 : decode cX0_costWithTea 18 = .ok (.aload_n 0, 1) := by decide +kernel
theorem dX0_costWithTea_19 : decode cX0_costWithTea 19 = .ok (.getfield 15, 3) := by decide +kernel
theorem dX0_costWithTea_22 : decode cX0_costWithTea 22 = .ok (.iload 4, 2) := by decide +kernel
theorem dX0_costWithTea_24 : decode cX0_costWithTea 24 = .ok (.iload_n 1, 1) := by decide +kernel
theorem dX0_costWithTea_25 : decode cX0_costWithTea 25 = .ok (.if_icmp .ne 8, 3) := by decide +kernel
theorem dX0_costWithTea_28 : decode cX0_costWithTea 28 = .ok (.bipush 9, 2) := by decide +kernel
theorem dX0_costWithTea_30 : decode cX0_costWithTea 30 = .ok (.goto 4, 3) := by decide +kernel
theorem dX0_costWithTea_33 : decode cX0_costWithTea 33 = .ok (.iload_n 3, 1) := by decide +kernel
theorem dX0_costWithTea_34 : decode cX0_costWithTea 34 = .ok (.aload_n 0, 1) := by decide +kernel
theorem dX0_costWithTea_35 : decode cX0_costWithTea 35 = .ok (.getfield 9, 3) := by decide +kernel
theorem dX0_costWithTea_38 : decode cX0_costWithTea 38 = .ok (.iload 4, 2) := by decide +kernel
theorem dX0_costWithTea_40 : decode cX0_costWithTea 40 = .ok (.iaload, 1) := by decide +kernel
theorem dX0_costWithTea_41 : decode cX0_costWithTea 41 = .ok (.invokestatic 55, 3) := by decide +kernel
theorem dX0_costWithTea_44 : decode cX0_costWithTea 44 = .ok (.iaload, 1) := by decide +kernel
theorem dX0_costWithTea_45 : decode cX0_costWithTea 45 = .ok (.iadd, 1) := by decide +kernel
theorem dX0_costWithTea_46 : decode cX0_costWithTea 46 = .ok (.istore_n 2, 1) := by decide +kernel
theorem dX0_costWithTea_47 : decode cX0_costWithTea 47 = .ok (.aload_n 0, 1) := by decide +kernel
theorem dX0_costWithTea_48 : decode cX0_costWithTea 48 = .ok (.getfield 9, 3) := by decide +kernel
theorem dX0_costWithTea_51 : decode cX0_costWithTea 51 = .ok (.iload 4, 2) := by decide +kernel
theorem dX0_costWithTea_53 : decode cX0_costWithTea 53 = .ok (.iaload, 1) := by decide +kernel
theorem dX0_costWithTea_54 : decode cX0_costWithTea 54 = .ok (.istore_n 3, 1) := by decide +kernel
theorem dX0_costWithTea_55 : decode cX0_costWithTea 55 = .ok (.iinc 4 1, 3) := by decide +kernel
theorem dX0_costWithTea_58 : decode cX0_costWithTea 58 = .ok (.goto (-50), 3) := by decide +kernel
theorem dX0_costWithTea_61 : decode cX0_costWithTea 61 = .ok (.iload_n 2, 1) := by decide +kernel
theorem dX0_costWithTea_62 : decode cX0_costWithTea 62 = .ok (.ireturn, 1) := by decide +kernel
theorem dX1_init_0 : decode cX1_init 0 = .ok (.aload_n 0, 1) := by decide +kernel
theorem dX1_init_1 : decode cX1_init 1 = .ok (.invokespecial 5, 3) := by decide +kernel
theorem dX1_init_4 : decode cX1_init 4 = .ok (.aload_n 0, 1) := by decide +kernel
theorem dX1_init_5 : decode cX1_init 5 = .ok (.sipush 144, 3) := by decide +kernel
theorem dX1_init_8 : decode cX1_init 8 = .ok (.newarray .int, 2) := by decide +kernel
theorem dX1_init_10 : decode cX1_init 10 = .ok (.putfield 11, 3) := by decide +kernel
theorem dX1_init_13 : decode cX1_init 13 = .ok (.aload_n 0, 1) := by decide +kernel
theorem dX1_init_14 : decode cX1_init 14 = .ok (.sipush 432, 3) := by decide +kernel
theorem dX1_init_17 : decode cX1_init 17 = .ok (.newarray .int, 2) := by decide +kernel
theorem dX1_init_19 : decode cX1_init 19 = .ok (.putfield 15, 3) := by decide +kernel
theorem dX1_init_22 : decode cX1_init 22 = .ok (.aload_n 0, 1) := by decide +kernel
theorem dX1_init_23 : decode cX1_init 23 = .ok (.bipush 12, 2) := by decide +kernel
theorem dX1_init_25 : decode cX1_init 25 = .ok (.newarray .int, 2) := by decide +kernel
theorem dX1_init_27 : decode cX1_init 27 = .ok (.putfield 18, 3) := by decide +kernel
theorem dX1_init_30 : decode cX1_init 30 = .ok (.return_, 1) := by decide +kernel
theorem dX1_findRows_0 : decode cX1_findRows 0 = .ok (.aload_n 0, 1) := by decide +kernel
theorem dX1_findRows_1 : decode cX1_findRows 1 = .ok (.aload_n 1, 1) := by decide +kernel
theorem dX1_findRows_2 : decode cX1_findRows 2 = .ok (.aload_n 2, 1) := by decide +kernel
theorem dX1_findRows_3 : decode cX1_findRows 3 = .ok (.iload_n 3, 1) := by decide +kernel
theorem dX1_findRows_4 : decode cX1_findRows 4 = .ok (.invokevirtual 21, 3) := by decide +kernel
theorem dX1_findRows_7 : decode cX1_findRows 7 = .ok (.aload_n 0, 1) := by decide +kernel
theorem dX1_findRows_8 : decode cX1_findRows 8 = .ok (.aload_n 1, 1) := by decide +kernel
theorem dX1_findRows_9 : decode cX1_findRows 9 = .ok (.aload_n 2, 1) := by decide +kernel
theorem dX1_findRows_10 : decode cX1_findRows 10 = .ok (.iload_n 3, 1) := by decide +kernel
theorem dX1_findRows_11 : decode cX1_findRows 11 = .ok (.iconst 0, 1) := by decide +kernel
theorem dX1_findRows_12 : decode cX1_findRows 12 = .ok (.invokevirtual 25, 3) := by decide +kernel
theorem dX1_findRows_15 : decode cX1_findRows 15 = .ok (.aload_n 0, 1) := by decide +kernel
theorem dX1_findRows_16 : decode cX1_findRows 16 = .ok (.aload_n 1, 1) := by decide +kernel
theorem dX1_findRows_17 : decode cX1_findRows 17 = .ok (.aload_n 2, 1) := by decide +kernel
theorem dX1_findRows_18 : decode cX1_findRows 18 = .ok (.iload_n 3, 1) := by decide +kernel
theorem dX1_findRows_19 : decode cX1_findRows 19 = .ok (.iconst 1, 1) := by decide +kernel
theorem dX1_findRows_20 : decode cX1_findRows 20 = .ok (.invokevirtual 25, 3) := by decide +kernel
theorem dX1_findRows_23 : decode cX1_findRows 23 = .ok (.aload_n 0, 1) := by decide +kernel
theorem dX1_findRows_24 : decode cX1_findRows 24 = .ok (.iconst 0, 1) := by decide +kernel
theorem dX1_findRows_25 : decode cX1_findRows 25 = .ok (.putfield 29, 3) := by decide +kernel
theorem dX1_findRows_28 : decode cX1_findRows 28 = .ok (.aload_n 0, 1) := by decide +kernel
theorem dX1_findRows_29 : decode cX1_findRows 29 = .ok (.iconst (-1), 1) := by decide +kernel
theorem dX1_findRows_30 : decode cX1_findRows 30 = .ok (.putfield 33, 3) := by decide +kernel
theorem dX1_findRows_33 : decode cX1_findRows 33 = .ok (.aload_n 0, 1) := by decide +kernel
theorem dX1_findRows_34 : decode cX1_findRows 34 = .ok (.iconst (-1), 1) := by decide +kernel
theorem dX1_findRows_35 : decode cX1_findRows 35 = .ok (.putfield 36, 3) := by decide +kernel
theorem dX1_findRows_38 : decode cX1_findRows 38 = .ok (.aload_n 0, 1) := by decide +kernel
theorem dX1_findRows_39 : decode cX1_findRows 39 = .ok (.iconst 0, 1) := by decide +kernel
theorem dX1_findRows_40 : decode cX1_findRows 40 = .ok (.putfield 39, 3) := by decide +kernel
theorem dX1_findRows_43 : decode cX1_findRows 43 = .ok (.iconst 0, 1) := by decide +kernel
theorem dX1_findRows_44 : decode cX1_findRows 44 = .ok (.istore 5, 2) := by decide +kernel
theorem dX1_findRows_46 : decode cX1_findRows 46 = .ok (.iload 5, 2) := by decide +kernel
theorem dX1_findRows_48 : decode cX1_findRows 48 = .ok (.iload_n 3, 1) := by decide +kernel
theorem dX1_findRows_49 : decode cX1_findRows 49 = .ok (.if_icmp .gt 43, 3) := by decide +kernel
theorem dX1_findRows_52 : decode cX1_findRows 52 = .ok (.iconst 0, 1) := by decide +kernel
theorem dX1_findRows_53 : decode cX1_findRows 53 = .ok (.istore 6, 2) := by decide +kernel
theorem dX1_findRows_55 : decode cX1_findRows 55 = .ok (.iload 6, 2) := by decide +kernel
theorem dX1_findRows_57 : decode cX1_findRows 57 = .ok (.iload_n 3, 1) := by decide +kernel
theorem dX1_findRows_58 : decode cX1_findRows 58 = .ok (.if_icmp .gt 28, 3) := by decide +kernel
theorem dX1_findRows_61 : decode cX1_findRows 61 = .ok (.aload_n 0, 1) := by decide +kernel
theorem dX1_findRows_62 : decode cX1_findRows 62 = .ok (.bipush 6, 2) := by decide +kernel
theorem dX1_findRows_64 : decode cX1_findRows 64 = .ok (.iload 5, 2) := by decide +kernel
theorem dX1_findRows_66 : decode cX1_findRows 66 = .ok (.imul, 1) := by decide +kernel
theorem dX1_findRows_67 : decode cX1_findRows 67 = .ok (.iload 6, 2) := by decide +kernel
theorem dX1_findRows_69 : decode cX1_findRows 69 = .ok (.iadd, 1) := by decide +kernel
theorem dX1_findRows_70 : decode cX1_findRows 70 = .ok (.aload_n 2, 1) := by decide +kernel
theorem dX1_findRows_71 : decode cX1_findRows 71 = .ok (.getfield 42, 3) := by decide +kernel
theorem dX1_findRows_74 : decode cX1_findRows 74 = .ok (.iload_n 3, 1) := by decide +kernel
theorem dX1_findRows_75 : decode cX1_findRows 75 = .ok (.iload 4, 2) := by decide +kernel
theorem dX1_findRows_77 : decode cX1_findRows 77 = .ok (.invokevirtual 47, 3) := by decide +kernel
theorem dX1_findRows_80 : decode cX1_findRows 80 = .ok (.iinc 6 1, 3) := by decide +kernel
theorem dX1_findRows_83 : decode cX1_findRows 83 = .ok (.goto (-28), 3) := by decide +kernel
theorem dX1_findRows_86 : decode cX1_findRows 86 = .ok (.iinc 5 1, 3) := by decide +kernel
theorem dX1_findRows_89 : decode cX1_findRows 89 = .ok (.goto (-43), 3) := by decide +kernel
theorem dX1_findRows_92 : decode cX1_findRows 92 = .ok (.return_, 1) := by decide +kernel
theorem dX1_findPlaces_0 : decode cX1_findPlaces 0 = .ok (.iconst 0, 1) := by decide +kernel
theorem dX1_findPlaces_1 : decode cX1_findPlaces 1 = .ok (.istore 4, 2) := by decide +kernel
theorem dX1_findPlaces_3 : decode cX1_findPlaces 3 = .ok (.iload 4, 2) := by decide +kernel
theorem dX1_findPlaces_5 : decode cX1_findPlaces 5 = .ok (.iconst 4, 1) := by decide +kernel
theorem dX1_findPlaces_6 : decode cX1_findPlaces 6 = .ok (.if_icmp .ge 81, 3) := by decide +kernel
theorem dX1_findPlaces_9 : decode cX1_findPlaces 9 = .ok (.iconst 0, 1) := by decide +kernel
theorem dX1_findPlaces_10 : decode cX1_findPlaces 10 = .ok (.istore 5, 2) := by decide +kernel
theorem dX1_findPlaces_12 : decode cX1_findPlaces 12 = .ok (.iload 5, 2) := by decide +kernel
theorem dX1_findPlaces_14 : decode cX1_findPlaces 14 = .ok (.iload_n 3, 1) := by decide +kernel
theorem dX1_findPlaces_15 : decode cX1_findPlaces 15 = .ok (.if_icmp .gt 66, 3) := by decide +kernel
theorem dX1_findPlaces_18 : decode cX1_findPlaces 18 = .ok (.aload_n 1, 1) := by decide +kernel
theorem dX1_findPlaces_19 : decode cX1_findPlaces 19 = .ok (.getfield 51, 3) := by decide +kernel
theorem dX1_findPlaces_22 : decode cX1_findPlaces 22 = .ok (.iload 4, 2) := by decide +kernel
theorem dX1_findPlaces_24 : decode cX1_findPlaces 24 = .ok (.iload 5, 2) := by decide +kernel
theorem dX1_findPlaces_26 : decode cX1_findPlaces 26 = .ok (.iastore, 1) := by decide +kernel
theorem dX1_findPlaces_27 : decode cX1_findPlaces 27 = .ok (.iconst 0, 1) := by decide +kernel
theorem dX1_findPlaces_28 : decode cX1_findPlaces 28 = .ok (.istore 6, 2) := by decide +kernel
theorem dX1_findPlaces_30 : decode cX1_findPlaces 30 = .ok (.iload 6, 2) := by decide +kernel
theorem dX1_findPlaces_32 : decode cX1_findPlaces 32 = .ok (.aload_n 2, 1) := by decide +kernel
theorem dX1_findPlaces_33 : decode cX1_findPlaces 33 = .ok (.getfield 42, 3) := by decide +kernel
theorem dX1_findPlaces_36 : decode cX1_findPlaces 36 = .ok (.if_icmp .ge 39, 3) := by decide +kernel
theorem dX1_findPlaces_39 : decode cX1_findPlaces 39 = .ok (.aload_n 0, 1) := by decide +kernel
theorem dX1_findPlaces_40 : decode cX1_findPlaces 40 = .ok (.getfield 11, 3) := by decide +kernel
theorem dX1_findPlaces_43 : decode cX1_findPlaces 43 = .ok (.iload 4, 2) := by decide +kernel
theorem dX1_findPlaces_45 : decode cX1_findPlaces 45 = .ok (.iload 5, 2) := by decide +kernel
theorem dX1_findPlaces_47 : decode cX1_findPlaces 47 = .ok (.invokestatic 56, 3) := by decide +kernel
theorem dX1_findPlaces_50 : decode cX1_findPlaces 50 = .ok (.iload 6, 2) := by decide +kernel
theorem dX1_findPlaces_52 : decode cX1_findPlaces 52 = .ok (.iadd, 1) := by decide +kernel
theorem dX1_findPlaces_53 : decode cX1_findPlaces 53 = .ok (.aload_n 1, 1) := by decide +kernel
theorem dX1_findPlaces_54 : decode cX1_findPlaces 54 = .ok (.iload 4, 2) := by decide +kernel
theorem dX1_findPlaces_56 : decode cX1_findPlaces 56 = .ok (.aload_n 2, 1) := by decide +kernel
theorem dX1_findPlaces_57 : decode cX1_findPlaces 57 = .ok (.getfield 60, 3) := by decide +kernel
theorem dX1_findPlaces_60 : decode cX1_findPlaces 60 = .ok (.iconst 3, 1) := by decide +kernel
theorem dX1_findPlaces_61 : decode cX1_findPlaces 61 = .ok (.iload 6, 2) := by decide +kernel
theorem dX1_findPlaces_63 : decode cX1_findPlaces 63 = .ok (.imul, 1) := by decide +kernel
theorem dX1_findPlaces_64 : decode cX1_findPlaces 64 = .ok (.iaload, 1) := by decide +kernel
theorem dX1_findPlaces_65 : decode cX1_findPlaces 65 = .ok (.invokevirtual 63, 3) := by decide +kernel
theorem dX1_findPlaces_68 : decode cX1_findPlaces 68 = .ok (.iastore, 1) := by decide +kernel
theorem dX1_findPlaces_69 : decode cX1_findPlaces 69 = .ok (.iinc 6 1, 3) := by decide +kernel
theorem dX1_findPlaces_72 : decode cX1_findPlaces 72 = .ok (.goto (-42), 3) := by decide +kernel
theorem dX1_findPlaces_75 : decode cX1_findPlaces 75 = .ok (.iinc 5 1, 3) := by decide +kernel
theorem dX1_findPlaces_78 : decode cX1_findPlaces 78 = .ok (.goto (-66), 3) := by decide +kernel
theorem dX1_findPlaces_81 : decode cX1_findPlaces 81 = .ok (.iinc 4 1, 3) := by decide +kernel
theorem dX1_findPlaces_84 : decode cX1_findPlaces 84 = .ok (.goto (-81), 3) := by decide +kernel
theorem dX1_findPlaces_87 : decode cX1_findPlaces 87 = .ok (.return_, 1) := by decide +kernel
theorem dX1_placeOf_0 : decode cX1_placeOf 0 = .ok (.bipush 6, 2) := by decide +kernel
theorem dX1_placeOf_2 : decode cX1_placeOf 2 = .ok (.bipush 6, 2) := by decide +kernel
theorem dX1_placeOf_4 : decode cX1_placeOf 4 = .ok (.iload_n 0, 1) := by decide +kernel
theorem dX1_placeOf_5 : decode cX1_placeOf 5 = .ok (.imul, 1) := by decide +kernel
theorem dX1_placeOf_6 : decode cX1_placeOf 6 = .ok (.iload_n 1, 1) := by decide +kernel
theorem dX1_placeOf_7 : decode cX1_placeOf 7 = .ok (.iadd, 1) := by decide +kernel
theorem dX1_placeOf_8 : decode cX1_placeOf 8 = .ok (.imul, 1) := by decide +kernel
theorem dX1_placeOf_9 : decode cX1_placeOf 9 = .ok (.ireturn, 1) := by decide +kernel
theorem dX1_findOffs_0 : decode cX1_findOffs 0 = .ok (.iconst 0, 1) := by decide +kernel
theorem dX1_findOffs_1 : decode cX1_findOffs 1 = .ok (.istore 5, 2) := by decide +kernel
theorem dX1_findOffs_3 : decode cX1_findOffs 3 = .ok (.iload 5, 2) := by decide +kernel
theorem dX1_findOffs_5 : decode cX1_findOffs 5 = .ok (.aload_n 2, 1) := by decide +kernel
theorem dX1_findOffs_6 : decode cX1_findOffs 6 = .ok (.getfield 42, 3) := by decide +kernel
theorem dX1_findOffs_9 : decode cX1_findOffs 9 = .ok (.if_icmp .ge 139, 3) := by decide +kernel
theorem dX1_findOffs_12 : decode cX1_findOffs 12 = .ok (.aload_n 2, 1) := by decide +kernel
theorem dX1_findOffs_13 : decode cX1_findOffs 13 = .ok (.getfield 60, 3) := by decide +kernel
theorem dX1_findOffs_16 : decode cX1_findOffs 16 = .ok (.iconst 3, 1) := by decide +kernel
theorem dX1_findOffs_17 : decode cX1_findOffs 17 = .ok (.iload 5, 2) := by decide +kernel
theorem dX1_findOffs_19 : decode cX1_findOffs 19 = .ok (.imul, 1) := by decide +kernel
theorem dX1_findOffs_20 : decode cX1_findOffs 20 = .ok (.iconst 1, 1) := by decide +kernel
theorem dX1_findOffs_21 : decode cX1_findOffs 21 = .ok (.iadd, 1) := by decide +kernel
theorem dX1_findOffs_22 : decode cX1_findOffs 22 = .ok (.iload 4, 2) := by decide +kernel
theorem dX1_findOffs_24 : decode cX1_findOffs 24 = .ok (.iadd, 1) := by decide +kernel
theorem dX1_findOffs_25 : decode cX1_findOffs 25 = .ok (.iaload, 1) := by decide +kernel
theorem dX1_findOffs_26 : decode cX1_findOffs 26 = .ok (.aload_n 1, 1) := by decide +kernel
theorem dX1_findOffs_27 : decode cX1_findOffs 27 = .ok (.aload_n 2, 1) := by decide +kernel
theorem dX1_findOffs_28 : decode cX1_findOffs 28 = .ok (.getfield 60, 3) := by decide +kernel
theorem dX1_findOffs_31 : decode cX1_findOffs 31 = .ok (.iconst 3, 1) := by decide +kernel
theorem dX1_findOffs_32 : decode cX1_findOffs 32 = .ok (.iload 5, 2) := by decide +kernel
theorem dX1_findOffs_34 : decode cX1_findOffs 34 = .ok (.imul, 1) := by decide +kernel
theorem dX1_findOffs_35 : decode cX1_findOffs 35 = .ok (.iaload, 1) := by decide +kernel
theorem dX1_findOffs_36 : decode cX1_findOffs 36 = .ok (.iload 4, 2) := by decide +kernel
theorem dX1_findOffs_38 : decode cX1_findOffs 38 = .ok (.invokevirtual 66, 3) := by decide +kernel
theorem dX1_findOffs_41 : decode cX1_findOffs 41 = .ok (.isub, 1) := by decide +kernel
theorem dX1_findOffs_42 : decode cX1_findOffs 42 = .ok (.istore 6, 2) := by decide +kernel
theorem dX1_findOffs_44 : decode cX1_findOffs 44 = .ok (.iconst 0, 1) := by decide +kernel
theorem dX1_findOffs_45 : decode cX1_findOffs 45 = .ok (.istore 7, 2) := by decide +kernel
theorem dX1_findOffs_47 : decode cX1_findOffs 47 = .ok (.iload 7, 2) := by decide +kernel
theorem dX1_findOffs_49 : decode cX1_findOffs 49 = .ok (.iload_n 3, 1) := by decide +kernel
theorem dX1_findOffs_50 : decode cX1_findOffs 50 = .ok (.if_icmp .gt 92, 3) := by decide +kernel
theorem dX1_findOffs_53 : decode cX1_findOffs 53 = .ok (.iconst 0, 1) := by decide +kernel
theorem dX1_findOffs_54 : decode cX1_findOffs 54 = .ok (.istore 8, 2) := by decide +kernel
theorem dX1_findOffs_56 : decode cX1_findOffs 56 = .ok (.iload 8, 2) := by decide +kernel
theorem dX1_findOffs_58 : decode cX1_findOffs 58 = .ok (.iload_n 3, 1) := by decide +kernel
theorem dX1_findOffs_59 : decode cX1_findOffs 59 = .ok (.if_icmp .gt 77, 3) := by decide +kernel
theorem dX1_findOffs_62 : decode cX1_findOffs 62 = .ok (.aload_n 0, 1) := by decide +kernel
theorem dX1_findOffs_63 : decode cX1_findOffs 63 = .ok (.getfield 11, 3) := by decide +kernel
theorem dX1_findOffs_66 : decode cX1_findOffs 66 = .ok (.iconst 2, 1) := by decide +kernel
theorem dX1_findOffs_67 : decode cX1_findOffs 67 = .ok (.iload 4, 2) := by decide +kernel
theorem dX1_findOffs_69 : decode cX1_findOffs 69 = .ok (.imul, 1) := by decide +kernel
theorem dX1_findOffs_70 : decode cX1_findOffs 70 = .ok (.iload 7, 2) := by decide +kernel
theorem dX1_findOffs_72 : decode cX1_findOffs 72 = .ok (.invokestatic 56, 3) := by decide +kernel
theorem dX1_findOffs_75 : decode cX1_findOffs 75 = .ok (.iload 5, 2) := by decide +kernel
theorem dX1_findOffs_77 : decode cX1_findOffs 77 = .ok (.iadd, 1) := by decide +kernel
theorem dX1_findOffs_78 : decode cX1_findOffs 78 = .ok (.iaload, 1) := by decide +kernel
theorem dX1_findOffs_79 : decode cX1_findOffs 79 = .ok (.aload_n 0, 1) := by decide +kernel
theorem dX1_findOffs_80 : decode cX1_findOffs 80 = .ok (.getfield 11, 3) := by decide +kernel
theorem dX1_findOffs_83 : decode cX1_findOffs 83 = .ok (.iconst 2, 1) := by decide +kernel
theorem dX1_findOffs_84 : decode cX1_findOffs 84 = .ok (.iload 4, 2) := by decide +kernel
theorem dX1_findOffs_86 : decode cX1_findOffs 86 = .ok (.imul, 1) := by decide +kernel
theorem dX1_findOffs_87 : decode cX1_findOffs 87 = .ok (.iconst 1, 1) := by decide +kernel
theorem dX1_findOffs_88 : decode cX1_findOffs 88 = .ok (.iadd, 1) := by decide +kernel
theorem dX1_findOffs_89 : decode cX1_findOffs 89 = .ok (.iload 8, 2) := by decide +kernel
theorem dX1_findOffs_91 : decode cX1_findOffs 91 = .ok (.invokestatic 56, 3) := by decide +kernel
theorem dX1_findOffs_94 : decode cX1_findOffs 94 = .ok (.iload 5, 2) := by decide +kernel
theorem dX1_findOffs_96 : decode cX1_findOffs 96 = .ok (.iadd, 1) := by decide +kernel
theorem dX1_findOffs_97 : decode cX1_findOffs 97 = .ok (.iaload, 1) := by decide +kernel
theorem dX1_findOffs_98 : decode cX1_findOffs 98 = .ok (.iadd, 1) := by decide +kernel
theorem dX1_findOffs_99 : decode cX1_findOffs 99 = .ok (.istore 9, 2) := by decide +kernel
theorem dX1_findOffs_101 : decode cX1_findOffs 101 = .ok (.aload_n 0, 1) := by decide +kernel
theorem dX1_findOffs_102 : decode cX1_findOffs 102 = .ok (.getfield 15, 3) := by decide +kernel
theorem dX1_findOffs_105 : decode cX1_findOffs 105 = .ok (.iload 4, 2) := by decide +kernel
theorem dX1_findOffs_107 : decode cX1_findOffs 107 = .ok (.bipush 6, 2) := by decide +kernel
theorem dX1_findOffs_109 : decode cX1_findOffs 109 = .ok (.iload 7, 2) := by decide +kernel
theorem dX1_findOffs_111 : decode cX1_findOffs 111 = .ok (.imul, 1) := by decide +kernel
theorem dX1_findOffs_112 : decode cX1_findOffs 112 = .ok (.iload 8, 2) := by decide +kernel
theorem dX1_findOffs_114 : decode cX1_findOffs 114 = .ok (.iadd, 1) := by decide +kernel
theorem dX1_findOffs_115 : decode cX1_findOffs 115 = .ok (.invokestatic 69, 3) := by decide +kernel
theorem dX1_findOffs_118 : decode cX1_findOffs 118 = .ok (.iload 5, 2) := by decide +kernel
theorem dX1_findOffs_120 : decode cX1_findOffs 120 = .ok (.iadd, 1) := by decide +kernel
theorem dX1_findOffs_121 : decode cX1_findOffs 121 = .ok (.iload 6, 2) := by decide +kernel
theorem dX1_findOffs_123 : decode cX1_findOffs 123 = .ok (.iload 9, 2) := by decide +kernel
theorem dX1_findOffs_125 : decode cX1_findOffs 125 = .ok (.isub, 1) := by decide +kernel
theorem dX1_findOffs_126 : decode cX1_findOffs 126 = .ok (.invokestatic 72, 3) := by decide +kernel
theorem dX1_findOffs_129 : decode cX1_findOffs 129 = .ok (.iastore, 1) := by decide +kernel
theorem dX1_findOffs_130 : decode cX1_findOffs 130 = .ok (.iinc 8 1, 3) := by decide +kernel
theorem dX1_findOffs_133 : decode cX1_findOffs 133 = .ok (.goto (-77), 3) := by decide +kernel
theorem dX1_findOffs_136 : decode cX1_findOffs 136 = .ok (.iinc 7 1, 3) := by decide +kernel
theorem dX1_findOffs_139 : decode cX1_findOffs 139 = .ok (.goto (-92), 3) := by decide +kernel
theorem dX1_findOffs_142 : decode cX1_findOffs 142 = .ok (.iinc 5 1, 3) := by decide +kernel
theorem dX1_findOffs_145 : decode cX1_findOffs 145 = .ok (.goto (-142), 3) := by decide +kernel
theorem dX1_findOffs_148 : decode cX1_findOffs 148 = .ok (.return_, 1) := by decide +kernel
theorem dX1_offOf_0 : decode cX1_offOf 0 = .ok (.bipush 6, 2) := by decide +kernel
theorem dX1_offOf_2 : decode cX1_offOf 2 = .ok (.bipush 36, 2) := by decide +kernel
theorem dX1_offOf_4 : decode cX1_offOf 4 = .ok (.iload_n 0, 1) := by decide +kernel
theorem dX1_offOf_5 : decode cX1_offOf 5 = .ok (.imul, 1) := by decide +kernel
theorem dX1_offOf_6 : decode cX1_offOf 6 = .ok (.iload_n 1, 1) := by decide +kernel
theorem dX1_offOf_7 : decode cX1_offOf 7 = .ok (.iadd, 1) := by decide +kernel
theorem dX1_offOf_8 : decode cX1_offOf 8 = .ok (.imul, 1) := by decide +kernel
theorem dX1_offOf_9 : decode cX1_offOf 9 = .ok (.ireturn, 1) := by decide +kernel
theorem dX1_weighAll_0 : decode cX1_weighAll 0 = .ok (.iconst 0, 1) := by decide +kernel
theorem dX1_weighAll_1 : decode cX1_weighAll 1 = .ok (.istore 5, 2) := by decide +kernel
theorem dX1_weighAll_3 : decode cX1_weighAll 3 = .ok (.iload 5, 2) := by decide +kernel
theorem dX1_weighAll_5 : decode cX1_weighAll 5 = .ok (.iload_n 3, 1) := by decide +kernel
theorem dX1_weighAll_6 : decode cX1_weighAll 6 = .ok (.if_icmp .gt 40, 3) := by decide +kernel
theorem dX1_weighAll_9 : decode cX1_weighAll 9 = .ok (.iconst 0, 1) := by decide +kernel
theorem dX1_weighAll_10 : decode cX1_weighAll 10 = .ok (.istore 6, 2) := by decide +kernel
theorem dX1_weighAll_12 : decode cX1_weighAll 12 = .ok (.iload 6, 2) := by decide +kernel
theorem dX1_weighAll_14 : decode cX1_weighAll 14 = .ok (.iload_n 3, 1) := by decide +kernel
theorem dX1_weighAll_15 : decode cX1_weighAll 15 = .ok (.if_icmp .gt 25, 3) := by decide +kernel
theorem dX1_weighAll_18 : decode cX1_weighAll 18 = .ok (.aload_n 0, 1) := by decide +kernel
theorem dX1_weighAll_19 : decode cX1_weighAll 19 = .ok (.iload_n 1, 1) := by decide +kernel
theorem dX1_weighAll_20 : decode cX1_weighAll 20 = .ok (.bipush 6, 2) := by decide +kernel
theorem dX1_weighAll_22 : decode cX1_weighAll 22 = .ok (.iload 5, 2) := by decide +kernel
theorem dX1_weighAll_24 : decode cX1_weighAll 24 = .ok (.imul, 1) := by decide +kernel
theorem dX1_weighAll_25 : decode cX1_weighAll 25 = .ok (.iload 6, 2) := by decide +kernel
theorem dX1_weighAll_27 : decode cX1_weighAll 27 = .ok (.iadd, 1) := by decide +kernel
theorem dX1_weighAll_28 : decode cX1_weighAll 28 = .ok (.iload_n 2, 1) := by decide +kernel
theorem dX1_weighAll_29 : decode cX1_weighAll 29 = .ok (.iload 4, 2) := by decide +kernel
theorem dX1_weighAll_31 : decode cX1_weighAll 31 = .ok (.invokevirtual 78, 3) := by decide +kernel
theorem dX1_weighAll_34 : decode cX1_weighAll 34 = .ok (.iinc 6 1, 3) := by decide +kernel
theorem dX1_weighAll_37 : decode cX1_weighAll 37 = .ok (.goto (-25), 3) := by decide +kernel
theorem dX1_weighAll_40 : decode cX1_weighAll 40 = .ok (.iinc 5 1, 3) := by decide +kernel
theorem dX1_weighAll_43 : decode cX1_weighAll 43 = .ok (.goto (-40), 3) := by decide +kernel
theorem dX1_weighAll_46 : decode cX1_weighAll 46 = .ok (.return_, 1) := by decide +kernel
theorem dX1_weigh_0 : decode cX1_weigh 0 = .ok (.iconst 0, 1) := by decide +kernel
theorem dX1_weigh_1 : decode cX1_weigh 1 = .ok (.istore 5, 2) := by decide +kernel
theorem dX1_weigh_3 : decode cX1_weigh 3 = .ok (.iconst 1, 1) := by decide +kernel
theorem dX1_weigh_4 : decode cX1_weigh 4 = .ok (.istore 6, 2) := by decide +kernel
theorem dX1_weigh_6 : decode cX1_weigh 6 = .ok (.iconst 0, 1) := by decide +kernel
theorem dX1_weigh_7 : decode cX1_weigh 7 = .ok (.istore 7, 2) := by decide +kernel
theorem dX1_weigh_9 : decode cX1_weigh 9 = .ok (.iload 7, 2) := by decide +kernel
theorem dX1_weigh_11 : decode cX1_weigh 11 = .ok (.iload_n 3, 1) := by decide +kernel
theorem dX1_weigh_12 : decode cX1_weigh 12 = .ok (.if_icmp .ge 62, 3) := by decide +kernel
theorem dX1_weigh_15 : decode cX1_weigh 15 = .ok (.aload_n 0, 1) := by decide +kernel
theorem dX1_weigh_16 : decode cX1_weigh 16 = .ok (.getfield 15, 3) := by decide +kernel
theorem dX1_weigh_19 : decode cX1_weigh 19 = .ok (.iconst 0, 1) := by decide +kernel
theorem dX1_weigh_20 : decode cX1_weigh 20 = .ok (.iload_n 1, 1) := by decide +kernel
theorem dX1_weigh_21 : decode cX1_weigh 21 = .ok (.invokestatic 69, 3) := by decide +kernel
theorem dX1_weigh_24 : decode cX1_weigh 24 = .ok (.iload 7, 2) := by decide +kernel
theorem dX1_weigh_26 : decode cX1_weigh 26 = .ok (.iadd, 1) := by decide +kernel
theorem dX1_weigh_27 : decode cX1_weigh 27 = .ok (.iaload, 1) := by decide +kernel
theorem dX1_weigh_28 : decode cX1_weigh 28 = .ok (.aload_n 0, 1) := by decide +kernel
theorem dX1_weigh_29 : decode cX1_weigh 29 = .ok (.getfield 15, 3) := by decide +kernel
theorem dX1_weigh_32 : decode cX1_weigh 32 = .ok (.iconst 1, 1) := by decide +kernel
theorem dX1_weigh_33 : decode cX1_weigh 33 = .ok (.iload_n 2, 1) := by decide +kernel
theorem dX1_weigh_34 : decode cX1_weigh 34 = .ok (.invokestatic 69, 3) := by decide +kernel
theorem dX1_weigh_37 : decode cX1_weigh 37 = .ok (.iload 7, 2) := by decide +kernel
theorem dX1_weigh_39 : decode cX1_weigh 39 = .ok (.iadd, 1) := by decide +kernel
theorem dX1_weigh_40 : decode cX1_weigh 40 = .ok (.iaload, 1) := by decide +kernel
theorem dX1_weigh_41 : decode cX1_weigh 41 = .ok (.iadd, 1) := by decide +kernel
theorem dX1_weigh_42 : decode cX1_weigh 42 = .ok (.istore 8, 2) := by decide +kernel
theorem dX1_weigh_44 : decode cX1_weigh 44 = .ok (.iload 5, 2) := by decide +kernel
theorem dX1_weigh_46 : decode cX1_weigh 46 = .ok (.iload 8, 2) := by decide +kernel
theorem dX1_weigh_48 : decode cX1_weigh 48 = .ok (.iadd, 1) := by decide +kernel
theorem dX1_weigh_49 : decode cX1_weigh 49 = .ok (.istore 5, 2) := by decide +kernel
theorem dX1_weigh_51 : decode cX1_weigh 51 = .ok (.iload 6, 2) := by decide +kernel
theorem dX1_weigh_53 : decode cX1_weigh 53 = .ok (.iload 8, 2) := by decide +kernel
theorem dX1_weigh_55 : decode cX1_weigh 55 = .ok (.iload 4, 2) := by decide +kernel
theorem dX1_weigh_57 : decode cX1_weigh 57 = .ok (.if_icmp .gt 7, 3) := by decide +kernel
theorem dX1_weigh_60 : decode cX1_weigh 60 = .ok (.iconst 1, 1) := by decide +kernel
theorem dX1_weigh_61 : decode cX1_weigh 61 = .ok (.goto 4, 3) := by decide +kernel
theorem dX1_weigh_64 : decode cX1_weigh 64 = .ok (.iconst 0, 1) := by decide +kernel
theorem dX1_weigh_65 : decode cX1_weigh 65 = .ok (.iand, 1) := by decide +kernel
theorem dX1_weigh_66 : decode cX1_weigh 66 = .ok (.istore 6, 2) := by decide +kernel
theorem dX1_weigh_68 : decode cX1_weigh 68 = .ok (.iinc 7 1, 3) := by decide +kernel
theorem dX1_weigh_71 : decode cX1_weigh 71 = .ok (.goto (-62), 3) := by decide +kernel
theorem dX1_weigh_74 : decode cX1_weigh 74 = .ok (.bipush 100, 2) := by decide +kernel
theorem dX1_weigh_76 : decode cX1_weigh 76 = .ok (.iload_n 1, 1) := by decide +kernel
theorem dX1_weigh_77 : decode cX1_weigh 77 = .ok (.invokestatic 81, 3) := by decide +kernel
theorem dX1_weigh_80 : decode cX1_weigh 80 = .ok (.imul, 1) := by decide +kernel
theorem dX1_weigh_81 : decode cX1_weigh 81 = .ok (.iload_n 2, 1) := by decide +kernel
theorem dX1_weigh_82 : decode cX1_weigh 82 = .ok (.invokestatic 81, 3) := by decide +kernel
theorem dX1_weigh_85 : decode cX1_weigh 85 = .ok (.iadd, 1) := by decide +kernel
theorem dX1_weigh_86 : decode cX1_weigh 86 = .ok (.istore 7, 2) := by decide +kernel
theorem dX1_weigh_88 : decode cX1_weigh 88 = .ok (.iload 6, 2) := by decide +kernel
theorem dX1_weigh_90 : decode cX1_weigh 90 = .ok (.ifCond .eq 34, 3) := by decide +kernel
theorem dX1_weigh_93 : decode cX1_weigh 93 = .ok (.aload_n 0, 1) := by decide +kernel
theorem dX1_weigh_94 : decode cX1_weigh 94 = .ok (.dup, 1) := by decide +kernel
theorem dX1_weigh_95 : decode cX1_weigh 95 = .ok (.getfield 29, 3) := by decide +kernel
theorem dX1_weigh_98 : decode cX1_weigh 98 = .ok (.iconst 1, 1) := by decide +kernel
theorem dX1_weigh_99 : decode cX1_weigh 99 = .ok (.iadd, 1) := by decide +kernel
theorem dX1_weigh_100 : decode cX1_weigh 100 = .ok (.putfield 29, 3) := by decide +kernel
theorem dX1_weigh_103 : decode cX1_weigh 103 = .ok (.aload_n 0, 1) := by decide +kernel
theorem dX1_weigh_104 : decode cX1_weigh 104 = .ok (.aload_n 0, 1) := by decide +kernel
theorem dX1_weigh_105 : decode cX1_weigh 105 = .ok (.getfield 33, 3) := by decide +kernel
theorem dX1_weigh_108 : decode cX1_weigh 108 = .ok (.iconst (-1), 1) := by decide +kernel
theorem dX1_weigh_109 : decode cX1_weigh 109 = .ok (.if_icmp .ne 8, 3) := by decide +kernel
theorem dX1_weigh_112 : decode cX1_weigh 112 = .ok (.iload 7, 2) := by decide +kernel
theorem dX1_weigh_114 : decode cX1_weigh 114 = .ok (.goto 7, 3) := by decide +kernel
theorem dX1_weigh_117 : decode cX1_weigh 117 = .ok (.aload_n 0, 1) := by decide +kernel
theorem dX1_weigh_118 : decode cX1_weigh 118 = .ok (.getfield 33, 3) := by decide +kernel
theorem dX1_weigh_121 : decode cX1_weigh 121 = .ok (.putfield 33, 3) := by decide +kernel
theorem dX1_weigh_124 : decode cX1_weigh 124 = .ok (.aload_n 0, 1) := by decide +kernel
theorem dX1_weigh_125 : decode cX1_weigh 125 = .ok (.getfield 36, 3) := by decide +kernel
theorem dX1_weigh_128 : decode cX1_weigh 128 = .ok (.iconst (-1), 1) := by decide +kernel
theorem dX1_weigh_129 : decode cX1_weigh 129 = .ok (.if_icmp .eq 12, 3) := by decide +kernel
theorem dX1_weigh_132 : decode cX1_weigh 132 = .ok (.iload 5, 2) := by decide +kernel
theorem dX1_weigh_134 : decode cX1_weigh 134 = .ok (.aload_n 0, 1) := by decide +kernel
theorem dX1_weigh_135 : decode cX1_weigh 135 = .ok (.getfield 39, 3) := by decide +kernel
theorem dX1_weigh_138 : decode cX1_weigh 138 = .ok (.if_icmp .ge 15, 3) := by decide +kernel
theorem dX1_weigh_141 : decode cX1_weigh 141 = .ok (.aload_n 0, 1) := by decide +kernel
theorem dX1_weigh_142 : decode cX1_weigh 142 = .ok (.iload 7, 2) := by decide +kernel
theorem dX1_weigh_144 : decode cX1_weigh 144 = .ok (.putfield 36, 3) := by decide +kernel
theorem dX1_weigh_147 : decode cX1_weigh 147 = .ok (.aload_n 0, 1) := by decide +kernel
theorem dX1_weigh_148 : decode cX1_weigh 148 = .ok (.iload 5, 2) := by decide +kernel
theorem dX1_weigh_150 : decode cX1_weigh 150 = .ok (.putfield 39, 3) := by decide +kernel
theorem dX1_weigh_153 : decode cX1_weigh 153 = .ok (.return_, 1) := by decide +kernel
theorem dX1_figures_0 : decode cX1_figures 0 = .ok (.bipush 10, 2) := by decide +kernel
theorem dX1_figures_2 : decode cX1_figures 2 = .ok (.iload_n 0, 1) := by decide +kernel
theorem dX1_figures_3 : decode cX1_figures 3 = .ok (.bipush 6, 2) := by decide +kernel
theorem dX1_figures_5 : decode cX1_figures 5 = .ok (.idiv, 1) := by decide +kernel
theorem dX1_figures_6 : decode cX1_figures 6 = .ok (.imul, 1) := by decide +kernel
theorem dX1_figures_7 : decode cX1_figures 7 = .ok (.iload_n 0, 1) := by decide +kernel
theorem dX1_figures_8 : decode cX1_figures 8 = .ok (.bipush 6, 2) := by decide +kernel
theorem dX1_figures_10 : decode cX1_figures 10 = .ok (.irem, 1) := by decide +kernel
theorem dX1_figures_11 : decode cX1_figures 11 = .ok (.iadd, 1) := by decide +kernel
theorem dX1_figures_12 : decode cX1_figures 12 = .ok (.ireturn, 1) := by decide +kernel
theorem dX1_findCart_0 : decode cX1_findCart 0 = .ok (.iconst 0, 1) := by decide +kernel
theorem dX1_findCart_1 : decode cX1_findCart 1 = .ok (.istore_n 3, 1) := by decide +kernel
theorem dX1_findCart_2 : decode cX1_findCart 2 = .ok (.iload_n 3, 1) := by decide +kernel
theorem dX1_findCart_3 : decode cX1_findCart 3 = .ok (.aload_n 2, 1) := by decide +kernel
theorem dX1_findCart_4 : decode cX1_findCart 4 = .ok (.getfield 42, 3) := by decide +kernel
theorem dX1_findCart_7 : decode cX1_findCart 7 = .ok (.if_icmp .ge 73, 3) := by decide +kernel
theorem dX1_findCart_10 : decode cX1_findCart 10 = .ok (.aload_n 2, 1) := by decide +kernel
theorem dX1_findCart_11 : decode cX1_findCart 11 = .ok (.getfield 60, 3) := by decide +kernel
theorem dX1_findCart_14 : decode cX1_findCart 14 = .ok (.iconst 3, 1) := by decide +kernel
theorem dX1_findCart_15 : decode cX1_findCart 15 = .ok (.iload_n 3, 1) := by decide +kernel
theorem dX1_findCart_16 : decode cX1_findCart 16 = .ok (.imul, 1) := by decide +kernel
theorem dX1_findCart_17 : decode cX1_findCart 17 = .ok (.iaload, 1) := by decide +kernel
theorem dX1_findCart_18 : decode cX1_findCart 18 = .ok (.istore 4, 2) := by decide +kernel
theorem dX1_findCart_20 : decode cX1_findCart 20 = .ok (.aload_n 0, 1) := by decide +kernel
theorem dX1_findCart_21 : decode cX1_findCart 21 = .ok (.getfield 18, 3) := by decide +kernel
theorem dX1_findCart_24 : decode cX1_findCart 24 = .ok (.iconst 2, 1) := by decide +kernel
theorem dX1_findCart_25 : decode cX1_findCart 25 = .ok (.iload_n 3, 1) := by decide +kernel
theorem dX1_findCart_26 : decode cX1_findCart 26 = .ok (.imul, 1) := by decide +kernel
theorem dX1_findCart_27 : decode cX1_findCart 27 = .ok (.aload_n 2, 1) := by decide +kernel
theorem dX1_findCart_28 : decode cX1_findCart 28 = .ok (.getfield 60, 3) := by decide +kernel
theorem dX1_findCart_31 : decode cX1_findCart 31 = .ok (.iconst 3, 1) := by decide +kernel
theorem dX1_findCart_32 : decode cX1_findCart 32 = .ok (.iload_n 3, 1) := by decide +kernel
theorem dX1_findCart_33 : decode cX1_findCart 33 = .ok (.imul, 1) := by decide +kernel
theorem dX1_findCart_34 : decode cX1_findCart 34 = .ok (.iconst 1, 1) := by decide +kernel
theorem dX1_findCart_35 : decode cX1_findCart 35 = .ok (.iadd, 1) := by decide +kernel
theorem dX1_findCart_36 : decode cX1_findCart 36 = .ok (.iaload, 1) := by decide +kernel
theorem dX1_findCart_37 : decode cX1_findCart 37 = .ok (.aload_n 1, 1) := by decide +kernel
theorem dX1_findCart_38 : decode cX1_findCart 38 = .ok (.iload 4, 2) := by decide +kernel
theorem dX1_findCart_40 : decode cX1_findCart 40 = .ok (.iconst 0, 1) := by decide +kernel
theorem dX1_findCart_41 : decode cX1_findCart 41 = .ok (.invokevirtual 84, 3) := by decide +kernel
theorem dX1_findCart_44 : decode cX1_findCart 44 = .ok (.isub, 1) := by decide +kernel
theorem dX1_findCart_45 : decode cX1_findCart 45 = .ok (.iastore, 1) := by decide +kernel
theorem dX1_findCart_46 : decode cX1_findCart 46 = .ok (.aload_n 0, 1) := by decide +kernel
theorem dX1_findCart_47 : decode cX1_findCart 47 = .ok (.getfield 18, 3) := by decide +kernel
theorem dX1_findCart_50 : decode cX1_findCart 50 = .ok (.iconst 2, 1) := by decide +kernel
theorem dX1_findCart_51 : decode cX1_findCart 51 = .ok (.iload_n 3, 1) := by decide +kernel
theorem dX1_findCart_52 : decode cX1_findCart 52 = .ok (.imul, 1) := by decide +kernel
theorem dX1_findCart_53 : decode cX1_findCart 53 = .ok (.iconst 1, 1) := by decide +kernel
theorem dX1_findCart_54 : decode cX1_findCart 54 = .ok (.iadd, 1) := by decide +kernel
theorem dX1_findCart_55 : decode cX1_findCart 55 = .ok (.aload_n 2, 1) := by decide +kernel
theorem dX1_findCart_56 : decode cX1_findCart 56 = .ok (.getfield 60, 3) := by decide +kernel
theorem dX1_findCart_59 : decode cX1_findCart 59 = .ok (.iconst 3, 1) := by decide +kernel
theorem dX1_findCart_60 : decode cX1_findCart 60 = .ok (.iload_n 3, 1) := by decide +kernel
theorem dX1_findCart_61 : decode cX1_findCart 61 = .ok (.imul, 1) := by decide +kernel
theorem dX1_findCart_62 : decode cX1_findCart 62 = .ok (.iconst 2, 1) := by decide +kernel
theorem dX1_findCart_63 : decode cX1_findCart 63 = .ok (.iadd, 1) := by decide +kernel
theorem dX1_findCart_64 : decode cX1_findCart 64 = .ok (.iaload, 1) := by decide +kernel
theorem dX1_findCart_65 : decode cX1_findCart 65 = .ok (.aload_n 1, 1) := by decide +kernel
theorem dX1_findCart_66 : decode cX1_findCart 66 = .ok (.iload 4, 2) := by decide +kernel
theorem dX1_findCart_68 : decode cX1_findCart 68 = .ok (.iconst 1, 1) := by decide +kernel
theorem dX1_findCart_69 : decode cX1_findCart 69 = .ok (.invokevirtual 84, 3) := by decide +kernel
theorem dX1_findCart_72 : decode cX1_findCart 72 = .ok (.isub, 1) := by decide +kernel
theorem dX1_findCart_73 : decode cX1_findCart 73 = .ok (.iastore, 1) := by decide +kernel
theorem dX1_findCart_74 : decode cX1_findCart 74 = .ok (.iinc 3 1, 3) := by decide +kernel
theorem dX1_findCart_77 : decode cX1_findCart 77 = .ok (.goto (-75), 3) := by decide +kernel
theorem dX1_findCart_80 : decode cX1_findCart 80 = .ok (.aload_n 0, 1) := by decide +kernel
theorem dX1_findCart_81 : decode cX1_findCart 81 = .ok (.iconst 0, 1) := by decide +kernel
theorem dX1_findCart_82 : decode cX1_findCart 82 = .ok (.putfield 87, 3) := by decide +kernel
theorem dX1_findCart_85 : decode cX1_findCart 85 = .ok (.aload_n 0, 1) := by decide +kernel
theorem dX1_findCart_86 : decode cX1_findCart 86 = .ok (.iconst (-1), 1) := by decide +kernel
theorem dX1_findCart_87 : decode cX1_findCart 87 = .ok (.putfield 90, 3) := by decide +kernel
theorem dX1_findCart_90 : decode cX1_findCart 90 = .ok (.aload_n 0, 1) := by decide +kernel
theorem dX1_findCart_91 : decode cX1_findCart 91 = .ok (.iconst 0, 1) := by decide +kernel
theorem dX1_findCart_92 : decode cX1_findCart 92 = .ok (.putfield 93, 3) := by decide +kernel
theorem dX1_findCart_95 : decode cX1_findCart 95 = .ok (.aload_n 0, 1) := by decide +kernel
theorem dX1_findCart_96 : decode cX1_findCart 96 = .ok (.iconst 0, 1) := by decide +kernel
theorem dX1_findCart_97 : decode cX1_findCart 97 = .ok (.putfield 96, 3) := by decide +kernel
theorem dX1_findCart_100 : decode cX1_findCart 100 = .ok (.iconst 0, 1) := by decide +kernel
theorem dX1_findCart_101 : decode cX1_findCart 101 = .ok (.istore_n 3, 1) := by decide +kernel
theorem dX1_findCart_102 : decode cX1_findCart 102 = .ok (.iload_n 3, 1) := by decide +kernel
theorem dX1_findCart_103 : decode cX1_findCart 103 = .ok (.sipush 999, 3) := by decide +kernel
theorem dX1_findCart_106 : decode cX1_findCart 106 = .ok (.if_icmp .gt 15, 3) := by decide +kernel
theorem dX1_findCart_109 : decode cX1_findCart 109 = .ok (.aload_n 0, 1) := by decide +kernel
theorem dX1_findCart_110 : decode cX1_findCart 110 = .ok (.iload_n 3, 1) := by decide +kernel
theorem dX1_findCart_111 : decode cX1_findCart 111 = .ok (.aload_n 2, 1) := by decide +kernel
theorem dX1_findCart_112 : decode cX1_findCart 112 = .ok (.invokevirtual 99, 3) := by decide +kernel
theorem dX1_findCart_115 : decode cX1_findCart 115 = .ok (.iinc 3 1, 3) := by decide +kernel
theorem dX1_findCart_118 : decode cX1_findCart 118 = .ok (.goto (-16), 3) := by decide +kernel
theorem dX1_findCart_121 : decode cX1_findCart 121 = .ok (.return_, 1) := by decide +kernel
theorem dX1_tryCart_0 : decode cX1_tryCart 0 = .ok (.aload_n 0, 1) := by decide +kernel
theorem dX1_tryCart_1 : decode cX1_tryCart 1 = .ok (.iload_n 1, 1) := by decide +kernel
theorem dX1_tryCart_2 : decode cX1_tryCart 2 = .ok (.aload_n 2, 1) := by decide +kernel
theorem dX1_tryCart_3 : decode cX1_tryCart 3 = .ok (.invokevirtual 103, 3) := by decide +kernel
theorem dX1_tryCart_6 : decode cX1_tryCart 6 = .ok (.istore_n 3, 1) := by decide +kernel
theorem dX1_tryCart_7 : decode cX1_tryCart 7 = .ok (.iload_n 3, 1) := by decide +kernel
theorem dX1_tryCart_8 : decode cX1_tryCart 8 = .ok (.iconst (-1), 1) := by decide +kernel
theorem dX1_tryCart_9 : decode cX1_tryCart 9 = .ok (.if_icmp .ne 4, 3) := by decide +kernel
theorem dX1_tryCart_12 : decode cX1_tryCart 12 = .ok (.return_, 1) := by decide +kernel
theorem dX1_tryCart_13 : decode cX1_tryCart 13 = .ok (.aload_n 0, 1) := by decide +kernel
theorem dX1_tryCart_14 : decode cX1_tryCart 14 = .ok (.getfield 87, 3) := by decide +kernel
theorem dX1_tryCart_17 : decode cX1_tryCart 17 = .ok (.ifCond .ne 34, 3) := by decide +kernel
theorem dX1_tryCart_20 : decode cX1_tryCart 20 = .ok (.aload_n 0, 1) := by decide +kernel
theorem dX1_tryCart_21 : decode cX1_tryCart 21 = .ok (.iload_n 1, 1) := by decide +kernel
theorem dX1_tryCart_22 : decode cX1_tryCart 22 = .ok (.putfield 90, 3) := by decide +kernel
theorem dX1_tryCart_25 : decode cX1_tryCart 25 = .ok (.aload_n 0, 1) := by decide +kernel
theorem dX1_tryCart_26 : decode cX1_tryCart 26 = .ok (.aload_n 0, 1) := by decide +kernel
theorem dX1_tryCart_27 : decode cX1_tryCart 27 = .ok (.getfield 18, 3) := by decide +kernel
theorem dX1_tryCart_30 : decode cX1_tryCart 30 = .ok (.iconst 2, 1) := by decide +kernel
theorem dX1_tryCart_31 : decode cX1_tryCart 31 = .ok (.iload_n 3, 1) := by decide +kernel
theorem dX1_tryCart_32 : decode cX1_tryCart 32 = .ok (.imul, 1) := by decide +kernel
theorem dX1_tryCart_33 : decode cX1_tryCart 33 = .ok (.iaload, 1) := by decide +kernel
theorem dX1_tryCart_34 : decode cX1_tryCart 34 = .ok (.putfield 93, 3) := by decide +kernel
theorem dX1_tryCart_37 : decode cX1_tryCart 37 = .ok (.aload_n 0, 1) := by decide +kernel
theorem dX1_tryCart_38 : decode cX1_tryCart 38 = .ok (.aload_n 0, 1) := by decide +kernel
theorem dX1_tryCart_39 : decode cX1_tryCart 39 = .ok (.getfield 18, 3) := by decide +kernel
theorem dX1_tryCart_42 : decode cX1_tryCart 42 = .ok (.iconst 2, 1) := by decide +kernel
theorem dX1_tryCart_43 : decode cX1_tryCart 43 = .ok (.iload_n 3, 1) := by decide +kernel
theorem dX1_tryCart_44 : decode cX1_tryCart 44 = .ok (.imul, 1) := by decide +kernel
theorem dX1_tryCart_45 : decode cX1_tryCart 45 = .ok (.iconst 1, 1) := by decide +kernel
theorem dX1_tryCart_46 : decode cX1_tryCart 46 = .ok (.iadd, 1) := by decide +kernel
theorem dX1_tryCart_47 : decode cX1_tryCart 47 = .ok (.iaload, 1) := by decide +kernel
theorem dX1_tryCart_48 : decode cX1_tryCart 48 = .ok (.putfield 96, 3) := by decide +kernel
theorem dX1_tryCart_51 : decode cX1_tryCart 51 = .ok (.aload_n 0, 1) := by decide +kernel
theorem dX1_tryCart_52 : decode cX1_tryCart 52 = .ok (.dup, 1) := by decide +kernel
theorem dX1_tryCart_53 : decode cX1_tryCart 53 = .ok (.getfield 87, 3) := by decide +kernel
theorem dX1_tryCart_56 : decode cX1_tryCart 56 = .ok (.iconst 1, 1) := by decide +kernel
theorem dX1_tryCart_57 : decode cX1_tryCart 57 = .ok (.iadd, 1) := by decide +kernel
theorem dX1_tryCart_58 : decode cX1_tryCart 58 = .ok (.putfield 87, 3) := by decide +kernel
theorem dX1_tryCart_61 : decode cX1_tryCart 61 = .ok (.return_, 1) := by decide +kernel
theorem dX1_modelOf_0 : decode cX1_modelOf 0 = .ok (.iconst (-1), 1) := by decide +kernel
theorem dX1_modelOf_1 : decode cX1_modelOf 1 = .ok (.istore_n 3, 1) := by decide +kernel
theorem dX1_modelOf_2 : decode cX1_modelOf 2 = .ok (.iconst 0, 1) := by decide +kernel
theorem dX1_modelOf_3 : decode cX1_modelOf 3 = .ok (.istore 4, 2) := by decide +kernel
theorem dX1_modelOf_5 : decode cX1_modelOf 5 = .ok (.iload 4, 2) := by decide +kernel
theorem dX1_modelOf_7 : decode cX1_modelOf 7 = .ok (.aload_n 2, 1) := by decide +kernel
theorem dX1_modelOf_8 : decode cX1_modelOf 8 = .ok (.getfield 42, 3) := by decide +kernel
theorem dX1_modelOf_11 : decode cX1_modelOf 11 = .ok (.if_icmp .ge 90, 3) := by decide +kernel
theorem dX1_modelOf_14 : decode cX1_modelOf 14 = .ok (.aload_n 2, 1) := by decide +kernel
theorem dX1_modelOf_15 : decode cX1_modelOf 15 = .ok (.getfield 60, 3) := by decide +kernel
theorem dX1_modelOf_18 : decode cX1_modelOf 18 = .ok (.iconst 3, 1) := by decide +kernel
theorem dX1_modelOf_19 : decode cX1_modelOf 19 = .ok (.iload 4, 2) := by decide +kernel
theorem dX1_modelOf_21 : decode cX1_modelOf 21 = .ok (.imul, 1) := by decide +kernel
theorem dX1_modelOf_22 : decode cX1_modelOf 22 = .ok (.iaload, 1) := by decide +kernel
theorem dX1_modelOf_23 : decode cX1_modelOf 23 = .ok (.iload_n 1, 1) := by decide +kernel
theorem dX1_modelOf_24 : decode cX1_modelOf 24 = .ok (.if_icmp .ge 14, 3) := by decide +kernel
theorem dX1_modelOf_27 : decode cX1_modelOf 27 = .ok (.aload_n 0, 1) := by decide +kernel
theorem dX1_modelOf_28 : decode cX1_modelOf 28 = .ok (.iload 4, 2) := by decide +kernel
theorem dX1_modelOf_30 : decode cX1_modelOf 30 = .ok (.invokevirtual 107, 3) := by decide +kernel
theorem dX1_modelOf_33 : decode cX1_modelOf 33 = .ok (.ifCond .ne 62, 3) := by decide +kernel
theorem dX1_modelOf_36 : decode cX1_modelOf 36 = .ok (.iconst (-1), 1) := by decide +kernel
theorem dX1_modelOf_37 : decode cX1_modelOf 37 = .ok (.ireturn, 1) := by decide +kernel
theorem dX1_modelOf_38 : decode cX1_modelOf 38 = .ok (.iload_n 3, 1) := by decide +kernel
theorem dX1_modelOf_39 : decode cX1_modelOf 39 = .ok (.iconst (-1), 1) := by decide +kernel
theorem dX1_modelOf_40 : decode cX1_modelOf 40 = .ok (.if_icmp .ne 9, 3) := by decide +kernel
theorem dX1_modelOf_43 : decode cX1_modelOf 43 = .ok (.iload 4, 2) := by decide +kernel
theorem dX1_modelOf_45 : decode cX1_modelOf 45 = .ok (.istore_n 3, 1) := by decide +kernel
theorem dX1_modelOf_46 : decode cX1_modelOf 46 = .ok (.goto 49, 3) := by decide +kernel
theorem dX1_modelOf_49 : decode cX1_modelOf 49 = .ok (.aload_n 0, 1) := by decide +kernel
theorem dX1_modelOf_50 : decode cX1_modelOf 50 = .ok (.getfield 18, 3) := by decide +kernel
theorem dX1_modelOf_53 : decode cX1_modelOf 53 = .ok (.iconst 2, 1) := by decide +kernel
theorem dX1_modelOf_54 : decode cX1_modelOf 54 = .ok (.iload 4, 2) := by decide +kernel
theorem dX1_modelOf_56 : decode cX1_modelOf 56 = .ok (.imul, 1) := by decide +kernel
theorem dX1_modelOf_57 : decode cX1_modelOf 57 = .ok (.iaload, 1) := by decide +kernel
theorem dX1_modelOf_58 : decode cX1_modelOf 58 = .ok (.aload_n 0, 1) := by decide +kernel
theorem dX1_modelOf_59 : decode cX1_modelOf 59 = .ok (.getfield 18, 3) := by decide +kernel
theorem dX1_modelOf_62 : decode cX1_modelOf 62 = .ok (.iconst 2, 1) := by decide +kernel
theorem dX1_modelOf_63 : decode cX1_modelOf 63 = .ok (.iload_n 3, 1) := by decide +kernel
theorem dX1_modelOf_64 : decode cX1_modelOf 64 = .ok (.imul, 1) := by decide +kernel
theorem dX1_modelOf_65 : decode cX1_modelOf 65 = .ok (.iaload, 1) := by decide +kernel
theorem dX1_modelOf_66 : decode cX1_modelOf 66 = .ok (.if_icmp .ne 27, 3) := by decide +kernel
theorem dX1_modelOf_69 : decode cX1_modelOf 69 = .ok (.aload_n 0, 1) := by decide +kernel
theorem dX1_modelOf_70 : decode cX1_modelOf 70 = .ok (.getfield 18, 3) := by decide +kernel
theorem dX1_modelOf_73 : decode cX1_modelOf 73 = .ok (.iconst 2, 1) := by decide +kernel
theorem dX1_modelOf_74 : decode cX1_modelOf 74 = .ok (.iload 4, 2) := by decide +kernel
theorem dX1_modelOf_76 : decode cX1_modelOf 76 = .ok (.imul, 1) := by decide +kernel
theorem dX1_modelOf_77 : decode cX1_modelOf 77 = .ok (.iconst 1, 1) := by decide +kernel
theorem dX1_modelOf_78 : decode cX1_modelOf 78 = .ok (.iadd, 1) := by decide +kernel
theorem dX1_modelOf_79 : decode cX1_modelOf 79 = .ok (.iaload, 1) := by decide +kernel
theorem dX1_modelOf_80 : decode cX1_modelOf 80 = .ok (.aload_n 0, 1) := by decide +kernel
theorem dX1_modelOf_81 : decode cX1_modelOf 81 = .ok (.getfield 18, 3) := by decide +kernel
theorem dX1_modelOf_84 : decode cX1_modelOf 84 = .ok (.iconst 2, 1) := by decide +kernel
theorem dX1_modelOf_85 : decode cX1_modelOf 85 = .ok (.iload_n 3, 1) := by decide +kernel
theorem dX1_modelOf_86 : decode cX1_modelOf 86 = .ok (.imul, 1) := by decide +kernel
theorem dX1_modelOf_87 : decode cX1_modelOf 87 = .ok (.iconst 1, 1) := by decide +kernel
theorem dX1_modelOf_88 : decode cX1_modelOf 88 = .ok (.iadd, 1) := by decide +kernel
theorem dX1_modelOf_89 : decode cX1_modelOf 89 = .ok (.iaload, 1) := by decide +kernel
theorem dX1_modelOf_90 : decode cX1_modelOf 90 = .ok (.if_icmp .eq 5, 3) := by decide +kernel
theorem dX1_modelOf_93 : decode cX1_modelOf 93 = .ok (.iconst (-1), 1) := by decide +kernel
theorem dX1_modelOf_94 : decode cX1_modelOf 94 = .ok (.ireturn, 1) := by decide +kernel
theorem dX1_modelOf_95 : decode cX1_modelOf 95 = .ok (.iinc 4 1, 3) := by decide +kernel
theorem dX1_modelOf_98 : decode cX1_modelOf 98 = .ok (.goto (-93), 3) := by decide +kernel
theorem dX1_modelOf_101 : decode cX1_modelOf 101 = .ok (.iload_n 3, 1) := by decide +kernel
theorem dX1_modelOf_102 : decode cX1_modelOf 102 = .ok (.iconst (-1), 1) := by decide +kernel
theorem dX1_modelOf_103 : decode cX1_modelOf 103 = .ok (.if_icmp .eq 15, 3) := by decide +kernel
theorem dX1_modelOf_106 : decode cX1_modelOf 106 = .ok (.aload_n 0, 1) := by decide +kernel
theorem dX1_modelOf_107 : decode cX1_modelOf 107 = .ok (.iload_n 3, 1) := by decide +kernel
theorem dX1_modelOf_108 : decode cX1_modelOf 108 = .ok (.invokevirtual 111, 3) := by decide +kernel
theorem dX1_modelOf_111 : decode cX1_modelOf 111 = .ok (.ifCond .eq 7, 3) := by decide +kernel
theorem dX1_modelOf_114 : decode cX1_modelOf 114 = .ok (.iload_n 3, 1) := by decide +kernel
theorem dX1_modelOf_115 : decode cX1_modelOf 115 = .ok (.goto 4, 3) := by decide +kernel
theorem dX1_modelOf_118 : decode cX1_modelOf 118 = .ok (.iconst (-1), 1) := by decide +kernel
theorem dX1_modelOf_119 : decode cX1_modelOf 119 = .ok (.ireturn, 1) := by decide +kernel
theorem dX1_isStill_0 : decode cX1_isStill 0 = .ok (.aload_n 0, 1) := by decide +kernel
theorem dX1_isStill_1 : decode cX1_isStill 1 = .ok (.getfield 18, 3) := by decide +kernel
theorem dX1_isStill_4 : decode cX1_isStill 4 = .ok (.iconst 2, 1) := by decide +kernel
theorem dX1_isStill_5 : decode cX1_isStill 5 = .ok (.iload_n 1, 1) := by decide +kernel
theorem dX1_isStill_6 : decode cX1_isStill 6 = .ok (.imul, 1) := by decide +kernel
theorem dX1_isStill_7 : decode cX1_isStill 7 = .ok (.iaload, 1) := by decide +kernel
theorem dX1_isStill_8 : decode cX1_isStill 8 = .ok (.ifCond .ne 20, 3) := by decide +kernel
theorem dX1_isStill_11 : decode cX1_isStill 11 = .ok (.aload_n 0, 1) := by decide +kernel
theorem dX1_isStill_12 : decode cX1_isStill 12 = .ok (.getfield 18, 3) := by decide +kernel
theorem dX1_isStill_15 : decode cX1_isStill 15 = .ok (.iconst 2, 1) := by decide +kernel
theorem dX1_isStill_16 : decode cX1_isStill 16 = .ok (.iload_n 1, 1) := by decide +kernel
theorem dX1_isStill_17 : decode cX1_isStill 17 = .ok (.imul, 1) := by decide +kernel
theorem dX1_isStill_18 : decode cX1_isStill 18 = .ok (.iconst 1, 1) := by decide +kernel
theorem dX1_isStill_19 : decode cX1_isStill 19 = .ok (.iadd, 1) := by decide +kernel
theorem dX1_isStill_20 : decode cX1_isStill 20 = .ok (.iaload, 1) := by decide +kernel
theorem dX1_isStill_21 : decode cX1_isStill 21 = .ok (.ifCond .ne 7, 3) := by decide +kernel
theorem dX1_isStill_24 : decode cX1_isStill 24 = .ok (.iconst 1, 1) := by decide +kernel
theorem dX1_isStill_25 : decode cX1_isStill 25 = .ok (.goto 4, 3) := by decide +kernel
theorem dX1_isStill_28 : decode cX1_isStill 28 = .ok (.iconst 0, 1) := by decide +kernel
theorem dX1_isStill_29 : decode cX1_isStill 29 = .ok (.ireturn, 1) := by decide +kernel
theorem dX1_isCartsWay_0 : decode cX1_isCartsWay 0 = .ok (.aload_n 0, 1) := by decide +kernel
theorem dX1_isCartsWay_1 : decode cX1_isCartsWay 1 = .ok (.iload_n 1, 1) := by decide +kernel
theorem dX1_isCartsWay_2 : decode cX1_isCartsWay 2 = .ok (.invokevirtual 107, 3) := by decide +kernel
theorem dX1_isCartsWay_5 : decode cX1_isCartsWay 5 = .ok (.ifCond .ne 41, 3) := by decide +kernel
theorem dX1_isCartsWay_8 : decode cX1_isCartsWay 8 = .ok (.aload_n 0, 1) := by decide +kernel
theorem dX1_isCartsWay_9 : decode cX1_isCartsWay 9 = .ok (.getfield 18, 3) := by decide +kernel
theorem dX1_isCartsWay_12 : decode cX1_isCartsWay 12 = .ok (.iconst 2, 1) := by decide +kernel
theorem dX1_isCartsWay_13 : decode cX1_isCartsWay 13 = .ok (.iload_n 1, 1) := by decide +kernel
theorem dX1_isCartsWay_14 : decode cX1_isCartsWay 14 = .ok (.imul, 1) := by decide +kernel
theorem dX1_isCartsWay_15 : decode cX1_isCartsWay 15 = .ok (.iaload, 1) := by decide +kernel
theorem dX1_isCartsWay_16 : decode cX1_isCartsWay 16 = .ok (.invokestatic 72, 3) := by decide +kernel
theorem dX1_isCartsWay_19 : decode cX1_isCartsWay 19 = .ok (.bipush 20, 2) := by decide +kernel
theorem dX1_isCartsWay_21 : decode cX1_isCartsWay 21 = .ok (.if_icmp .gt 25, 3) := by decide +kernel
theorem dX1_isCartsWay_24 : decode cX1_isCartsWay 24 = .ok (.aload_n 0, 1) := by decide +kernel
theorem dX1_isCartsWay_25 : decode cX1_isCartsWay 25 = .ok (.getfield 18, 3) := by decide +kernel
theorem dX1_isCartsWay_28 : decode cX1_isCartsWay 28 = .ok (.iconst 2, 1) := by decide +kernel
theorem dX1_isCartsWay_29 : decode cX1_isCartsWay 29 = .ok (.iload_n 1, 1) := by decide +kernel
theorem dX1_isCartsWay_30 : decode cX1_isCartsWay 30 = .ok (.imul, 1) := by decide +kernel
theorem dX1_isCartsWay_31 : decode cX1_isCartsWay 31 = .ok (.iconst 1, 1) := by decide +kernel
theorem dX1_isCartsWay_32 : decode cX1_isCartsWay 32 = .ok (.iadd, 1) := by decide +kernel
theorem dX1_isCartsWay_33 : decode cX1_isCartsWay 33 = .ok (.iaload, 1) := by decide +kernel
theorem dX1_isCartsWay_34 : decode cX1_isCartsWay 34 = .ok (.invokestatic 72, 3) := by decide +kernel
theorem dX1_isCartsWay_37 : decode cX1_isCartsWay 37 = .ok (.bipush 20, 2) := by decide +kernel
theorem dX1_isCartsWay_39 : decode cX1_isCartsWay 39 = .ok (.if_icmp .gt 7, 3) := by decide +kernel
theorem dX1_isCartsWay_42 : decode cX1_isCartsWay 42 = .ok (.iconst 1, 1) := by decide +kernel
theorem dX1_isCartsWay_43 : decode cX1_isCartsWay 43 = .ok (.goto 4, 3) := by decide +kernel
theorem dX1_isCartsWay_46 : decode cX1_isCartsWay 46 = .ok (.iconst 0, 1) := by decide +kernel
theorem dX1_isCartsWay_47 : decode cX1_isCartsWay 47 = .ok (.ireturn, 1) := by decide +kernel
theorem dX2_init_0 : decode cX2_init 0 = .ok (.aload_n 0, 1) := by decide +kernel
theorem dX2_init_1 : decode cX2_init 1 = .ok (.invokespecial 3, 3) := by decide +kernel
theorem dX2_init_4 : decode cX2_init 4 = .ok (.aload_n 0, 1) := by decide +kernel
theorem dX2_init_5 : decode cX2_init 5 = .ok (.iconst 4, 1) := by decide +kernel
theorem dX2_init_6 : decode cX2_init 6 = .ok (.newarray .int, 2) := by decide +kernel
theorem dX2_init_8 : decode cX2_init 8 = .ok (.putfield 9, 3) := by decide +kernel
theorem dX2_init_11 : decode cX2_init 11 = .ok (.aload_n 0, 1) := by decide +kernel
theorem dX2_init_12 : decode cX2_init 12 = .ok (.iconst 4, 1) := by decide +kernel
theorem dX2_init_13 : decode cX2_init 13 = .ok (.newarray .int, 2) := by decide +kernel
theorem dX2_init_15 : decode cX2_init 15 = .ok (.putfield 15, 3) := by decide +kernel
theorem dX2_init_18 : decode cX2_init 18 = .ok (.aload_n 0, 1) := by decide +kernel
theorem dX2_init_19 : decode cX2_init 19 = .ok (.iconst 4, 1) := by decide +kernel
theorem dX2_init_20 : decode cX2_init 20 = .ok (.newarray .int, 2) := by decide +kernel
theorem dX2_init_22 : decode cX2_init 22 = .ok (.putfield 18, 3) := by decide +kernel
theorem dX2_init_25 : decode cX2_init 25 = .ok (.aload_n 0, 1) := by decide +kernel
theorem dX2_init_26 : decode cX2_init 26 = .ok (.bipush 12, 2) := by decide +kernel
theorem dX2_init_28 : decode cX2_init 28 = .ok (.newarray .int, 2) := by decide +kernel
theorem dX2_init_30 : decode cX2_init 30 = .ok (.putfield 21, 3) := by decide +kernel
theorem dX2_init_33 : decode cX2_init 33 = .ok (.aload_n 0, 1) := by decide +kernel
theorem dX2_init_34 : decode cX2_init 34 = .ok (.iconst 4, 1) := by decide +kernel
theorem dX2_init_35 : decode cX2_init 35 = .ok (.newarray .int, 2) := by decide +kernel
theorem dX2_init_37 : decode cX2_init 37 = .ok (.putfield 24, 3) := by decide +kernel
theorem dX2_init_40 : decode cX2_init 40 = .ok (.aload_n 0, 1) := by decide +kernel
theorem dX2_init_41 : decode cX2_init 41 = .ok (.bipush 8, 2) := by decide +kernel
theorem dX2_init_43 : decode cX2_init 43 = .ok (.newarray .int, 2) := by decide +kernel
theorem dX2_init_45 : decode cX2_init 45 = .ok (.putfield 27, 3) := by decide +kernel
theorem dX2_init_48 : decode cX2_init 48 = .ok (.aload_n 0, 1) := by decide +kernel
theorem dX2_init_49 : decode cX2_init 49 = .ok (.sipush 364, 3) := by decide +kernel
theorem dX2_init_52 : decode cX2_init 52 = .ok (.newarray .int, 2) := by decide +kernel
theorem dX2_init_54 : decode cX2_init 54 = .ok (.putfield 30, 3) := by decide +kernel
theorem dX2_init_57 : decode cX2_init 57 = .ok (.aload_n 0, 1) := by decide +kernel
theorem dX2_init_58 : decode cX2_init 58 = .ok (.iconst 4, 1) := by decide +kernel
theorem dX2_init_59 : decode cX2_init 59 = .ok (.newarray .int, 2) := by decide +kernel
theorem dX2_init_61 : decode cX2_init 61 = .ok (.putfield 33, 3) := by decide +kernel
theorem dX2_init_64 : decode cX2_init 64 = .ok (.aload_n 0, 1) := by decide +kernel
theorem dX2_init_65 : decode cX2_init 65 = .ok (.iconst 4, 1) := by decide +kernel
theorem dX2_init_66 : decode cX2_init 66 = .ok (.newarray .int, 2) := by decide +kernel
theorem dX2_init_68 : decode cX2_init 68 = .ok (.putfield 36, 3) := by decide +kernel
theorem dX2_init_71 : decode cX2_init 71 = .ok (.aload_n 0, 1) := by decide +kernel
theorem dX2_init_72 : decode cX2_init 72 = .ok (.getfield 15, 3) := by decide +kernel
theorem dX2_init_75 : decode cX2_init 75 = .ok (.iconst 2, 1) := by decide +kernel
theorem dX2_init_76 : decode cX2_init 76 = .ok (.invokestatic 39, 3) := by decide +kernel
theorem dX2_init_79 : decode cX2_init 79 = .ok (.return_, 1) := by decide +kernel
theorem dX2_clear_0 : decode cX2_clear 0 = .ok (.aload_n 0, 1) := by decide +kernel
theorem dX2_clear_1 : decode cX2_clear 1 = .ok (.getfield 9, 3) := by decide +kernel
theorem dX2_clear_4 : decode cX2_clear 4 = .ok (.iconst 0, 1) := by decide +kernel
theorem dX2_clear_5 : decode cX2_clear 5 = .ok (.invokestatic 39, 3) := by decide +kernel
theorem dX2_clear_8 : decode cX2_clear 8 = .ok (.aload_n 0, 1) := by decide +kernel
theorem dX2_clear_9 : decode cX2_clear 9 = .ok (.getfield 15, 3) := by decide +kernel
theorem dX2_clear_12 : decode cX2_clear 12 = .ok (.iconst 2, 1) := by decide +kernel
theorem dX2_clear_13 : decode cX2_clear 13 = .ok (.invokestatic 39, 3) := by decide +kernel
theorem dX2_clear_16 : decode cX2_clear 16 = .ok (.aload_n 0, 1) := by decide +kernel
theorem dX2_clear_17 : decode cX2_clear 17 = .ok (.getfield 18, 3) := by decide +kernel
theorem dX2_clear_20 : decode cX2_clear 20 = .ok (.iconst 0, 1) := by decide +kernel
theorem dX2_clear_21 : decode cX2_clear 21 = .ok (.invokestatic 39, 3) := by decide +kernel
theorem dX2_clear_24 : decode cX2_clear 24 = .ok (.aload_n 0, 1) := by decide +kernel
theorem dX2_clear_25 : decode cX2_clear 25 = .ok (.getfield 21, 3) := by decide +kernel
theorem dX2_clear_28 : decode cX2_clear 28 = .ok (.iconst 0, 1) := by decide +kernel
theorem dX2_clear_29 : decode cX2_clear 29 = .ok (.invokestatic 39, 3) := by decide +kernel
theorem dX2_clear_32 : decode cX2_clear 32 = .ok (.aload_n 0, 1) := by decide +kernel
theorem dX2_clear_33 : decode cX2_clear 33 = .ok (.iconst 0, 1) := by decide +kernel
theorem dX2_clear_34 : decode cX2_clear 34 = .ok (.putfield 45, 3) := by decide +kernel
theorem dX2_clear_37 : decode cX2_clear 37 = .ok (.aload_n 0, 1) := by decide +kernel
theorem dX2_clear_38 : decode cX2_clear 38 = .ok (.iconst 0, 1) := by decide +kernel
theorem dX2_clear_39 : decode cX2_clear 39 = .ok (.putfield 49, 3) := by decide +kernel
theorem dX2_clear_42 : decode cX2_clear 42 = .ok (.return_, 1) := by decide +kernel
theorem dX2_copy_0 : decode cX2_copy 0 = .ok (.aload_n 1, 1) := by decide +kernel
theorem dX2_copy_1 : decode cX2_copy 1 = .ok (.getfield 9, 3) := by decide +kernel
theorem dX2_copy_4 : decode cX2_copy 4 = .ok (.iconst 0, 1) := by decide +kernel
theorem dX2_copy_5 : decode cX2_copy 5 = .ok (.aload_n 0, 1) := by decide +kernel
theorem dX2_copy_6 : decode cX2_copy 6 = .ok (.getfield 9, 3) := by decide +kernel
theorem dX2_copy_9 : decode cX2_copy 9 = .ok (.iconst 0, 1) := by decide +kernel
theorem dX2_copy_10 : decode cX2_copy 10 = .ok (.iconst 4, 1) := by decide +kernel
theorem dX2_copy_11 : decode cX2_copy 11 = .ok (.invokestatic 52, 3) := by decide +kernel
theorem dX2_copy_14 : decode cX2_copy 14 = .ok (.aload_n 1, 1) := by decide +kernel
theorem dX2_copy_15 : decode cX2_copy 15 = .ok (.getfield 15, 3) := by decide +kernel
theorem dX2_copy_18 : decode cX2_copy 18 = .ok (.iconst 0, 1) := by decide +kernel
theorem dX2_copy_19 : decode cX2_copy 19 = .ok (.aload_n 0, 1) := by decide +kernel
theorem dX2_copy_20 : decode cX2_copy 20 = .ok (.getfield 15, 3) := by decide +kernel
theorem dX2_copy_23 : decode cX2_copy 23 = .ok (.iconst 0, 1) := by decide +kernel
theorem dX2_copy_24 : decode cX2_copy 24 = .ok (.iconst 4, 1) := by decide +kernel
theorem dX2_copy_25 : decode cX2_copy 25 = .ok (.invokestatic 52, 3) := by decide +kernel
theorem dX2_copy_28 : decode cX2_copy 28 = .ok (.aload_n 1, 1) := by decide +kernel
theorem dX2_copy_29 : decode cX2_copy 29 = .ok (.getfield 18, 3) := by decide +kernel
theorem dX2_copy_32 : decode cX2_copy 32 = .ok (.iconst 0, 1) := by decide +kernel
theorem dX2_copy_33 : decode cX2_copy 33 = .ok (.aload_n 0, 1) := by decide +kernel
theorem dX2_copy_34 : decode cX2_copy 34 = .ok (.getfield 18, 3) := by decide +kernel
theorem dX2_copy_37 : decode cX2_copy 37 = .ok (.iconst 0, 1) := by decide +kernel
theorem dX2_copy_38 : decode cX2_copy 38 = .ok (.iconst 4, 1) := by decide +kernel
theorem dX2_copy_39 : decode cX2_copy 39 = .ok (.invokestatic 52, 3) := by decide +kernel
theorem dX2_copy_42 : decode cX2_copy 42 = .ok (.aload_n 1, 1) := by decide +kernel
theorem dX2_copy_43 : decode cX2_copy 43 = .ok (.getfield 21, 3) := by decide +kernel
theorem dX2_copy_46 : decode cX2_copy 46 = .ok (.iconst 0, 1) := by decide +kernel
theorem dX2_copy_47 : decode cX2_copy 47 = .ok (.aload_n 0, 1) := by decide +kernel
theorem dX2_copy_48 : decode cX2_copy 48 = .ok (.getfield 21, 3) := by decide +kernel
theorem dX2_copy_51 : decode cX2_copy 51 = .ok (.iconst 0, 1) := by decide +kernel
theorem dX2_copy_52 : decode cX2_copy 52 = .ok (.bipush 12, 2) := by decide +kernel
theorem dX2_copy_54 : decode cX2_copy 54 = .ok (.invokestatic 52, 3) := by decide +kernel
theorem dX2_copy_57 : decode cX2_copy 57 = .ok (.aload_n 0, 1) := by decide +kernel
theorem dX2_copy_58 : decode cX2_copy 58 = .ok (.aload_n 1, 1) := by decide +kernel
theorem dX2_copy_59 : decode cX2_copy 59 = .ok (.getfield 45, 3) := by decide +kernel
theorem dX2_copy_62 : decode cX2_copy 62 = .ok (.putfield 45, 3) := by decide +kernel
theorem dX2_copy_65 : decode cX2_copy 65 = .ok (.aload_n 0, 1) := by decide +kernel
theorem dX2_copy_66 : decode cX2_copy 66 = .ok (.aload_n 1, 1) := by decide +kernel
theorem dX2_copy_67 : decode cX2_copy 67 = .ok (.getfield 49, 3) := by decide +kernel
theorem dX2_copy_70 : decode cX2_copy 70 = .ok (.putfield 49, 3) := by decide +kernel
theorem dX2_copy_73 : decode cX2_copy 73 = .ok (.aload_n 1, 1) := by decide +kernel
theorem dX2_copy_74 : decode cX2_copy 74 = .ok (.getfield 24, 3) := by decide +kernel
theorem dX2_copy_77 : decode cX2_copy 77 = .ok (.iconst 0, 1) := by decide +kernel
theorem dX2_copy_78 : decode cX2_copy 78 = .ok (.aload_n 0, 1) := by decide +kernel
theorem dX2_copy_79 : decode cX2_copy 79 = .ok (.getfield 24, 3) := by decide +kernel
theorem dX2_copy_82 : decode cX2_copy 82 = .ok (.iconst 0, 1) := by decide +kernel
theorem dX2_copy_83 : decode cX2_copy 83 = .ok (.iconst 4, 1) := by decide +kernel
theorem dX2_copy_84 : decode cX2_copy 84 = .ok (.invokestatic 52, 3) := by decide +kernel
theorem dX2_copy_87 : decode cX2_copy 87 = .ok (.aload_n 1, 1) := by decide +kernel
theorem dX2_copy_88 : decode cX2_copy 88 = .ok (.getfield 27, 3) := by decide +kernel
theorem dX2_copy_91 : decode cX2_copy 91 = .ok (.iconst 0, 1) := by decide +kernel
theorem dX2_copy_92 : decode cX2_copy 92 = .ok (.aload_n 0, 1) := by decide +kernel
theorem dX2_copy_93 : decode cX2_copy 93 = .ok (.getfield 27, 3) := by decide +kernel
theorem dX2_copy_96 : decode cX2_copy 96 = .ok (.iconst 0, 1) := by decide +kernel
theorem dX2_copy_97 : decode cX2_copy 97 = .ok (.bipush 8, 2) := by decide +kernel
theorem dX2_copy_99 : decode cX2_copy 99 = .ok (.invokestatic 52, 3) := by decide +kernel
theorem dX2_copy_102 : decode cX2_copy 102 = .ok (.return_, 1) := by decide +kernel
theorem dX2_period_0 : decode cX2_period 0 = .ok (.aload_n 0, 1) := by decide +kernel
theorem dX2_period_1 : decode cX2_period 1 = .ok (.getfield 15, 3) := by decide +kernel
theorem dX2_period_4 : decode cX2_period 4 = .ok (.iload_n 1, 1) := by decide +kernel
theorem dX2_period_5 : decode cX2_period 5 = .ok (.iaload, 1) := by decide +kernel
theorem dX2_period_6 : decode cX2_period 6 = .ok (.aload_n 0, 1) := by decide +kernel
theorem dX2_period_7 : decode cX2_period 7 = .ok (.getfield 21, 3) := by decide +kernel
theorem dX2_period_10 : decode cX2_period 10 = .ok (.iload_n 1, 1) := by decide +kernel
theorem dX2_period_11 : decode cX2_period 11 = .ok (.iaload, 1) := by decide +kernel
theorem dX2_period_12 : decode cX2_period 12 = .ok (.iadd, 1) := by decide +kernel
theorem dX2_period_13 : decode cX2_period 13 = .ok (.ireturn, 1) := by decide +kernel
theorem dX2_where_0 : decode cX2_where 0 = .ok (.aload_n 0, 1) := by decide +kernel
theorem dX2_where_1 : decode cX2_where 1 = .ok (.iload_n 1, 1) := by decide +kernel
theorem dX2_where_2 : decode cX2_where 2 = .ok (.invokevirtual 58, 3) := by decide +kernel
theorem dX2_where_5 : decode cX2_where 5 = .ok (.istore_n 3, 1) := by decide +kernel
theorem dX2_where_6 : decode cX2_where 6 = .ok (.aload_n 0, 1) := by decide +kernel
theorem dX2_where_7 : decode cX2_where 7 = .ok (.getfield 21, 3) := by decide +kernel
theorem dX2_where_10 : decode cX2_where 10 = .ok (.bipush 8, 2) := by decide +kernel
theorem dX2_where_12 : decode cX2_where 12 = .ok (.iload_n 1, 1) := by decide +kernel
theorem dX2_where_13 : decode cX2_where 13 = .ok (.iadd, 1) := by decide +kernel
theorem dX2_where_14 : decode cX2_where 14 = .ok (.iaload, 1) := by decide +kernel
theorem dX2_where_15 : decode cX2_where 15 = .ok (.ifCond .eq 12, 3) := by decide +kernel
theorem dX2_where_18 : decode cX2_where 18 = .ok (.iload_n 3, 1) := by decide +kernel
theorem dX2_where_19 : decode cX2_where 19 = .ok (.iconst 1, 1) := by decide +kernel
theorem dX2_where_20 : decode cX2_where 20 = .ok (.if_icmp .lt 7, 3) := by decide +kernel
theorem dX2_where_23 : decode cX2_where 23 = .ok (.iload_n 2, 1) := by decide +kernel
theorem dX2_where_24 : decode cX2_where 24 = .ok (.ifCond .ge 5, 3) := by decide +kernel
theorem dX2_where_27 : decode cX2_where 27 = .ok (.iconst 0, 1) := by decide +kernel
theorem dX2_where_28 : decode cX2_where 28 = .ok (.ireturn, 1) := by decide +kernel
theorem dX2_where_29 : decode cX2_where 29 = .ok (.iload_n 2, 1) := by decide +kernel
theorem dX2_where_30 : decode cX2_where 30 = .ok (.aload_n 0, 1) := by decide +kernel
theorem dX2_where_31 : decode cX2_where 31 = .ok (.getfield 21, 3) := by decide +kernel
theorem dX2_where_34 : decode cX2_where 34 = .ok (.iconst 4, 1) := by decide +kernel
theorem dX2_where_35 : decode cX2_where 35 = .ok (.iload_n 1, 1) := by decide +kernel
theorem dX2_where_36 : decode cX2_where 36 = .ok (.iadd, 1) := by decide +kernel
theorem dX2_where_37 : decode cX2_where 37 = .ok (.iaload, 1) := by decide +kernel
theorem dX2_where_38 : decode cX2_where 38 = .ok (.iadd, 1) := by decide +kernel
theorem dX2_where_39 : decode cX2_where 39 = .ok (.iload_n 3, 1) := by decide +kernel
theorem dX2_where_40 : decode cX2_where 40 = .ok (.irem, 1) := by decide +kernel
theorem dX2_where_41 : decode cX2_where 41 = .ok (.istore 4, 2) := by decide +kernel
theorem dX2_where_43 : decode cX2_where 43 = .ok (.aload_n 0, 1) := by decide +kernel
theorem dX2_where_44 : decode cX2_where 44 = .ok (.getfield 21, 3) := by decide +kernel
theorem dX2_where_47 : decode cX2_where 47 = .ok (.bipush 8, 2) := by decide +kernel
theorem dX2_where_49 : decode cX2_where 49 = .ok (.iload_n 1, 1) := by decide +kernel
theorem dX2_where_50 : decode cX2_where 50 = .ok (.iadd, 1) := by decide +kernel
theorem dX2_where_51 : decode cX2_where 51 = .ok (.iaload, 1) := by decide +kernel
theorem dX2_where_52 : decode cX2_where 52 = .ok (.istore 5, 2) := by decide +kernel
theorem dX2_where_54 : decode cX2_where 54 = .ok (.aload_n 0, 1) := by decide +kernel
theorem dX2_where_55 : decode cX2_where 55 = .ok (.getfield 18, 3) := by decide +kernel
theorem dX2_where_58 : decode cX2_where 58 = .ok (.iload_n 1, 1) := by decide +kernel
theorem dX2_where_59 : decode cX2_where 59 = .ok (.iaload, 1) := by decide +kernel
theorem dX2_where_60 : decode cX2_where 60 = .ok (.ifCond .eq 39, 3) := by decide +kernel
theorem dX2_where_63 : decode cX2_where 63 = .ok (.aload_n 0, 1) := by decide +kernel
theorem dX2_where_64 : decode cX2_where 64 = .ok (.iload_n 1, 1) := by decide +kernel
theorem dX2_where_65 : decode cX2_where 65 = .ok (.invokevirtual 62, 3) := by decide +kernel
theorem dX2_where_68 : decode cX2_where 68 = .ok (.iload_n 2, 1) := by decide +kernel
theorem dX2_where_69 : decode cX2_where 69 = .ok (.iload_n 3, 1) := by decide +kernel
theorem dX2_where_70 : decode cX2_where 70 = .ok (.idiv, 1) := by decide +kernel
theorem dX2_where_71 : decode cX2_where 71 = .ok (.istore 6, 2) := by decide +kernel
theorem dX2_where_73 : decode cX2_where 73 = .ok (.aload_n 0, 1) := by decide +kernel
theorem dX2_where_74 : decode cX2_where 74 = .ok (.getfield 30, 3) := by decide +kernel
theorem dX2_where_77 : decode cX2_where 77 = .ok (.bipush 91, 2) := by decide +kernel
theorem dX2_where_79 : decode cX2_where 79 = .ok (.iload_n 1, 1) := by decide +kernel
theorem dX2_where_80 : decode cX2_where 80 = .ok (.imul, 1) := by decide +kernel
theorem dX2_where_81 : decode cX2_where 81 = .ok (.iload 6, 2) := by decide +kernel
theorem dX2_where_83 : decode cX2_where 83 = .ok (.bipush 91, 2) := by decide +kernel
theorem dX2_where_85 : decode cX2_where 85 = .ok (.if_icmp .ge 8, 3) := by decide +kernel
theorem dX2_where_88 : decode cX2_where 88 = .ok (.iload 6, 2) := by decide +kernel
theorem dX2_where_90 : decode cX2_where 90 = .ok (.goto 5, 3) := by decide +kernel
theorem dX2_where_93 : decode cX2_where 93 = .ok (.bipush 90, 2) := by decide +kernel
theorem dX2_where_95 : decode cX2_where 95 = .ok (.iadd, 1) := by decide +kernel
theorem dX2_where_96 : decode cX2_where 96 = .ok (.iaload, 1) := by decide +kernel
theorem dX2_where_97 : decode cX2_where 97 = .ok (.istore 5, 2) := by decide +kernel
theorem dX2_where_99 : decode cX2_where 99 = .ok (.aload_n 0, 1) := by decide +kernel
theorem dX2_where_100 : decode cX2_where 100 = .ok (.getfield 9, 3) := by decide +kernel
theorem dX2_where_103 : decode cX2_where 103 = .ok (.iload_n 1, 1) := by decide +kernel
theorem dX2_where_104 : decode cX2_where 104 = .ok (.iaload, 1) := by decide +kernel
theorem dX2_where_105 : decode cX2_where 105 = .ok (.lookupswitch 57 #[(0, 27), (1, 41)], 27) := by decide +kernel
theorem dX2_where_132 : decode cX2_where 132 = .ok (.iconst 4, 1) := by decide +kernel
theorem dX2_where_133 : decode cX2_where 133 = .ok (.iload 4, 2) := by decide +kernel
theorem dX2_where_135 : decode cX2_where 135 = .ok (.imul, 1) := by decide +kernel
theorem dX2_where_136 : decode cX2_where 136 = .ok (.iload_n 3, 1) := by decide +kernel
theorem dX2_where_137 : decode cX2_where 137 = .ok (.invokestatic 66, 3) := by decide +kernel
theorem dX2_where_140 : decode cX2_where 140 = .ok (.iload 5, 2) := by decide +kernel
theorem dX2_where_142 : decode cX2_where 142 = .ok (.imul, 1) := by decide +kernel
theorem dX2_where_143 : decode cX2_where 143 = .ok (.iload_n 3, 1) := by decide +kernel
theorem dX2_where_144 : decode cX2_where 144 = .ok (.idiv, 1) := by decide +kernel
theorem dX2_where_145 : decode cX2_where 145 = .ok (.ireturn, 1) := by decide +kernel
theorem dX2_where_146 : decode cX2_where 146 = .ok (.iconst 2, 1) := by decide +kernel
theorem dX2_where_147 : decode cX2_where 147 = .ok (.iload 4, 2) := by decide +kernel
theorem dX2_where_149 : decode cX2_where 149 = .ok (.imul, 1) := by decide +kernel
theorem dX2_where_150 : decode cX2_where 150 = .ok (.iload_n 3, 1) := by decide +kernel
theorem dX2_where_151 : decode cX2_where 151 = .ok (.invokestatic 70, 3) := by decide +kernel
theorem dX2_where_154 : decode cX2_where 154 = .ok (.iload 5, 2) := by decide +kernel
theorem dX2_where_156 : decode cX2_where 156 = .ok (.imul, 1) := by decide +kernel
theorem dX2_where_157 : decode cX2_where 157 = .ok (.iload_n 3, 1) := by decide +kernel
theorem dX2_where_158 : decode cX2_where 158 = .ok (.iload_n 3, 1) := by decide +kernel
theorem dX2_where_159 : decode cX2_where 159 = .ok (.imul, 1) := by decide +kernel
theorem dX2_where_160 : decode cX2_where 160 = .ok (.idiv, 1) := by decide +kernel
theorem dX2_where_161 : decode cX2_where 161 = .ok (.ireturn, 1) := by decide +kernel
theorem dX2_where_162 : decode cX2_where 162 = .ok (.iconst 2, 1) := by decide +kernel
theorem dX2_where_163 : decode cX2_where 163 = .ok (.iload 4, 2) := by decide +kernel
theorem dX2_where_165 : decode cX2_where 165 = .ok (.imul, 1) := by decide +kernel
theorem dX2_where_166 : decode cX2_where 166 = .ok (.iload_n 3, 1) := by decide +kernel
theorem dX2_where_167 : decode cX2_where 167 = .ok (.if_icmp .ge 8, 3) := by decide +kernel
theorem dX2_where_170 : decode cX2_where 170 = .ok (.iload 5, 2) := by decide +kernel
theorem dX2_where_172 : decode cX2_where 172 = .ok (.goto 6, 3) := by decide +kernel
theorem dX2_where_175 : decode cX2_where 175 = .ok (.iload 5, 2) := by decide +kernel
theorem dX2_where_177 : decode cX2_where 177 = .ok (.ineg, 1) := by decide +kernel
theorem dX2_where_178 : decode cX2_where 178 = .ok (.ireturn, 1) := by decide +kernel
theorem dX2_slope_0 : decode cX2_slope 0 = .ok (.iload_n 0, 1) := by decide +kernel
theorem dX2_slope_1 : decode cX2_slope 1 = .ok (.iload_n 1, 1) := by decide +kernel
theorem dX2_slope_2 : decode cX2_slope 2 = .ok (.if_icmp .gt 5, 3) := by decide +kernel
theorem dX2_slope_5 : decode cX2_slope 5 = .ok (.iload_n 0, 1) := by decide +kernel
theorem dX2_slope_6 : decode cX2_slope 6 = .ok (.ireturn, 1) := by decide +kernel
theorem dX2_slope_7 : decode cX2_slope 7 = .ok (.iload_n 0, 1) := by decide +kernel
theorem dX2_slope_8 : decode cX2_slope 8 = .ok (.iconst 3, 1) := by decide +kernel
theorem dX2_slope_9 : decode cX2_slope 9 = .ok (.iload_n 1, 1) := by decide +kernel
theorem dX2_slope_10 : decode cX2_slope 10 = .ok (.imul, 1) := by decide +kernel
theorem dX2_slope_11 : decode cX2_slope 11 = .ok (.if_icmp .gt 11, 3) := by decide +kernel
theorem dX2_slope_14 : decode cX2_slope 14 = .ok (.iconst 2, 1) := by decide +kernel
theorem dX2_slope_15 : decode cX2_slope 15 = .ok (.iload_n 1, 1) := by decide +kernel
theorem dX2_slope_16 : decode cX2_slope 16 = .ok (.imul, 1) := by decide +kernel
theorem dX2_slope_17 : decode cX2_slope 17 = .ok (.iload_n 0, 1) := by decide +kernel
theorem dX2_slope_18 : decode cX2_slope 18 = .ok (.isub, 1) := by decide +kernel
theorem dX2_slope_19 : decode cX2_slope 19 = .ok (.goto 8, 3) := by decide +kernel
theorem dX2_slope_22 : decode cX2_slope 22 = .ok (.iload_n 0, 1) := by decide +kernel
theorem dX2_slope_23 : decode cX2_slope 23 = .ok (.iconst 4, 1) := by decide +kernel
theorem dX2_slope_24 : decode cX2_slope 24 = .ok (.iload_n 1, 1) := by decide +kernel
theorem dX2_slope_25 : decode cX2_slope 25 = .ok (.imul, 1) := by decide +kernel
theorem dX2_slope_26 : decode cX2_slope 26 = .ok (.isub, 1) := by decide +kernel
theorem dX2_slope_27 : decode cX2_slope 27 = .ok (.ireturn, 1) := by decide +kernel
theorem dX2_arch_0 : decode cX2_arch 0 = .ok (.iload_n 0, 1) := by decide +kernel
theorem dX2_arch_1 : decode cX2_arch 1 = .ok (.iload_n 1, 1) := by decide +kernel
theorem dX2_arch_2 : decode cX2_arch 2 = .ok (.if_icmp .gt 11, 3) := by decide +kernel
theorem dX2_arch_5 : decode cX2_arch 5 = .ok (.iconst 4, 1) := by decide +kernel
theorem dX2_arch_6 : decode cX2_arch 6 = .ok (.iload_n 0, 1) := by decide +kernel
theorem dX2_arch_7 : decode cX2_arch 7 = .ok (.imul, 1) := by decide +kernel
theorem dX2_arch_8 : decode cX2_arch 8 = .ok (.iload_n 1, 1) := by decide +kernel
theorem dX2_arch_9 : decode cX2_arch 9 = .ok (.iload_n 0, 1) := by decide +kernel
theorem dX2_arch_10 : decode cX2_arch 10 = .ok (.isub, 1) := by decide +kernel
theorem dX2_arch_11 : decode cX2_arch 11 = .ok (.imul, 1) := by decide +kernel
theorem dX2_arch_12 : decode cX2_arch 12 = .ok (.ireturn, 1) := by decide +kernel
theorem dX2_arch_13 : decode cX2_arch 13 = .ok (.iload_n 0, 1) := by decide +kernel
theorem dX2_arch_14 : decode cX2_arch 14 = .ok (.iload_n 1, 1) := by decide +kernel
theorem dX2_arch_15 : decode cX2_arch 15 = .ok (.isub, 1) := by decide +kernel
theorem dX2_arch_16 : decode cX2_arch 16 = .ok (.istore_n 2, 1) := by decide +kernel
theorem dX2_arch_17 : decode cX2_arch 17 = .ok (.bipush (-4), 2) := by decide +kernel
theorem dX2_arch_19 : decode cX2_arch 19 = .ok (.iload_n 2, 1) := by decide +kernel
theorem dX2_arch_20 : decode cX2_arch 20 = .ok (.imul, 1) := by decide +kernel
theorem dX2_arch_21 : decode cX2_arch 21 = .ok (.iload_n 1, 1) := by decide +kernel
theorem dX2_arch_22 : decode cX2_arch 22 = .ok (.iload_n 2, 1) := by decide +kernel
theorem dX2_arch_23 : decode cX2_arch 23 = .ok (.isub, 1) := by decide +kernel
theorem dX2_arch_24 : decode cX2_arch 24 = .ok (.imul, 1) := by decide +kernel
theorem dX2_arch_25 : decode cX2_arch 25 = .ok (.ireturn, 1) := by decide +kernel
theorem dX2_fade_0 : decode cX2_fade 0 = .ok (.aload_n 0, 1) := by decide +kernel
theorem dX2_fade_1 : decode cX2_fade 1 = .ok (.getfield 21, 3) := by decide +kernel
theorem dX2_fade_4 : decode cX2_fade 4 = .ok (.bipush 8, 2) := by decide +kernel
theorem dX2_fade_6 : decode cX2_fade 6 = .ok (.iload_n 1, 1) := by decide +kernel
theorem dX2_fade_7 : decode cX2_fade 7 = .ok (.iadd, 1) := by decide +kernel
theorem dX2_fade_8 : decode cX2_fade 8 = .ok (.iaload, 1) := by decide +kernel
theorem dX2_fade_9 : decode cX2_fade 9 = .ok (.istore_n 2, 1) := by decide +kernel
theorem dX2_fade_10 : decode cX2_fade 10 = .ok (.aload_n 0, 1) := by decide +kernel
theorem dX2_fade_11 : decode cX2_fade 11 = .ok (.getfield 33, 3) := by decide +kernel
theorem dX2_fade_14 : decode cX2_fade 14 = .ok (.iload_n 1, 1) := by decide +kernel
theorem dX2_fade_15 : decode cX2_fade 15 = .ok (.iaload, 1) := by decide +kernel
theorem dX2_fade_16 : decode cX2_fade 16 = .ok (.iload_n 2, 1) := by decide +kernel
theorem dX2_fade_17 : decode cX2_fade 17 = .ok (.if_icmp .ne 19, 3) := by decide +kernel
theorem dX2_fade_20 : decode cX2_fade 20 = .ok (.aload_n 0, 1) := by decide +kernel
theorem dX2_fade_21 : decode cX2_fade 21 = .ok (.getfield 36, 3) := by decide +kernel
theorem dX2_fade_24 : decode cX2_fade 24 = .ok (.iload_n 1, 1) := by decide +kernel
theorem dX2_fade_25 : decode cX2_fade 25 = .ok (.iaload, 1) := by decide +kernel
theorem dX2_fade_26 : decode cX2_fade 26 = .ok (.aload_n 0, 1) := by decide +kernel
theorem dX2_fade_27 : decode cX2_fade 27 = .ok (.getfield 18, 3) := by decide +kernel
theorem dX2_fade_30 : decode cX2_fade 30 = .ok (.iload_n 1, 1) := by decide +kernel
theorem dX2_fade_31 : decode cX2_fade 31 = .ok (.iaload, 1) := by decide +kernel
theorem dX2_fade_32 : decode cX2_fade 32 = .ok (.if_icmp .ne 4, 3) := by decide +kernel
theorem dX2_fade_35 : decode cX2_fade 35 = .ok (.return_, 1) := by decide +kernel
theorem dX2_fade_36 : decode cX2_fade 36 = .ok (.aload_n 0, 1) := by decide +kernel
theorem dX2_fade_37 : decode cX2_fade 37 = .ok (.getfield 33, 3) := by decide +kernel
theorem dX2_fade_40 : decode cX2_fade 40 = .ok (.iload_n 1, 1) := by decide +kernel
theorem dX2_fade_41 : decode cX2_fade 41 = .ok (.iload_n 2, 1) := by decide +kernel
theorem dX2_fade_42 : decode cX2_fade 42 = .ok (.iastore, 1) := by decide +kernel
theorem dX2_fade_43 : decode cX2_fade 43 = .ok (.aload_n 0, 1) := by decide +kernel
theorem dX2_fade_44 : decode cX2_fade 44 = .ok (.getfield 36, 3) := by decide +kernel
theorem dX2_fade_47 : decode cX2_fade 47 = .ok (.iload_n 1, 1) := by decide +kernel
theorem dX2_fade_48 : decode cX2_fade 48 = .ok (.aload_n 0, 1) := by decide +kernel
theorem dX2_fade_49 : decode cX2_fade 49 = .ok (.getfield 18, 3) := by decide +kernel
theorem dX2_fade_52 : decode cX2_fade 52 = .ok (.iload_n 1, 1) := by decide +kernel
theorem dX2_fade_53 : decode cX2_fade 53 = .ok (.iaload, 1) := by decide +kernel
theorem dX2_fade_54 : decode cX2_fade 54 = .ok (.iastore, 1) := by decide +kernel
theorem dX2_fade_55 : decode cX2_fade 55 = .ok (.iconst 0, 1) := by decide +kernel
theorem dX2_fade_56 : decode cX2_fade 56 = .ok (.istore_n 3, 1) := by decide +kernel
theorem dX2_fade_57 : decode cX2_fade 57 = .ok (.iload_n 3, 1) := by decide +kernel
theorem dX2_fade_58 : decode cX2_fade 58 = .ok (.bipush 91, 2) := by decide +kernel
theorem dX2_fade_60 : decode cX2_fade 60 = .ok (.if_icmp .ge 36, 3) := by decide +kernel
theorem dX2_fade_63 : decode cX2_fade 63 = .ok (.aload_n 0, 1) := by decide +kernel
theorem dX2_fade_64 : decode cX2_fade 64 = .ok (.getfield 30, 3) := by decide +kernel
theorem dX2_fade_67 : decode cX2_fade 67 = .ok (.bipush 91, 2) := by decide +kernel
theorem dX2_fade_69 : decode cX2_fade 69 = .ok (.iload_n 1, 1) := by decide +kernel
theorem dX2_fade_70 : decode cX2_fade 70 = .ok (.imul, 1) := by decide +kernel
theorem dX2_fade_71 : decode cX2_fade 71 = .ok (.iload_n 3, 1) := by decide +kernel
theorem dX2_fade_72 : decode cX2_fade 72 = .ok (.iadd, 1) := by decide +kernel
theorem dX2_fade_73 : decode cX2_fade 73 = .ok (.iload_n 2, 1) := by decide +kernel
theorem dX2_fade_74 : decode cX2_fade 74 = .ok (.iastore, 1) := by decide +kernel
theorem dX2_fade_75 : decode cX2_fade 75 = .ok (.iload_n 2, 1) := by decide +kernel
theorem dX2_fade_76 : decode cX2_fade 76 = .ok (.bipush 100, 2) := by decide +kernel
theorem dX2_fade_78 : decode cX2_fade 78 = .ok (.aload_n 0, 1) := by decide +kernel
theorem dX2_fade_79 : decode cX2_fade 79 = .ok (.getfield 18, 3) := by decide +kernel
theorem dX2_fade_82 : decode cX2_fade 82 = .ok (.iload_n 1, 1) := by decide +kernel
theorem dX2_fade_83 : decode cX2_fade 83 = .ok (.iaload, 1) := by decide +kernel
theorem dX2_fade_84 : decode cX2_fade 84 = .ok (.isub, 1) := by decide +kernel
theorem dX2_fade_85 : decode cX2_fade 85 = .ok (.imul, 1) := by decide +kernel
theorem dX2_fade_86 : decode cX2_fade 86 = .ok (.bipush 100, 2) := by decide +kernel
theorem dX2_fade_88 : decode cX2_fade 88 = .ok (.idiv, 1) := by decide +kernel
theorem dX2_fade_89 : decode cX2_fade 89 = .ok (.istore_n 2, 1) := by decide +kernel
theorem dX2_fade_90 : decode cX2_fade 90 = .ok (.iinc 3 1, 3) := by decide +kernel
theorem dX2_fade_93 : decode cX2_fade 93 = .ok (.goto (-36), 3) := by decide +kernel
theorem dX2_fade_96 : decode cX2_fade 96 = .ok (.return_, 1) := by decide +kernel
theorem dX2_swungTo_0 : decode cX2_swungTo 0 = .ok (.aload_n 0, 1) := by decide +kernel
theorem dX2_swungTo_1 : decode cX2_swungTo 1 = .ok (.iconst 2, 1) := by decide +kernel
theorem dX2_swungTo_2 : decode cX2_swungTo 2 = .ok (.iload_n 2, 1) := by decide +kernel
theorem dX2_swungTo_3 : decode cX2_swungTo 3 = .ok (.imul, 1) := by decide +kernel
theorem dX2_swungTo_4 : decode cX2_swungTo 4 = .ok (.iload_n 1, 1) := by decide +kernel
theorem dX2_swungTo_5 : decode cX2_swungTo 5 = .ok (.invokevirtual 73, 3) := by decide +kernel
theorem dX2_swungTo_8 : decode cX2_swungTo 8 = .ok (.aload_n 0, 1) := by decide +kernel
theorem dX2_swungTo_9 : decode cX2_swungTo 9 = .ok (.iconst 2, 1) := by decide +kernel
theorem dX2_swungTo_10 : decode cX2_swungTo 10 = .ok (.iload_n 2, 1) := by decide +kernel
theorem dX2_swungTo_11 : decode cX2_swungTo 11 = .ok (.imul, 1) := by decide +kernel
theorem dX2_swungTo_12 : decode cX2_swungTo 12 = .ok (.iconst 1, 1) := by decide +kernel
theorem dX2_swungTo_13 : decode cX2_swungTo 13 = .ok (.iadd, 1) := by decide +kernel
theorem dX2_swungTo_14 : decode cX2_swungTo 14 = .ok (.iload_n 1, 1) := by decide +kernel
theorem dX2_swungTo_15 : decode cX2_swungTo 15 = .ok (.invokevirtual 73, 3) := by decide +kernel
theorem dX2_swungTo_18 : decode cX2_swungTo 18 = .ok (.iadd, 1) := by decide +kernel
theorem dX2_swungTo_19 : decode cX2_swungTo 19 = .ok (.ireturn, 1) := by decide +kernel
theorem dX2_shaken_0 : decode cX2_shaken 0 = .ok (.iconst 0, 1) := by decide +kernel
theorem dX2_shaken_1 : decode cX2_shaken 1 = .ok (.istore_n 3, 1) := by decide +kernel
theorem dX2_shaken_2 : decode cX2_shaken 2 = .ok (.iconst 0, 1) := by decide +kernel
theorem dX2_shaken_3 : decode cX2_shaken 3 = .ok (.istore 4, 2) := by decide +kernel
theorem dX2_shaken_5 : decode cX2_shaken 5 = .ok (.iload 4, 2) := by decide +kernel
theorem dX2_shaken_7 : decode cX2_shaken 7 = .ok (.aload_n 0, 1) := by decide +kernel
theorem dX2_shaken_8 : decode cX2_shaken 8 = .ok (.getfield 49, 3) := by decide +kernel
theorem dX2_shaken_11 : decode cX2_shaken 11 = .ok (.if_icmp .ge 40, 3) := by decide +kernel
theorem dX2_shaken_14 : decode cX2_shaken 14 = .ok (.iload 4, 2) := by decide +kernel
theorem dX2_shaken_16 : decode cX2_shaken 16 = .ok (.iconst 4, 1) := by decide +kernel
theorem dX2_shaken_17 : decode cX2_shaken 17 = .ok (.if_icmp .ge 34, 3) := by decide +kernel
theorem dX2_shaken_20 : decode cX2_shaken 20 = .ok (.aload_n 0, 1) := by decide +kernel
theorem dX2_shaken_21 : decode cX2_shaken 21 = .ok (.getfield 24, 3) := by decide +kernel
theorem dX2_shaken_24 : decode cX2_shaken 24 = .ok (.iload 4, 2) := by decide +kernel
theorem dX2_shaken_26 : decode cX2_shaken 26 = .ok (.iaload, 1) := by decide +kernel
theorem dX2_shaken_27 : decode cX2_shaken 27 = .ok (.iload_n 1, 1) := by decide +kernel
theorem dX2_shaken_28 : decode cX2_shaken 28 = .ok (.if_icmp .gt 17, 3) := by decide +kernel
theorem dX2_shaken_31 : decode cX2_shaken 31 = .ok (.iload_n 3, 1) := by decide +kernel
theorem dX2_shaken_32 : decode cX2_shaken 32 = .ok (.aload_n 0, 1) := by decide +kernel
theorem dX2_shaken_33 : decode cX2_shaken 33 = .ok (.getfield 27, 3) := by decide +kernel
theorem dX2_shaken_36 : decode cX2_shaken 36 = .ok (.iconst 2, 1) := by decide +kernel
theorem dX2_shaken_37 : decode cX2_shaken 37 = .ok (.iload 4, 2) := by decide +kernel
theorem dX2_shaken_39 : decode cX2_shaken 39 = .ok (.imul, 1) := by decide +kernel
theorem dX2_shaken_40 : decode cX2_shaken 40 = .ok (.iload_n 2, 1) := by decide +kernel
theorem dX2_shaken_41 : decode cX2_shaken 41 = .ok (.iadd, 1) := by decide +kernel
theorem dX2_shaken_42 : decode cX2_shaken 42 = .ok (.iaload, 1) := by decide +kernel
theorem dX2_shaken_43 : decode cX2_shaken 43 = .ok (.iadd, 1) := by decide +kernel
theorem dX2_shaken_44 : decode cX2_shaken 44 = .ok (.istore_n 3, 1) := by decide +kernel
theorem dX2_shaken_45 : decode cX2_shaken 45 = .ok (.iinc 4 1, 3) := by decide +kernel
theorem dX2_shaken_48 : decode cX2_shaken 48 = .ok (.goto (-43), 3) := by decide +kernel
theorem dX2_shaken_51 : decode cX2_shaken 51 = .ok (.iload_n 3, 1) := by decide +kernel
theorem dX2_shaken_52 : decode cX2_shaken 52 = .ok (.ireturn, 1) := by decide +kernel
theorem dX2_penAt_0 : decode cX2_penAt 0 = .ok (.aload_n 0, 1) := by decide +kernel
theorem dX2_penAt_1 : decode cX2_penAt 1 = .ok (.iconst 2, 1) := by decide +kernel
theorem dX2_penAt_2 : decode cX2_penAt 2 = .ok (.iload_n 2, 1) := by decide +kernel
theorem dX2_penAt_3 : decode cX2_penAt 3 = .ok (.imul, 1) := by decide +kernel
theorem dX2_penAt_4 : decode cX2_penAt 4 = .ok (.iload_n 1, 1) := by decide +kernel
theorem dX2_penAt_5 : decode cX2_penAt 5 = .ok (.invokevirtual 73, 3) := by decide +kernel
theorem dX2_penAt_8 : decode cX2_penAt 8 = .ok (.aload_n 0, 1) := by decide +kernel
theorem dX2_penAt_9 : decode cX2_penAt 9 = .ok (.iconst 2, 1) := by decide +kernel
theorem dX2_penAt_10 : decode cX2_penAt 10 = .ok (.iload_n 2, 1) := by decide +kernel
theorem dX2_penAt_11 : decode cX2_penAt 11 = .ok (.imul, 1) := by decide +kernel
theorem dX2_penAt_12 : decode cX2_penAt 12 = .ok (.iconst 1, 1) := by decide +kernel
theorem dX2_penAt_13 : decode cX2_penAt 13 = .ok (.iadd, 1) := by decide +kernel
theorem dX2_penAt_14 : decode cX2_penAt 14 = .ok (.iload_n 1, 1) := by decide +kernel
theorem dX2_penAt_15 : decode cX2_penAt 15 = .ok (.invokevirtual 73, 3) := by decide +kernel
theorem dX2_penAt_18 : decode cX2_penAt 18 = .ok (.iadd, 1) := by decide +kernel
theorem dX2_penAt_19 : decode cX2_penAt 19 = .ok (.aload_n 0, 1) := by decide +kernel
theorem dX2_penAt_20 : decode cX2_penAt 20 = .ok (.iload_n 1, 1) := by decide +kernel
theorem dX2_penAt_21 : decode cX2_penAt 21 = .ok (.iload_n 2, 1) := by decide +kernel
theorem dX2_penAt_22 : decode cX2_penAt 22 = .ok (.invokevirtual 76, 3) := by decide +kernel
theorem dX2_penAt_25 : decode cX2_penAt 25 = .ok (.iadd, 1) := by decide +kernel
theorem dX2_penAt_26 : decode cX2_penAt 26 = .ok (.ireturn, 1) := by decide +kernel
theorem dX2_cellAt_0 : decode cX2_cellAt 0 = .ok (.aload_n 0, 1) := by decide +kernel
theorem dX2_cellAt_1 : decode cX2_cellAt 1 = .ok (.iload_n 1, 1) := by decide +kernel
theorem dX2_cellAt_2 : decode cX2_cellAt 2 = .ok (.iconst 0, 1) := by decide +kernel
theorem dX2_cellAt_3 : decode cX2_cellAt 3 = .ok (.invokevirtual 79, 3) := by decide +kernel
theorem dX2_cellAt_6 : decode cX2_cellAt 6 = .ok (.aload_n 0, 1) := by decide +kernel
theorem dX2_cellAt_7 : decode cX2_cellAt 7 = .ok (.iload_n 1, 1) := by decide +kernel
theorem dX2_cellAt_8 : decode cX2_cellAt 8 = .ok (.iconst 1, 1) := by decide +kernel
theorem dX2_cellAt_9 : decode cX2_cellAt 9 = .ok (.invokevirtual 79, 3) := by decide +kernel
theorem dX2_cellAt_12 : decode cX2_cellAt 12 = .ok (.invokestatic 82, 3) := by decide +kernel
theorem dX2_cellAt_15 : decode cX2_cellAt 15 = .ok (.ireturn, 1) := by decide +kernel
theorem dX2_ticksRound_0 : decode cX2_ticksRound 0 = .ok (.iconst 1, 1) := by decide +kernel
theorem dX2_ticksRound_1 : decode cX2_ticksRound 1 = .ok (.istore_n 1, 1) := by decide +kernel
theorem dX2_ticksRound_2 : decode cX2_ticksRound 2 = .ok (.iconst 0, 1) := by decide +kernel
theorem dX2_ticksRound_3 : decode cX2_ticksRound 3 = .ok (.istore_n 2, 1) := by decide +kernel
theorem dX2_ticksRound_4 : decode cX2_ticksRound 4 = .ok (.iload_n 2, 1) := by decide +kernel
theorem dX2_ticksRound_5 : decode cX2_ticksRound 5 = .ok (.iconst 4, 1) := by decide +kernel
theorem dX2_ticksRound_6 : decode cX2_ticksRound 6 = .ok (.if_icmp .ge 45, 3) := by decide +kernel
theorem dX2_ticksRound_9 : decode cX2_ticksRound 9 = .ok (.iload_n 1, 1) := by decide +kernel
theorem dX2_ticksRound_10 : decode cX2_ticksRound 10 = .ok (.aload_n 0, 1) := by decide +kernel
theorem dX2_ticksRound_11 : decode cX2_ticksRound 11 = .ok (.iload_n 2, 1) := by decide +kernel
theorem dX2_ticksRound_12 : decode cX2_ticksRound 12 = .ok (.invokevirtual 58, 3) := by decide +kernel
theorem dX2_ticksRound_15 : decode cX2_ticksRound 15 = .ok (.invokestatic 85, 3) := by decide +kernel
theorem dX2_ticksRound_18 : decode cX2_ticksRound 18 = .ok (.istore_n 3, 1) := by decide +kernel
theorem dX2_ticksRound_19 : decode cX2_ticksRound 19 = .ok (.aload_n 0, 1) := by decide +kernel
theorem dX2_ticksRound_20 : decode cX2_ticksRound 20 = .ok (.getfield 21, 3) := by decide +kernel
theorem dX2_ticksRound_23 : decode cX2_ticksRound 23 = .ok (.bipush 8, 2) := by decide +kernel
theorem dX2_ticksRound_25 : decode cX2_ticksRound 25 = .ok (.iload_n 2, 1) := by decide +kernel
theorem dX2_ticksRound_26 : decode cX2_ticksRound 26 = .ok (.iadd, 1) := by decide +kernel
theorem dX2_ticksRound_27 : decode cX2_ticksRound 27 = .ok (.iaload, 1) := by decide +kernel
theorem dX2_ticksRound_28 : decode cX2_ticksRound 28 = .ok (.ifCond .le 17, 3) := by decide +kernel
theorem dX2_ticksRound_31 : decode cX2_ticksRound 31 = .ok (.iload_n 3, 1) := by decide +kernel
theorem dX2_ticksRound_32 : decode cX2_ticksRound 32 = .ok (.ifCond .le 13, 3) := by decide +kernel
theorem dX2_ticksRound_35 : decode cX2_ticksRound 35 = .ok (.iload_n 1, 1) := by decide +kernel
theorem dX2_ticksRound_36 : decode cX2_ticksRound 36 = .ok (.iload_n 3, 1) := by decide +kernel
theorem dX2_ticksRound_37 : decode cX2_ticksRound 37 = .ok (.idiv, 1) := by decide +kernel
theorem dX2_ticksRound_38 : decode cX2_ticksRound 38 = .ok (.aload_n 0, 1) := by decide +kernel
theorem dX2_ticksRound_39 : decode cX2_ticksRound 39 = .ok (.iload_n 2, 1) := by decide +kernel
theorem dX2_ticksRound_40 : decode cX2_ticksRound 40 = .ok (.invokevirtual 58, 3) := by decide +kernel
theorem dX2_ticksRound_43 : decode cX2_ticksRound 43 = .ok (.imul, 1) := by decide +kernel
theorem dX2_ticksRound_44 : decode cX2_ticksRound 44 = .ok (.istore_n 1, 1) := by decide +kernel
theorem dX2_ticksRound_45 : decode cX2_ticksRound 45 = .ok (.iinc 2 1, 3) := by decide +kernel
theorem dX2_ticksRound_48 : decode cX2_ticksRound 48 = .ok (.goto (-44), 3) := by decide +kernel
theorem dX2_ticksRound_51 : decode cX2_ticksRound 51 = .ok (.iload_n 1, 1) := by decide +kernel
theorem dX2_ticksRound_52 : decode cX2_ticksRound 52 = .ok (.ireturn, 1) := by decide +kernel
theorem dX3_init_0 : decode cX3_init 0 = .ok (.aload_n 0, 1) := by decide +kernel
theorem dX3_init_1 : decode cX3_init 1 = .ok (.invokespecial 3, 3) := by decide +kernel
theorem dX3_init_4 : decode cX3_init 4 = .ok (.aload_n 0, 1) := by decide +kernel
theorem dX3_init_5 : decode cX3_init 5 = .ok (.bipush 12, 2) := by decide +kernel
theorem dX3_init_7 : decode cX3_init 7 = .ok (.newarray .int, 2) := by decide +kernel
theorem dX3_init_9 : decode cX3_init 9 = .ok (.putfield 9, 3) := by decide +kernel
theorem dX3_init_12 : decode cX3_init 12 = .ok (.aload_n 0, 1) := by decide +kernel
theorem dX3_init_13 : decode cX3_init 13 = .ok (.bipush 96, 2) := by decide +kernel
theorem dX3_init_15 : decode cX3_init 15 = .ok (.newarray .int, 2) := by decide +kernel
theorem dX3_init_17 : decode cX3_init 17 = .ok (.putfield 15, 3) := by decide +kernel
theorem dX3_init_20 : decode cX3_init 20 = .ok (.aload_n 0, 1) := by decide +kernel
theorem dX3_init_21 : decode cX3_init 21 = .ok (.bipush 18, 2) := by decide +kernel
theorem dX3_init_23 : decode cX3_init 23 = .ok (.newarray .int, 2) := by decide +kernel
theorem dX3_init_25 : decode cX3_init 25 = .ok (.putfield 18, 3) := by decide +kernel
theorem dX3_init_28 : decode cX3_init 28 = .ok (.aload_n 0, 1) := by decide +kernel
theorem dX3_init_29 : decode cX3_init 29 = .ok (.bipush 10, 2) := by decide +kernel
theorem dX3_init_31 : decode cX3_init 31 = .ok (.newarray .int, 2) := by decide +kernel
theorem dX3_init_33 : decode cX3_init 33 = .ok (.putfield 21, 3) := by decide +kernel
theorem dX3_init_36 : decode cX3_init 36 = .ok (.return_, 1) := by decide +kernel
theorem dX3_clear_0 : decode cX3_clear 0 = .ok (.aload_n 0, 1) := by decide +kernel
theorem dX3_clear_1 : decode cX3_clear 1 = .ok (.iconst 0, 1) := by decide +kernel
theorem dX3_clear_2 : decode cX3_clear 2 = .ok (.putfield 24, 3) := by decide +kernel
theorem dX3_clear_5 : decode cX3_clear 5 = .ok (.aload_n 0, 1) := by decide +kernel
theorem dX3_clear_6 : decode cX3_clear 6 = .ok (.iconst 0, 1) := by decide +kernel
theorem dX3_clear_7 : decode cX3_clear 7 = .ok (.putfield 28, 3) := by decide +kernel
theorem dX3_clear_10 : decode cX3_clear 10 = .ok (.aload_n 0, 1) := by decide +kernel
theorem dX3_clear_11 : decode cX3_clear 11 = .ok (.iconst 0, 1) := by decide +kernel
theorem dX3_clear_12 : decode cX3_clear 12 = .ok (.putfield 31, 3) := by decide +kernel
theorem dX3_clear_15 : decode cX3_clear 15 = .ok (.return_, 1) := by decide +kernel
theorem dX3_copy_0 : decode cX3_copy 0 = .ok (.aload_n 1, 1) := by decide +kernel
theorem dX3_copy_1 : decode cX3_copy 1 = .ok (.getfield 9, 3) := by decide +kernel
theorem dX3_copy_4 : decode cX3_copy 4 = .ok (.iconst 0, 1) := by decide +kernel
theorem dX3_copy_5 : decode cX3_copy 5 = .ok (.aload_n 0, 1) := by decide +kernel
theorem dX3_copy_6 : decode cX3_copy 6 = .ok (.getfield 9, 3) := by decide +kernel
theorem dX3_copy_9 : decode cX3_copy 9 = .ok (.iconst 0, 1) := by decide +kernel
theorem dX3_copy_10 : decode cX3_copy 10 = .ok (.aload_n 0, 1) := by decide +kernel
theorem dX3_copy_11 : decode cX3_copy 11 = .ok (.getfield 9, 3) := by decide +kernel
theorem dX3_copy_14 : decode cX3_copy 14 = .ok (.arraylength, 1) := by decide +kernel
theorem dX3_copy_15 : decode cX3_copy 15 = .ok (.invokestatic 34, 3) := by decide +kernel
theorem dX3_copy_18 : decode cX3_copy 18 = .ok (.aload_n 0, 1) := by decide +kernel
theorem dX3_copy_19 : decode cX3_copy 19 = .ok (.aload_n 1, 1) := by decide +kernel
theorem dX3_copy_20 : decode cX3_copy 20 = .ok (.getfield 24, 3) := by decide +kernel
theorem dX3_copy_23 : decode cX3_copy 23 = .ok (.putfield 24, 3) := by decide +kernel
theorem dX3_copy_26 : decode cX3_copy 26 = .ok (.aload_n 1, 1) := by decide +kernel
theorem dX3_copy_27 : decode cX3_copy 27 = .ok (.getfield 15, 3) := by decide +kernel
theorem dX3_copy_30 : decode cX3_copy 30 = .ok (.iconst 0, 1) := by decide +kernel
theorem dX3_copy_31 : decode cX3_copy 31 = .ok (.aload_n 0, 1) := by decide +kernel
theorem dX3_copy_32 : decode cX3_copy 32 = .ok (.getfield 15, 3) := by decide +kernel
theorem dX3_copy_35 : decode cX3_copy 35 = .ok (.iconst 0, 1) := by decide +kernel
theorem dX3_copy_36 : decode cX3_copy 36 = .ok (.aload_n 0, 1) := by decide +kernel
theorem dX3_copy_37 : decode cX3_copy 37 = .ok (.getfield 15, 3) := by decide +kernel
theorem dX3_copy_40 : decode cX3_copy 40 = .ok (.arraylength, 1) := by decide +kernel
theorem dX3_copy_41 : decode cX3_copy 41 = .ok (.invokestatic 34, 3) := by decide +kernel
theorem dX3_copy_44 : decode cX3_copy 44 = .ok (.aload_n 0, 1) := by decide +kernel
theorem dX3_copy_45 : decode cX3_copy 45 = .ok (.aload_n 1, 1) := by decide +kernel
theorem dX3_copy_46 : decode cX3_copy 46 = .ok (.getfield 28, 3) := by decide +kernel
theorem dX3_copy_49 : decode cX3_copy 49 = .ok (.putfield 28, 3) := by decide +kernel
theorem dX3_copy_52 : decode cX3_copy 52 = .ok (.aload_n 1, 1) := by decide +kernel
theorem dX3_copy_53 : decode cX3_copy 53 = .ok (.getfield 18, 3) := by decide +kernel
theorem dX3_copy_56 : decode cX3_copy 56 = .ok (.iconst 0, 1) := by decide +kernel
theorem dX3_copy_57 : decode cX3_copy 57 = .ok (.aload_n 0, 1) := by decide +kernel
theorem dX3_copy_58 : decode cX3_copy 58 = .ok (.getfield 18, 3) := by decide +kernel
theorem dX3_copy_61 : decode cX3_copy 61 = .ok (.iconst 0, 1) := by decide +kernel
theorem dX3_copy_62 : decode cX3_copy 62 = .ok (.aload_n 0, 1) := by decide +kernel
theorem dX3_copy_63 : decode cX3_copy 63 = .ok (.getfield 18, 3) := by decide +kernel
theorem dX3_copy_66 : decode cX3_copy 66 = .ok (.arraylength, 1) := by decide +kernel
theorem dX3_copy_67 : decode cX3_copy 67 = .ok (.invokestatic 34, 3) := by decide +kernel
theorem dX3_copy_70 : decode cX3_copy 70 = .ok (.aload_n 0, 1) := by decide +kernel
theorem dX3_copy_71 : decode cX3_copy 71 = .ok (.aload_n 1, 1) := by decide +kernel
theorem dX3_copy_72 : decode cX3_copy 72 = .ok (.getfield 31, 3) := by decide +kernel
theorem dX3_copy_75 : decode cX3_copy 75 = .ok (.putfield 31, 3) := by decide +kernel
theorem dX3_copy_78 : decode cX3_copy 78 = .ok (.aload_n 1, 1) := by decide +kernel
theorem dX3_copy_79 : decode cX3_copy 79 = .ok (.getfield 21, 3) := by decide +kernel
theorem dX3_copy_82 : decode cX3_copy 82 = .ok (.iconst 0, 1) := by decide +kernel
theorem dX3_copy_83 : decode cX3_copy 83 = .ok (.aload_n 0, 1) := by decide +kernel
theorem dX3_copy_84 : decode cX3_copy 84 = .ok (.getfield 21, 3) := by decide +kernel
theorem dX3_copy_87 : decode cX3_copy 87 = .ok (.iconst 0, 1) := by decide +kernel
theorem dX3_copy_88 : decode cX3_copy 88 = .ok (.aload_n 0, 1) := by decide +kernel
theorem dX3_copy_89 : decode cX3_copy 89 = .ok (.getfield 21, 3) := by decide +kernel
theorem dX3_copy_92 : decode cX3_copy 92 = .ok (.arraylength, 1) := by decide +kernel
theorem dX3_copy_93 : decode cX3_copy 93 = .ok (.invokestatic 34, 3) := by decide +kernel
theorem dX3_copy_96 : decode cX3_copy 96 = .ok (.return_, 1) := by decide +kernel
theorem dX4_init_0 : decode cX4_init 0 = .ok (.aload_n 0, 1) := by decide +kernel
theorem dX4_init_1 : decode cX4_init 1 = .ok (.invokespecial 3, 3) := by decide +kernel
theorem dX4_init_4 : decode cX4_init 4 = .ok (.aload_n 0, 1) := by decide +kernel
theorem dX4_init_5 : decode cX4_init 5 = .ok (.iconst 4, 1) := by decide +kernel
theorem dX4_init_6 : decode cX4_init 6 = .ok (.newarray .int, 2) := by decide +kernel
theorem dX4_init_8 : decode cX4_init 8 = .ok (.putfield 9, 3) := by decide +kernel
theorem dX4_init_11 : decode cX4_init 11 = .ok (.aload_n 0, 1) := by decide +kernel
theorem dX4_init_12 : decode cX4_init 12 = .ok (.iconst 4, 1) := by decide +kernel
theorem dX4_init_13 : decode cX4_init 13 = .ok (.newarray .int, 2) := by decide +kernel
theorem dX4_init_15 : decode cX4_init 15 = .ok (.putfield 15, 3) := by decide +kernel
theorem dX4_init_18 : decode cX4_init 18 = .ok (.return_, 1) := by decide +kernel
theorem dX4_joins_0 : decode cX4_joins 0 = .ok (.iconst 0, 1) := by decide +kernel
theorem dX4_joins_1 : decode cX4_joins 1 = .ok (.istore_n 3, 1) := by decide +kernel
theorem dX4_joins_2 : decode cX4_joins 2 = .ok (.iload_n 3, 1) := by decide +kernel
theorem dX4_joins_3 : decode cX4_joins 3 = .ok (.bipush 8, 2) := by decide +kernel
theorem dX4_joins_5 : decode cX4_joins 5 = .ok (.if_icmp .ge 34, 3) := by decide +kernel
theorem dX4_joins_8 : decode cX4_joins 8 = .ok (.aload_n 0, 1) := by decide +kernel
theorem dX4_joins_9 : decode cX4_joins 9 = .ok (.iload_n 3, 1) := by decide +kernel
theorem dX4_joins_10 : decode cX4_joins 10 = .ok (.invokevirtual 18, 3) := by decide +kernel
theorem dX4_joins_13 : decode cX4_joins 13 = .ok (.aload_n 0, 1) := by decide +kernel
theorem dX4_joins_14 : decode cX4_joins 14 = .ok (.aload_n 1, 1) := by decide +kernel
theorem dX4_joins_15 : decode cX4_joins 15 = .ok (.aload_n 2, 1) := by decide +kernel
theorem dX4_joins_16 : decode cX4_joins 16 = .ok (.invokevirtual 22, 3) := by decide +kernel
theorem dX4_joins_19 : decode cX4_joins 19 = .ok (.ifCond .eq 14, 3) := by decide +kernel
theorem dX4_joins_22 : decode cX4_joins 22 = .ok (.aload_n 0, 1) := by decide +kernel
theorem dX4_joins_23 : decode cX4_joins 23 = .ok (.aload_n 1, 1) := by decide +kernel
theorem dX4_joins_24 : decode cX4_joins 24 = .ok (.aload_n 2, 1) := by decide +kernel
theorem dX4_joins_25 : decode cX4_joins 25 = .ok (.invokevirtual 26, 3) := by decide +kernel
theorem dX4_joins_28 : decode cX4_joins 28 = .ok (.ifCond .eq 5, 3) := by decide +kernel
theorem dX4_joins_31 : decode cX4_joins 31 = .ok (.iconst 1, 1) := by decide +kernel
theorem dX4_joins_32 : decode cX4_joins 32 = .ok (.ireturn, 1) := by decide +kernel
theorem dX4_joins_33 : decode cX4_joins 33 = .ok (.iinc 3 1, 3) := by decide +kernel
theorem dX4_joins_36 : decode cX4_joins 36 = .ok (.goto (-34), 3) := by decide +kernel
theorem dX4_joins_39 : decode cX4_joins 39 = .ok (.iconst 0, 1) := by decide +kernel
theorem dX4_joins_40 : decode cX4_joins 40 = .ok (.ireturn, 1) := by decide +kernel
theorem dX4_pair_0 : decode cX4_pair 0 = .ok (.iconst 0, 1) := by decide +kernel
theorem dX4_pair_1 : decode cX4_pair 1 = .ok (.istore_n 2, 1) := by decide +kernel
theorem dX4_pair_2 : decode cX4_pair 2 = .ok (.iload_n 2, 1) := by decide +kernel
theorem dX4_pair_3 : decode cX4_pair 3 = .ok (.iconst 4, 1) := by decide +kernel
theorem dX4_pair_4 : decode cX4_pair 4 = .ok (.if_icmp .ge 40, 3) := by decide +kernel
theorem dX4_pair_7 : decode cX4_pair 7 = .ok (.iload_n 2, 1) := by decide +kernel
theorem dX4_pair_8 : decode cX4_pair 8 = .ok (.iconst 2, 1) := by decide +kernel
theorem dX4_pair_9 : decode cX4_pair 9 = .ok (.idiv, 1) := by decide +kernel
theorem dX4_pair_10 : decode cX4_pair 10 = .ok (.iload_n 1, 1) := by decide +kernel
theorem dX4_pair_11 : decode cX4_pair 11 = .ok (.iconst 2, 1) := by decide +kernel
theorem dX4_pair_12 : decode cX4_pair 12 = .ok (.ishr, 1) := by decide +kernel
theorem dX4_pair_13 : decode cX4_pair 13 = .ok (.ixor, 1) := by decide +kernel
theorem dX4_pair_14 : decode cX4_pair 14 = .ok (.istore_n 3, 1) := by decide +kernel
theorem dX4_pair_15 : decode cX4_pair 15 = .ok (.iload_n 1, 1) := by decide +kernel
theorem dX4_pair_16 : decode cX4_pair 16 = .ok (.iload_n 3, 1) := by decide +kernel
theorem dX4_pair_17 : decode cX4_pair 17 = .ok (.ishr, 1) := by decide +kernel
theorem dX4_pair_18 : decode cX4_pair 18 = .ok (.iconst 1, 1) := by decide +kernel
theorem dX4_pair_19 : decode cX4_pair 19 = .ok (.iand, 1) := by decide +kernel
theorem dX4_pair_20 : decode cX4_pair 20 = .ok (.istore 4, 2) := by decide +kernel
theorem dX4_pair_22 : decode cX4_pair 22 = .ok (.aload_n 0, 1) := by decide +kernel
theorem dX4_pair_23 : decode cX4_pair 23 = .ok (.getfield 9, 3) := by decide +kernel
theorem dX4_pair_26 : decode cX4_pair 26 = .ok (.iload_n 2, 1) := by decide +kernel
theorem dX4_pair_27 : decode cX4_pair 27 = .ok (.iconst 2, 1) := by decide +kernel
theorem dX4_pair_28 : decode cX4_pair 28 = .ok (.iload_n 3, 1) := by decide +kernel
theorem dX4_pair_29 : decode cX4_pair 29 = .ok (.imul, 1) := by decide +kernel
theorem dX4_pair_30 : decode cX4_pair 30 = .ok (.iload_n 2, 1) := by decide +kernel
theorem dX4_pair_31 : decode cX4_pair 31 = .ok (.iconst 2, 1) := by decide +kernel
theorem dX4_pair_32 : decode cX4_pair 32 = .ok (.irem, 1) := by decide +kernel
theorem dX4_pair_33 : decode cX4_pair 33 = .ok (.iload 4, 2) := by decide +kernel
theorem dX4_pair_35 : decode cX4_pair 35 = .ok (.ixor, 1) := by decide +kernel
theorem dX4_pair_36 : decode cX4_pair 36 = .ok (.iadd, 1) := by decide +kernel
theorem dX4_pair_37 : decode cX4_pair 37 = .ok (.iastore, 1) := by decide +kernel
theorem dX4_pair_38 : decode cX4_pair 38 = .ok (.iinc 2 1, 3) := by decide +kernel
theorem dX4_pair_41 : decode cX4_pair 41 = .ok (.goto (-39), 3) := by decide +kernel
theorem dX4_pair_44 : decode cX4_pair 44 = .ok (.return_, 1) := by decide +kernel
theorem dX4_agree_0 : decode cX4_agree 0 = .ok (.iconst (-1), 1) := by decide +kernel
theorem dX4_agree_1 : decode cX4_agree 1 = .ok (.istore_n 3, 1) := by decide +kernel
theorem dX4_agree_2 : decode cX4_agree 2 = .ok (.iconst 0, 1) := by decide +kernel
theorem dX4_agree_3 : decode cX4_agree 3 = .ok (.istore 4, 2) := by decide +kernel
theorem dX4_agree_5 : decode cX4_agree 5 = .ok (.iload 4, 2) := by decide +kernel
theorem dX4_agree_7 : decode cX4_agree 7 = .ok (.iconst 4, 1) := by decide +kernel
theorem dX4_agree_8 : decode cX4_agree 8 = .ok (.if_icmp .ge 161, 3) := by decide +kernel
theorem dX4_agree_11 : decode cX4_agree 11 = .ok (.aload_n 0, 1) := by decide +kernel
theorem dX4_agree_12 : decode cX4_agree 12 = .ok (.getfield 9, 3) := by decide +kernel
theorem dX4_agree_15 : decode cX4_agree 15 = .ok (.iload 4, 2) := by decide +kernel
theorem dX4_agree_17 : decode cX4_agree 17 = .ok (.iaload, 1) := by decide +kernel
theorem dX4_agree_18 : decode cX4_agree 18 = .ok (.istore 5, 2) := by decide +kernel
theorem dX4_agree_20 : decode cX4_agree 20 = .ok (.aload_n 1, 1) := by decide +kernel
theorem dX4_agree_21 : decode cX4_agree 21 = .ok (.getfield 29, 3) := by decide +kernel
theorem dX4_agree_24 : decode cX4_agree 24 = .ok (.bipush 8, 2) := by decide +kernel
theorem dX4_agree_26 : decode cX4_agree 26 = .ok (.iload 4, 2) := by decide +kernel
theorem dX4_agree_28 : decode cX4_agree 28 = .ok (.iadd, 1) := by decide +kernel
theorem dX4_agree_29 : decode cX4_agree 29 = .ok (.iaload, 1) := by decide +kernel
theorem dX4_agree_30 : decode cX4_agree 30 = .ok (.istore 6, 2) := by decide +kernel
theorem dX4_agree_32 : decode cX4_agree 32 = .ok (.aload_n 2, 1) := by decide +kernel
theorem dX4_agree_33 : decode cX4_agree 33 = .ok (.getfield 29, 3) := by decide +kernel
theorem dX4_agree_36 : decode cX4_agree 36 = .ok (.bipush 8, 2) := by decide +kernel
theorem dX4_agree_38 : decode cX4_agree 38 = .ok (.iload 5, 2) := by decide +kernel
theorem dX4_agree_40 : decode cX4_agree 40 = .ok (.iadd, 1) := by decide +kernel
theorem dX4_agree_41 : decode cX4_agree 41 = .ok (.iaload, 1) := by decide +kernel
theorem dX4_agree_42 : decode cX4_agree 42 = .ok (.istore 7, 2) := by decide +kernel
theorem dX4_agree_44 : decode cX4_agree 44 = .ok (.iload 6, 2) := by decide +kernel
theorem dX4_agree_46 : decode cX4_agree 46 = .ok (.ifCond .ne 11, 3) := by decide +kernel
theorem dX4_agree_49 : decode cX4_agree 49 = .ok (.iload 7, 2) := by decide +kernel
theorem dX4_agree_51 : decode cX4_agree 51 = .ok (.ifCond .ne 6, 3) := by decide +kernel
theorem dX4_agree_54 : decode cX4_agree 54 = .ok (.goto 109, 3) := by decide +kernel
theorem dX4_agree_57 : decode cX4_agree 57 = .ok (.iload 6, 2) := by decide +kernel
theorem dX4_agree_59 : decode cX4_agree 59 = .ok (.ifCond .le 12, 3) := by decide +kernel
theorem dX4_agree_62 : decode cX4_agree 62 = .ok (.iload 7, 2) := by decide +kernel
theorem dX4_agree_64 : decode cX4_agree 64 = .ok (.ifCond .le 7, 3) := by decide +kernel
theorem dX4_agree_67 : decode cX4_agree 67 = .ok (.iconst 1, 1) := by decide +kernel
theorem dX4_agree_68 : decode cX4_agree 68 = .ok (.goto 4, 3) := by decide +kernel
theorem dX4_agree_71 : decode cX4_agree 71 = .ok (.iconst 0, 1) := by decide +kernel
theorem dX4_agree_72 : decode cX4_agree 72 = .ok (.istore 8, 2) := by decide +kernel
theorem dX4_agree_74 : decode cX4_agree 74 = .ok (.iload 8, 2) := by decide +kernel
theorem dX4_agree_76 : decode cX4_agree 76 = .ok (.ifCond .eq 35, 3) := by decide +kernel
theorem dX4_agree_79 : decode cX4_agree 79 = .ok (.aload_n 1, 1) := by decide +kernel
theorem dX4_agree_80 : decode cX4_agree 80 = .ok (.getfield 34, 3) := by decide +kernel
theorem dX4_agree_83 : decode cX4_agree 83 = .ok (.iload 4, 2) := by decide +kernel
theorem dX4_agree_85 : decode cX4_agree 85 = .ok (.iaload, 1) := by decide +kernel
theorem dX4_agree_86 : decode cX4_agree 86 = .ok (.aload_n 2, 1) := by decide +kernel
theorem dX4_agree_87 : decode cX4_agree 87 = .ok (.getfield 34, 3) := by decide +kernel
theorem dX4_agree_90 : decode cX4_agree 90 = .ok (.iload 5, 2) := by decide +kernel
theorem dX4_agree_92 : decode cX4_agree 92 = .ok (.iaload, 1) := by decide +kernel
theorem dX4_agree_93 : decode cX4_agree 93 = .ok (.if_icmp .ne 18, 3) := by decide +kernel
theorem dX4_agree_96 : decode cX4_agree 96 = .ok (.aload_n 1, 1) := by decide +kernel
theorem dX4_agree_97 : decode cX4_agree 97 = .ok (.iload 4, 2) := by decide +kernel
theorem dX4_agree_99 : decode cX4_agree 99 = .ok (.invokevirtual 37, 3) := by decide +kernel
theorem dX4_agree_102 : decode cX4_agree 102 = .ok (.aload_n 2, 1) := by decide +kernel
theorem dX4_agree_103 : decode cX4_agree 103 = .ok (.iload 5, 2) := by decide +kernel
theorem dX4_agree_105 : decode cX4_agree 105 = .ok (.invokevirtual 37, 3) := by decide +kernel
theorem dX4_agree_108 : decode cX4_agree 108 = .ok (.if_icmp .eq 5, 3) := by decide +kernel
theorem dX4_agree_111 : decode cX4_agree 111 = .ok (.iconst 0, 1) := by decide +kernel
theorem dX4_agree_112 : decode cX4_agree 112 = .ok (.ireturn, 1) := by decide +kernel
theorem dX4_agree_113 : decode cX4_agree 113 = .ok (.iload_n 3, 1) := by decide +kernel
theorem dX4_agree_114 : decode cX4_agree 114 = .ok (.iconst (-1), 1) := by decide +kernel
theorem dX4_agree_115 : decode cX4_agree 115 = .ok (.if_icmp .ne 6, 3) := by decide +kernel
theorem dX4_agree_118 : decode cX4_agree 118 = .ok (.iload 4, 2) := by decide +kernel
theorem dX4_agree_120 : decode cX4_agree 120 = .ok (.istore_n 3, 1) := by decide +kernel
theorem dX4_agree_121 : decode cX4_agree 121 = .ok (.aload_n 1, 1) := by decide +kernel
theorem dX4_agree_122 : decode cX4_agree 122 = .ok (.getfield 29, 3) := by decide +kernel
theorem dX4_agree_125 : decode cX4_agree 125 = .ok (.bipush 8, 2) := by decide +kernel
theorem dX4_agree_127 : decode cX4_agree 127 = .ok (.iload_n 3, 1) := by decide +kernel
theorem dX4_agree_128 : decode cX4_agree 128 = .ok (.iadd, 1) := by decide +kernel
theorem dX4_agree_129 : decode cX4_agree 129 = .ok (.iaload, 1) := by decide +kernel
theorem dX4_agree_130 : decode cX4_agree 130 = .ok (.istore 9, 2) := by decide +kernel
theorem dX4_agree_132 : decode cX4_agree 132 = .ok (.aload_n 2, 1) := by decide +kernel
theorem dX4_agree_133 : decode cX4_agree 133 = .ok (.getfield 29, 3) := by decide +kernel
theorem dX4_agree_136 : decode cX4_agree 136 = .ok (.bipush 8, 2) := by decide +kernel
theorem dX4_agree_138 : decode cX4_agree 138 = .ok (.aload_n 0, 1) := by decide +kernel
theorem dX4_agree_139 : decode cX4_agree 139 = .ok (.getfield 9, 3) := by decide +kernel
theorem dX4_agree_142 : decode cX4_agree 142 = .ok (.iload_n 3, 1) := by decide +kernel
theorem dX4_agree_143 : decode cX4_agree 143 = .ok (.iaload, 1) := by decide +kernel
theorem dX4_agree_144 : decode cX4_agree 144 = .ok (.iadd, 1) := by decide +kernel
theorem dX4_agree_145 : decode cX4_agree 145 = .ok (.iaload, 1) := by decide +kernel
theorem dX4_agree_146 : decode cX4_agree 146 = .ok (.istore 10, 2) := by decide +kernel
theorem dX4_agree_148 : decode cX4_agree 148 = .ok (.iload 6, 2) := by decide +kernel
theorem dX4_agree_150 : decode cX4_agree 150 = .ok (.iload 10, 2) := by decide +kernel
theorem dX4_agree_152 : decode cX4_agree 152 = .ok (.imul, 1) := by decide +kernel
theorem dX4_agree_153 : decode cX4_agree 153 = .ok (.iload 7, 2) := by decide +kernel
theorem dX4_agree_155 : decode cX4_agree 155 = .ok (.iload 9, 2) := by decide +kernel
theorem dX4_agree_157 : decode cX4_agree 157 = .ok (.imul, 1) := by decide +kernel
theorem dX4_agree_158 : decode cX4_agree 158 = .ok (.if_icmp .eq 5, 3) := by decide +kernel
theorem dX4_agree_161 : decode cX4_agree 161 = .ok (.iconst 0, 1) := by decide +kernel
theorem dX4_agree_162 : decode cX4_agree 162 = .ok (.ireturn, 1) := by decide +kernel
theorem dX4_agree_163 : decode cX4_agree 163 = .ok (.iinc 4 1, 3) := by decide +kernel
theorem dX4_agree_166 : decode cX4_agree 166 = .ok (.goto (-161), 3) := by decide +kernel
theorem dX4_agree_169 : decode cX4_agree 169 = .ok (.iconst 1, 1) := by decide +kernel
theorem dX4_agree_170 : decode cX4_agree 170 = .ok (.ireturn, 1) := by decide +kernel
theorem dX4_meet_0 : decode cX4_meet 0 = .ok (.iconst 0, 1) := by decide +kernel
theorem dX4_meet_1 : decode cX4_meet 1 = .ok (.istore_n 3, 1) := by decide +kernel
theorem dX4_meet_2 : decode cX4_meet 2 = .ok (.iload_n 3, 1) := by decide +kernel
theorem dX4_meet_3 : decode cX4_meet 3 = .ok (.iconst 4, 1) := by decide +kernel
theorem dX4_meet_4 : decode cX4_meet 4 = .ok (.if_icmp .ge 29, 3) := by decide +kernel
theorem dX4_meet_7 : decode cX4_meet 7 = .ok (.aload_n 0, 1) := by decide +kernel
theorem dX4_meet_8 : decode cX4_meet 8 = .ok (.aload_n 1, 1) := by decide +kernel
theorem dX4_meet_9 : decode cX4_meet 9 = .ok (.aload_n 2, 1) := by decide +kernel
theorem dX4_meet_10 : decode cX4_meet 10 = .ok (.iload_n 3, 1) := by decide +kernel
theorem dX4_meet_11 : decode cX4_meet 11 = .ok (.invokevirtual 41, 3) := by decide +kernel
theorem dX4_meet_14 : decode cX4_meet 14 = .ok (.ifCond .eq 13, 3) := by decide +kernel
theorem dX4_meet_17 : decode cX4_meet 17 = .ok (.aload_n 0, 1) := by decide +kernel
theorem dX4_meet_18 : decode cX4_meet 18 = .ok (.aload_n 1, 1) := by decide +kernel
theorem dX4_meet_19 : decode cX4_meet 19 = .ok (.invokevirtual 45, 3) := by decide +kernel
theorem dX4_meet_22 : decode cX4_meet 22 = .ok (.ifCond .eq 5, 3) := by decide +kernel
theorem dX4_meet_25 : decode cX4_meet 25 = .ok (.iconst 1, 1) := by decide +kernel
theorem dX4_meet_26 : decode cX4_meet 26 = .ok (.ireturn, 1) := by decide +kernel
theorem dX4_meet_27 : decode cX4_meet 27 = .ok (.iinc 3 1, 3) := by decide +kernel
theorem dX4_meet_30 : decode cX4_meet 30 = .ok (.goto (-28), 3) := by decide +kernel
theorem dX4_meet_33 : decode cX4_meet 33 = .ok (.iconst 0, 1) := by decide +kernel
theorem dX4_meet_34 : decode cX4_meet 34 = .ok (.ireturn, 1) := by decide +kernel
theorem dX4_findTimes_0 : decode cX4_findTimes 0 = .ok (.iconst 0, 1) := by decide +kernel
theorem dX4_findTimes_1 : decode cX4_findTimes 1 = .ok (.istore 4, 2) := by decide +kernel
theorem dX4_findTimes_3 : decode cX4_findTimes 3 = .ok (.iload 4, 2) := by decide +kernel
theorem dX4_findTimes_5 : decode cX4_findTimes 5 = .ok (.iconst 4, 1) := by decide +kernel
theorem dX4_findTimes_6 : decode cX4_findTimes 6 = .ok (.if_icmp .ge 130, 3) := by decide +kernel
theorem dX4_findTimes_9 : decode cX4_findTimes 9 = .ok (.aload_n 1, 1) := by decide +kernel
theorem dX4_findTimes_10 : decode cX4_findTimes 10 = .ok (.iload 4, 2) := by decide +kernel
theorem dX4_findTimes_12 : decode cX4_findTimes 12 = .ok (.invokevirtual 37, 3) := by decide +kernel
theorem dX4_findTimes_15 : decode cX4_findTimes 15 = .ok (.istore 5, 2) := by decide +kernel
theorem dX4_findTimes_17 : decode cX4_findTimes 17 = .ok (.aload_n 1, 1) := by decide +kernel
theorem dX4_findTimes_18 : decode cX4_findTimes 18 = .ok (.getfield 29, 3) := by decide +kernel
theorem dX4_findTimes_21 : decode cX4_findTimes 21 = .ok (.bipush 8, 2) := by decide +kernel
theorem dX4_findTimes_23 : decode cX4_findTimes 23 = .ok (.iload 4, 2) := by decide +kernel
theorem dX4_findTimes_25 : decode cX4_findTimes 25 = .ok (.iadd, 1) := by decide +kernel
theorem dX4_findTimes_26 : decode cX4_findTimes 26 = .ok (.iaload, 1) := by decide +kernel
theorem dX4_findTimes_27 : decode cX4_findTimes 27 = .ok (.ifCond .eq 103, 3) := by decide +kernel
theorem dX4_findTimes_30 : decode cX4_findTimes 30 = .ok (.iload 5, 2) := by decide +kernel
theorem dX4_findTimes_32 : decode cX4_findTimes 32 = .ok (.iconst 1, 1) := by decide +kernel
theorem dX4_findTimes_33 : decode cX4_findTimes 33 = .ok (.if_icmp .ge 6, 3) := by decide +kernel
theorem dX4_findTimes_36 : decode cX4_findTimes 36 = .ok (.goto 94, 3) := by decide +kernel
