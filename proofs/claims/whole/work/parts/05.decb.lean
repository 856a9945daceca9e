theorem dX4_findTimes_39 : decode cX4_findTimes 39 = .ok (.aload_n 0, 1) := by decide +kernel
theorem dX4_findTimes_40 : decode cX4_findTimes 40 = .ok (.getfield 9, 3) := by decide +kernel
theorem dX4_findTimes_43 : decode cX4_findTimes 43 = .ok (.iload 4, 2) := by decide +kernel
theorem dX4_findTimes_45 : decode cX4_findTimes 45 = .ok (.iaload, 1) := by decide +kernel
theorem dX4_findTimes_46 : decode cX4_findTimes 46 = .ok (.istore 6, 2) := by decide +kernel
theorem dX4_findTimes_48 : decode cX4_findTimes 48 = .ok (.iload_n 3, 1) := by decide +kernel
theorem dX4_findTimes_49 : decode cX4_findTimes 49 = .ok (.iload 6, 2) := by decide +kernel
theorem dX4_findTimes_51 : decode cX4_findTimes 51 = .ok (.iconst 2, 1) := by decide +kernel
theorem dX4_findTimes_52 : decode cX4_findTimes 52 = .ok (.idiv, 1) := by decide +kernel
theorem dX4_findTimes_53 : decode cX4_findTimes 53 = .ok (.ishr, 1) := by decide +kernel
theorem dX4_findTimes_54 : decode cX4_findTimes 54 = .ok (.iconst 1, 1) := by decide +kernel
theorem dX4_findTimes_55 : decode cX4_findTimes 55 = .ok (.iand, 1) := by decide +kernel
theorem dX4_findTimes_56 : decode cX4_findTimes 56 = .ok (.iconst 1, 1) := by decide +kernel
theorem dX4_findTimes_57 : decode cX4_findTimes 57 = .ok (.if_icmp .ne 7, 3) := by decide +kernel
theorem dX4_findTimes_60 : decode cX4_findTimes 60 = .ok (.iconst 1, 1) := by decide +kernel
theorem dX4_findTimes_61 : decode cX4_findTimes 61 = .ok (.goto 4, 3) := by decide +kernel
theorem dX4_findTimes_64 : decode cX4_findTimes 64 = .ok (.iconst 0, 1) := by decide +kernel
theorem dX4_findTimes_65 : decode cX4_findTimes 65 = .ok (.istore 7, 2) := by decide +kernel
theorem dX4_findTimes_67 : decode cX4_findTimes 67 = .ok (.iload 7, 2) := by decide +kernel
theorem dX4_findTimes_69 : decode cX4_findTimes 69 = .ok (.ifCond .eq 12, 3) := by decide +kernel
theorem dX4_findTimes_72 : decode cX4_findTimes 72 = .ok (.iload 5, 2) := by decide +kernel
theorem dX4_findTimes_74 : decode cX4_findTimes 74 = .ok (.iconst 2, 1) := by decide +kernel
theorem dX4_findTimes_75 : decode cX4_findTimes 75 = .ok (.irem, 1) := by decide +kernel
theorem dX4_findTimes_76 : decode cX4_findTimes 76 = .ok (.ifCond .eq 5, 3) := by decide +kernel
theorem dX4_findTimes_79 : decode cX4_findTimes 79 = .ok (.iconst 0, 1) := by decide +kernel
theorem dX4_findTimes_80 : decode cX4_findTimes 80 = .ok (.ireturn, 1) := by decide +kernel
theorem dX4_findTimes_81 : decode cX4_findTimes 81 = .ok (.aload_n 2, 1) := by decide +kernel
theorem dX4_findTimes_82 : decode cX4_findTimes 82 = .ok (.getfield 29, 3) := by decide +kernel
theorem dX4_findTimes_85 : decode cX4_findTimes 85 = .ok (.iconst 4, 1) := by decide +kernel
theorem dX4_findTimes_86 : decode cX4_findTimes 86 = .ok (.iload 6, 2) := by decide +kernel
theorem dX4_findTimes_88 : decode cX4_findTimes 88 = .ok (.iadd, 1) := by decide +kernel
theorem dX4_findTimes_89 : decode cX4_findTimes 89 = .ok (.iaload, 1) := by decide +kernel
theorem dX4_findTimes_90 : decode cX4_findTimes 90 = .ok (.aload_n 1, 1) := by decide +kernel
theorem dX4_findTimes_91 : decode cX4_findTimes 91 = .ok (.getfield 29, 3) := by decide +kernel
theorem dX4_findTimes_94 : decode cX4_findTimes 94 = .ok (.iconst 4, 1) := by decide +kernel
theorem dX4_findTimes_95 : decode cX4_findTimes 95 = .ok (.iload 4, 2) := by decide +kernel
theorem dX4_findTimes_97 : decode cX4_findTimes 97 = .ok (.iadd, 1) := by decide +kernel
theorem dX4_findTimes_98 : decode cX4_findTimes 98 = .ok (.iaload, 1) := by decide +kernel
theorem dX4_findTimes_99 : decode cX4_findTimes 99 = .ok (.isub, 1) := by decide +kernel
theorem dX4_findTimes_100 : decode cX4_findTimes 100 = .ok (.iload 7, 2) := by decide +kernel
theorem dX4_findTimes_102 : decode cX4_findTimes 102 = .ok (.ifCond .eq 10, 3) := by decide +kernel
theorem dX4_findTimes_105 : decode cX4_findTimes 105 = .ok (.iload 5, 2) := by decide +kernel
theorem dX4_findTimes_107 : decode cX4_findTimes 107 = .ok (.iconst 2, 1) := by decide +kernel
theorem dX4_findTimes_108 : decode cX4_findTimes 108 = .ok (.idiv, 1) := by decide +kernel
theorem dX4_findTimes_109 : decode cX4_findTimes 109 = .ok (.goto 4, 3) := by decide +kernel
theorem dX4_findTimes_112 : decode cX4_findTimes 112 = .ok (.iconst 0, 1) := by decide +kernel
theorem dX4_findTimes_113 : decode cX4_findTimes 113 = .ok (.isub, 1) := by decide +kernel
theorem dX4_findTimes_114 : decode cX4_findTimes 114 = .ok (.istore 8, 2) := by decide +kernel
theorem dX4_findTimes_116 : decode cX4_findTimes 116 = .ok (.aload_n 0, 1) := by decide +kernel
theorem dX4_findTimes_117 : decode cX4_findTimes 117 = .ok (.getfield 15, 3) := by decide +kernel
theorem dX4_findTimes_120 : decode cX4_findTimes 120 = .ok (.iload 4, 2) := by decide +kernel
theorem dX4_findTimes_122 : decode cX4_findTimes 122 = .ok (.iload 8, 2) := by decide +kernel
theorem dX4_findTimes_124 : decode cX4_findTimes 124 = .ok (.iload 5, 2) := by decide +kernel
theorem dX4_findTimes_126 : decode cX4_findTimes 126 = .ok (.invokestatic 49, 3) := by decide +kernel
theorem dX4_findTimes_129 : decode cX4_findTimes 129 = .ok (.iastore, 1) := by decide +kernel
theorem dX4_findTimes_130 : decode cX4_findTimes 130 = .ok (.iinc 4 1, 3) := by decide +kernel
theorem dX4_findTimes_133 : decode cX4_findTimes 133 = .ok (.goto (-130), 3) := by decide +kernel
theorem dX4_findTimes_136 : decode cX4_findTimes 136 = .ok (.iconst 1, 1) := by decide +kernel
theorem dX4_findTimes_137 : decode cX4_findTimes 137 = .ok (.ireturn, 1) := by decide +kernel
theorem dX4_oneTimeForAll_0 : decode cX4_oneTimeForAll 0 = .ok (.iconst 1, 1) := by decide +kernel
theorem dX4_oneTimeForAll_1 : decode cX4_oneTimeForAll 1 = .ok (.istore_n 2, 1) := by decide +kernel
theorem dX4_oneTimeForAll_2 : decode cX4_oneTimeForAll 2 = .ok (.iload_n 2, 1) := by decide +kernel
theorem dX4_oneTimeForAll_3 : decode cX4_oneTimeForAll 3 = .ok (.iconst 4, 1) := by decide +kernel
theorem dX4_oneTimeForAll_4 : decode cX4_oneTimeForAll 4 = .ok (.if_icmp .ge 99, 3) := by decide +kernel
theorem dX4_oneTimeForAll_7 : decode cX4_oneTimeForAll 7 = .ok (.iconst 0, 1) := by decide +kernel
theorem dX4_oneTimeForAll_8 : decode cX4_oneTimeForAll 8 = .ok (.istore_n 3, 1) := by decide +kernel
theorem dX4_oneTimeForAll_9 : decode cX4_oneTimeForAll 9 = .ok (.iload_n 3, 1) := by decide +kernel
theorem dX4_oneTimeForAll_10 : decode cX4_oneTimeForAll 10 = .ok (.iload_n 2, 1) := by decide +kernel
theorem dX4_oneTimeForAll_11 : decode cX4_oneTimeForAll 11 = .ok (.if_icmp .ge 86, 3) := by decide +kernel
theorem dX4_oneTimeForAll_14 : decode cX4_oneTimeForAll 14 = .ok (.aload_n 1, 1) := by decide +kernel
theorem dX4_oneTimeForAll_15 : decode cX4_oneTimeForAll 15 = .ok (.getfield 29, 3) := by decide +kernel
theorem dX4_oneTimeForAll_18 : decode cX4_oneTimeForAll 18 = .ok (.bipush 8, 2) := by decide +kernel
theorem dX4_oneTimeForAll_20 : decode cX4_oneTimeForAll 20 = .ok (.iload_n 2, 1) := by decide +kernel
theorem dX4_oneTimeForAll_21 : decode cX4_oneTimeForAll 21 = .ok (.iadd, 1) := by decide +kernel
theorem dX4_oneTimeForAll_22 : decode cX4_oneTimeForAll 22 = .ok (.iaload, 1) := by decide +kernel
theorem dX4_oneTimeForAll_23 : decode cX4_oneTimeForAll 23 = .ok (.ifCond .le 19, 3) := by decide +kernel
theorem dX4_oneTimeForAll_26 : decode cX4_oneTimeForAll 26 = .ok (.aload_n 1, 1) := by decide +kernel
theorem dX4_oneTimeForAll_27 : decode cX4_oneTimeForAll 27 = .ok (.getfield 29, 3) := by decide +kernel
theorem dX4_oneTimeForAll_30 : decode cX4_oneTimeForAll 30 = .ok (.bipush 8, 2) := by decide +kernel
theorem dX4_oneTimeForAll_32 : decode cX4_oneTimeForAll 32 = .ok (.iload_n 3, 1) := by decide +kernel
theorem dX4_oneTimeForAll_33 : decode cX4_oneTimeForAll 33 = .ok (.iadd, 1) := by decide +kernel
theorem dX4_oneTimeForAll_34 : decode cX4_oneTimeForAll 34 = .ok (.iaload, 1) := by decide +kernel
theorem dX4_oneTimeForAll_35 : decode cX4_oneTimeForAll 35 = .ok (.ifCond .le 7, 3) := by decide +kernel
theorem dX4_oneTimeForAll_38 : decode cX4_oneTimeForAll 38 = .ok (.iconst 1, 1) := by decide +kernel
theorem dX4_oneTimeForAll_39 : decode cX4_oneTimeForAll 39 = .ok (.goto 4, 3) := by decide +kernel
theorem dX4_oneTimeForAll_42 : decode cX4_oneTimeForAll 42 = .ok (.iconst 0, 1) := by decide +kernel
theorem dX4_oneTimeForAll_43 : decode cX4_oneTimeForAll 43 = .ok (.istore 4, 2) := by decide +kernel
theorem dX4_oneTimeForAll_45 : decode cX4_oneTimeForAll 45 = .ok (.aload_n 1, 1) := by decide +kernel
theorem dX4_oneTimeForAll_46 : decode cX4_oneTimeForAll 46 = .ok (.iload_n 2, 1) := by decide +kernel
theorem dX4_oneTimeForAll_47 : decode cX4_oneTimeForAll 47 = .ok (.invokevirtual 37, 3) := by decide +kernel
theorem dX4_oneTimeForAll_50 : decode cX4_oneTimeForAll 50 = .ok (.aload_n 1, 1) := by decide +kernel
theorem dX4_oneTimeForAll_51 : decode cX4_oneTimeForAll 51 = .ok (.iload_n 3, 1) := by decide +kernel
theorem dX4_oneTimeForAll_52 : decode cX4_oneTimeForAll 52 = .ok (.invokevirtual 37, 3) := by decide +kernel
theorem dX4_oneTimeForAll_55 : decode cX4_oneTimeForAll 55 = .ok (.invokestatic 55, 3) := by decide +kernel
theorem dX4_oneTimeForAll_58 : decode cX4_oneTimeForAll 58 = .ok (.istore 5, 2) := by decide +kernel
theorem dX4_oneTimeForAll_60 : decode cX4_oneTimeForAll 60 = .ok (.iload 4, 2) := by decide +kernel
theorem dX4_oneTimeForAll_62 : decode cX4_oneTimeForAll 62 = .ok (.ifCond .eq 29, 3) := by decide +kernel
theorem dX4_oneTimeForAll_65 : decode cX4_oneTimeForAll 65 = .ok (.iload 5, 2) := by decide +kernel
theorem dX4_oneTimeForAll_67 : decode cX4_oneTimeForAll 67 = .ok (.ifCond .le 24, 3) := by decide +kernel
theorem dX4_oneTimeForAll_70 : decode cX4_oneTimeForAll 70 = .ok (.aload_n 0, 1) := by decide +kernel
theorem dX4_oneTimeForAll_71 : decode cX4_oneTimeForAll 71 = .ok (.getfield 15, 3) := by decide +kernel
theorem dX4_oneTimeForAll_74 : decode cX4_oneTimeForAll 74 = .ok (.iload_n 2, 1) := by decide +kernel
theorem dX4_oneTimeForAll_75 : decode cX4_oneTimeForAll 75 = .ok (.iaload, 1) := by decide +kernel
theorem dX4_oneTimeForAll_76 : decode cX4_oneTimeForAll 76 = .ok (.aload_n 0, 1) := by decide +kernel
theorem dX4_oneTimeForAll_77 : decode cX4_oneTimeForAll 77 = .ok (.getfield 15, 3) := by decide +kernel
theorem dX4_oneTimeForAll_80 : decode cX4_oneTimeForAll 80 = .ok (.iload_n 3, 1) := by decide +kernel
theorem dX4_oneTimeForAll_81 : decode cX4_oneTimeForAll 81 = .ok (.iaload, 1) := by decide +kernel
theorem dX4_oneTimeForAll_82 : decode cX4_oneTimeForAll 82 = .ok (.isub, 1) := by decide +kernel
theorem dX4_oneTimeForAll_83 : decode cX4_oneTimeForAll 83 = .ok (.iload 5, 2) := by decide +kernel
theorem dX4_oneTimeForAll_85 : decode cX4_oneTimeForAll 85 = .ok (.irem, 1) := by decide +kernel
theorem dX4_oneTimeForAll_86 : decode cX4_oneTimeForAll 86 = .ok (.ifCond .eq 5, 3) := by decide +kernel
theorem dX4_oneTimeForAll_89 : decode cX4_oneTimeForAll 89 = .ok (.iconst 0, 1) := by decide +kernel
theorem dX4_oneTimeForAll_90 : decode cX4_oneTimeForAll 90 = .ok (.ireturn, 1) := by decide +kernel
theorem dX4_oneTimeForAll_91 : decode cX4_oneTimeForAll 91 = .ok (.iinc 3 1, 3) := by decide +kernel
theorem dX4_oneTimeForAll_94 : decode cX4_oneTimeForAll 94 = .ok (.goto (-85), 3) := by decide +kernel
theorem dX4_oneTimeForAll_97 : decode cX4_oneTimeForAll 97 = .ok (.iinc 2 1, 3) := by decide +kernel
theorem dX4_oneTimeForAll_100 : decode cX4_oneTimeForAll 100 = .ok (.goto (-98), 3) := by decide +kernel
theorem dX4_oneTimeForAll_103 : decode cX4_oneTimeForAll 103 = .ok (.iconst 1, 1) := by decide +kernel
theorem dX4_oneTimeForAll_104 : decode cX4_oneTimeForAll 104 = .ok (.ireturn, 1) := by decide +kernel
theorem dX5_init_0 : decode cX5_init 0 = .ok (.aload_n 0, 1) := by decide +kernel
theorem dX5_init_1 : decode cX5_init 1 = .ok (.invokespecial 3, 3) := by decide +kernel
theorem dX5_init_4 : decode cX5_init 4 = .ok (.aload_n 0, 1) := by decide +kernel
theorem dX5_init_5 : decode cX5_init 5 = .ok (.iconst (-1), 1) := by decide +kernel
theorem dX5_init_6 : decode cX5_init 6 = .ok (.putfield 9, 3) := by decide +kernel
theorem dX5_init_9 : decode cX5_init 9 = .ok (.return_, 1) := by decide +kernel
theorem dX5_findBest_0 : decode cX5_findBest 0 = .ok (.aload_n 0, 1) := by decide +kernel
theorem dX5_findBest_1 : decode cX5_findBest 1 = .ok (.getfield 9, 3) := by decide +kernel
theorem dX5_findBest_4 : decode cX5_findBest 4 = .ok (.iload_n 2, 1) := by decide +kernel
theorem dX5_findBest_5 : decode cX5_findBest 5 = .ok (.if_icmp .ne 4, 3) := by decide +kernel
theorem dX5_findBest_8 : decode cX5_findBest 8 = .ok (.return_, 1) := by decide +kernel
theorem dX5_findBest_9 : decode cX5_findBest 9 = .ok (.aload_n 0, 1) := by decide +kernel
theorem dX5_findBest_10 : decode cX5_findBest 10 = .ok (.iload_n 2, 1) := by decide +kernel
theorem dX5_findBest_11 : decode cX5_findBest 11 = .ok (.putfield 9, 3) := by decide +kernel
theorem dX5_findBest_14 : decode cX5_findBest 14 = .ok (.aload_n 0, 1) := by decide +kernel
theorem dX5_findBest_15 : decode cX5_findBest 15 = .ok (.iconst (-1), 1) := by decide +kernel
theorem dX5_findBest_16 : decode cX5_findBest 16 = .ok (.putfield 15, 3) := by decide +kernel
theorem dX5_findBest_19 : decode cX5_findBest 19 = .ok (.aload_n 0, 1) := by decide +kernel
theorem dX5_findBest_20 : decode cX5_findBest 20 = .ok (.iconst (-1), 1) := by decide +kernel
theorem dX5_findBest_21 : decode cX5_findBest 21 = .ok (.putfield 18, 3) := by decide +kernel
theorem dX5_findBest_24 : decode cX5_findBest 24 = .ok (.iconst 1, 1) := by decide +kernel
theorem dX5_findBest_25 : decode cX5_findBest 25 = .ok (.istore_n 3, 1) := by decide +kernel
theorem dX5_findBest_26 : decode cX5_findBest 26 = .ok (.iload_n 3, 1) := by decide +kernel
theorem dX5_findBest_27 : decode cX5_findBest 27 = .ok (.sipush 999, 3) := by decide +kernel
theorem dX5_findBest_30 : decode cX5_findBest 30 = .ok (.if_icmp .gt 45, 3) := by decide +kernel
theorem dX5_findBest_33 : decode cX5_findBest 33 = .ok (.aload_n 0, 1) := by decide +kernel
theorem dX5_findBest_34 : decode cX5_findBest 34 = .ok (.getfield 18, 3) := by decide +kernel
theorem dX5_findBest_37 : decode cX5_findBest 37 = .ok (.iconst 4, 1) := by decide +kernel
theorem dX5_findBest_38 : decode cX5_findBest 38 = .ok (.if_icmp .ge 37, 3) := by decide +kernel
theorem dX5_findBest_41 : decode cX5_findBest 41 = .ok (.aload_n 0, 1) := by decide +kernel
theorem dX5_findBest_42 : decode cX5_findBest 42 = .ok (.aload_n 1, 1) := by decide +kernel
theorem dX5_findBest_43 : decode cX5_findBest 43 = .ok (.iload_n 3, 1) := by decide +kernel
theorem dX5_findBest_44 : decode cX5_findBest 44 = .ok (.invokevirtual 21, 3) := by decide +kernel
theorem dX5_findBest_47 : decode cX5_findBest 47 = .ok (.istore 4, 2) := by decide +kernel
theorem dX5_findBest_49 : decode cX5_findBest 49 = .ok (.iload 4, 2) := by decide +kernel
theorem dX5_findBest_51 : decode cX5_findBest 51 = .ok (.aload_n 0, 1) := by decide +kernel
theorem dX5_findBest_52 : decode cX5_findBest 52 = .ok (.getfield 18, 3) := by decide +kernel
theorem dX5_findBest_55 : decode cX5_findBest 55 = .ok (.if_icmp .le 14, 3) := by decide +kernel
theorem dX5_findBest_58 : decode cX5_findBest 58 = .ok (.aload_n 0, 1) := by decide +kernel
theorem dX5_findBest_59 : decode cX5_findBest 59 = .ok (.iload 4, 2) := by decide +kernel
theorem dX5_findBest_61 : decode cX5_findBest 61 = .ok (.putfield 18, 3) := by decide +kernel
theorem dX5_findBest_64 : decode cX5_findBest 64 = .ok (.aload_n 0, 1) := by decide +kernel
theorem dX5_findBest_65 : decode cX5_findBest 65 = .ok (.iload_n 3, 1) := by decide +kernel
theorem dX5_findBest_66 : decode cX5_findBest 66 = .ok (.putfield 15, 3) := by decide +kernel
theorem dX5_findBest_69 : decode cX5_findBest 69 = .ok (.iinc 3 1, 3) := by decide +kernel
theorem dX5_findBest_72 : decode cX5_findBest 72 = .ok (.goto (-46), 3) := by decide +kernel
theorem dX5_findBest_75 : decode cX5_findBest 75 = .ok (.return_, 1) := by decide +kernel
theorem dX5_fewestUnlike_0 : decode cX5_fewestUnlike 0 = .ok (.iconst 4, 1) := by decide +kernel
theorem dX5_fewestUnlike_1 : decode cX5_fewestUnlike 1 = .ok (.istore_n 3, 1) := by decide +kernel
theorem dX5_fewestUnlike_2 : decode cX5_fewestUnlike 2 = .ok (.iconst 1, 1) := by decide +kernel
theorem dX5_fewestUnlike_3 : decode cX5_fewestUnlike 3 = .ok (.istore 4, 2) := by decide +kernel
theorem dX5_fewestUnlike_5 : decode cX5_fewestUnlike 5 = .ok (.iload 4, 2) := by decide +kernel
theorem dX5_fewestUnlike_7 : decode cX5_fewestUnlike 7 = .ok (.aload_n 1, 1) := by decide +kernel
theorem dX5_fewestUnlike_8 : decode cX5_fewestUnlike 8 = .ok (.getfield 25, 3) := by decide +kernel
theorem dX5_fewestUnlike_11 : decode cX5_fewestUnlike 11 = .ok (.if_icmp .ge 109, 3) := by decide +kernel
theorem dX5_fewestUnlike_14 : decode cX5_fewestUnlike 14 = .ok (.iload_n 3, 1) := by decide +kernel
theorem dX5_fewestUnlike_15 : decode cX5_fewestUnlike 15 = .ok (.aload_n 0, 1) := by decide +kernel
theorem dX5_fewestUnlike_16 : decode cX5_fewestUnlike 16 = .ok (.getfield 18, 3) := by decide +kernel
theorem dX5_fewestUnlike_19 : decode cX5_fewestUnlike 19 = .ok (.if_icmp .le 101, 3) := by decide +kernel
theorem dX5_fewestUnlike_22 : decode cX5_fewestUnlike 22 = .ok (.iconst 0, 1) := by decide +kernel
theorem dX5_fewestUnlike_23 : decode cX5_fewestUnlike 23 = .ok (.istore 5, 2) := by decide +kernel
theorem dX5_fewestUnlike_25 : decode cX5_fewestUnlike 25 = .ok (.iload 5, 2) := by decide +kernel
theorem dX5_fewestUnlike_27 : decode cX5_fewestUnlike 27 = .ok (.iload 4, 2) := by decide +kernel
theorem dX5_fewestUnlike_29 : decode cX5_fewestUnlike 29 = .ok (.if_icmp .ge 85, 3) := by decide +kernel
theorem dX5_fewestUnlike_32 : decode cX5_fewestUnlike 32 = .ok (.aload_n 1, 1) := by decide +kernel
theorem dX5_fewestUnlike_33 : decode cX5_fewestUnlike 33 = .ok (.getfield 30, 3) := by decide +kernel
theorem dX5_fewestUnlike_36 : decode cX5_fewestUnlike 36 = .ok (.iload 4, 2) := by decide +kernel
theorem dX5_fewestUnlike_38 : decode cX5_fewestUnlike 38 = .ok (.iaload, 1) := by decide +kernel
theorem dX5_fewestUnlike_39 : decode cX5_fewestUnlike 39 = .ok (.aload_n 1, 1) := by decide +kernel
theorem dX5_fewestUnlike_40 : decode cX5_fewestUnlike 40 = .ok (.getfield 30, 3) := by decide +kernel
theorem dX5_fewestUnlike_43 : decode cX5_fewestUnlike 43 = .ok (.iload 5, 2) := by decide +kernel
theorem dX5_fewestUnlike_45 : decode cX5_fewestUnlike 45 = .ok (.iaload, 1) := by decide +kernel
theorem dX5_fewestUnlike_46 : decode cX5_fewestUnlike 46 = .ok (.isub, 1) := by decide +kernel
theorem dX5_fewestUnlike_47 : decode cX5_fewestUnlike 47 = .ok (.invokestatic 34, 3) := by decide +kernel
theorem dX5_fewestUnlike_50 : decode cX5_fewestUnlike 50 = .ok (.istore 6, 2) := by decide +kernel
theorem dX5_fewestUnlike_52 : decode cX5_fewestUnlike 52 = .ok (.iload 6, 2) := by decide +kernel
theorem dX5_fewestUnlike_54 : decode cX5_fewestUnlike 54 = .ok (.ifCond .eq 16, 3) := by decide +kernel
theorem dX5_fewestUnlike_57 : decode cX5_fewestUnlike 57 = .ok (.iload 6, 2) := by decide +kernel
theorem dX5_fewestUnlike_59 : decode cX5_fewestUnlike 59 = .ok (.iload_n 2, 1) := by decide +kernel
theorem dX5_fewestUnlike_60 : decode cX5_fewestUnlike 60 = .ok (.imul, 1) := by decide +kernel
theorem dX5_fewestUnlike_61 : decode cX5_fewestUnlike 61 = .ok (.sipush 10000, 3) := by decide +kernel
theorem dX5_fewestUnlike_64 : decode cX5_fewestUnlike 64 = .ok (.irem, 1) := by decide +kernel
theorem dX5_fewestUnlike_65 : decode cX5_fewestUnlike 65 = .ok (.ifCond .ne 5, 3) := by decide +kernel
theorem dX5_fewestUnlike_68 : decode cX5_fewestUnlike 68 = .ok (.iconst (-1), 1) := by decide +kernel
theorem dX5_fewestUnlike_69 : decode cX5_fewestUnlike 69 = .ok (.ireturn, 1) := by decide +kernel
theorem dX5_fewestUnlike_70 : decode cX5_fewestUnlike 70 = .ok (.iload 6, 2) := by decide +kernel
theorem dX5_fewestUnlike_72 : decode cX5_fewestUnlike 72 = .ok (.ifCond .eq 36, 3) := by decide +kernel
theorem dX5_fewestUnlike_75 : decode cX5_fewestUnlike 75 = .ok (.iload 6, 2) := by decide +kernel
theorem dX5_fewestUnlike_77 : decode cX5_fewestUnlike 77 = .ok (.bipush 7, 2) := by decide +kernel
theorem dX5_fewestUnlike_79 : decode cX5_fewestUnlike 79 = .ok (.if_icmp .gt 29, 3) := by decide +kernel
theorem dX5_fewestUnlike_82 : decode cX5_fewestUnlike 82 = .ok (.iload_n 3, 1) := by decide +kernel
theorem dX5_fewestUnlike_83 : decode cX5_fewestUnlike 83 = .ok (.aload_n 1, 1) := by decide +kernel
theorem dX5_fewestUnlike_84 : decode cX5_fewestUnlike 84 = .ok (.getfield 30, 3) := by decide +kernel
theorem dX5_fewestUnlike_87 : decode cX5_fewestUnlike 87 = .ok (.iload 4, 2) := by decide +kernel
theorem dX5_fewestUnlike_89 : decode cX5_fewestUnlike 89 = .ok (.iaload, 1) := by decide +kernel
theorem dX5_fewestUnlike_90 : decode cX5_fewestUnlike 90 = .ok (.iload_n 2, 1) := by decide +kernel
theorem dX5_fewestUnlike_91 : decode cX5_fewestUnlike 91 = .ok (.imul, 1) := by decide +kernel
theorem dX5_fewestUnlike_92 : decode cX5_fewestUnlike 92 = .ok (.aload_n 1, 1) := by decide +kernel
theorem dX5_fewestUnlike_93 : decode cX5_fewestUnlike 93 = .ok (.getfield 30, 3) := by decide +kernel
theorem dX5_fewestUnlike_96 : decode cX5_fewestUnlike 96 = .ok (.iload 5, 2) := by decide +kernel
theorem dX5_fewestUnlike_98 : decode cX5_fewestUnlike 98 = .ok (.iaload, 1) := by decide +kernel
theorem dX5_fewestUnlike_99 : decode cX5_fewestUnlike 99 = .ok (.iload_n 2, 1) := by decide +kernel
theorem dX5_fewestUnlike_100 : decode cX5_fewestUnlike 100 = .ok (.imul, 1) := by decide +kernel
theorem dX5_fewestUnlike_101 : decode cX5_fewestUnlike 101 = .ok (.invokestatic 40, 3) := by decide +kernel
theorem dX5_fewestUnlike_104 : decode cX5_fewestUnlike 104 = .ok (.invokestatic 44, 3) := by decide +kernel
theorem dX5_fewestUnlike_107 : decode cX5_fewestUnlike 107 = .ok (.istore_n 3, 1) := by decide +kernel
theorem dX5_fewestUnlike_108 : decode cX5_fewestUnlike 108 = .ok (.iinc 5 1, 3) := by decide +kernel
theorem dX5_fewestUnlike_111 : decode cX5_fewestUnlike 111 = .ok (.goto (-86), 3) := by decide +kernel
theorem dX5_fewestUnlike_114 : decode cX5_fewestUnlike 114 = .ok (.iinc 4 1, 3) := by decide +kernel
theorem dX5_fewestUnlike_117 : decode cX5_fewestUnlike 117 = .ok (.goto (-112), 3) := by decide +kernel
theorem dX5_fewestUnlike_120 : decode cX5_fewestUnlike 120 = .ok (.iload_n 3, 1) := by decide +kernel
theorem dX5_fewestUnlike_121 : decode cX5_fewestUnlike 121 = .ok (.ireturn, 1) := by decide +kernel
theorem dX5_unlikeFigures_0 : decode cX5_unlikeFigures 0 = .ok (.iconst 0, 1) := by decide +kernel
theorem dX5_unlikeFigures_1 : decode cX5_unlikeFigures 1 = .ok (.istore_n 2, 1) := by decide +kernel
theorem dX5_unlikeFigures_2 : decode cX5_unlikeFigures 2 = .ok (.iload_n 0, 1) := by decide +kernel
theorem dX5_unlikeFigures_3 : decode cX5_unlikeFigures 3 = .ok (.istore_n 3, 1) := by decide +kernel
theorem dX5_unlikeFigures_4 : decode cX5_unlikeFigures 4 = .ok (.iload_n 1, 1) := by decide +kernel
theorem dX5_unlikeFigures_5 : decode cX5_unlikeFigures 5 = .ok (.istore 4, 2) := by decide +kernel
theorem dX5_unlikeFigures_7 : decode cX5_unlikeFigures 7 = .ok (.iconst 0, 1) := by decide +kernel
theorem dX5_unlikeFigures_8 : decode cX5_unlikeFigures 8 = .ok (.istore 5, 2) := by decide +kernel
theorem dX5_unlikeFigures_10 : decode cX5_unlikeFigures 10 = .ok (.iload 5, 2) := by decide +kernel
theorem dX5_unlikeFigures_12 : decode cX5_unlikeFigures 12 = .ok (.iconst 4, 1) := by decide +kernel
theorem dX5_unlikeFigures_13 : decode cX5_unlikeFigures 13 = .ok (.if_icmp .ge 36, 3) := by decide +kernel
theorem dX5_unlikeFigures_16 : decode cX5_unlikeFigures 16 = .ok (.iload_n 3, 1) := by decide +kernel
theorem dX5_unlikeFigures_17 : decode cX5_unlikeFigures 17 = .ok (.bipush 10, 2) := by decide +kernel
theorem dX5_unlikeFigures_19 : decode cX5_unlikeFigures 19 = .ok (.irem, 1) := by decide +kernel
theorem dX5_unlikeFigures_20 : decode cX5_unlikeFigures 20 = .ok (.iload 4, 2) := by decide +kernel
theorem dX5_unlikeFigures_22 : decode cX5_unlikeFigures 22 = .ok (.bipush 10, 2) := by decide +kernel
theorem dX5_unlikeFigures_24 : decode cX5_unlikeFigures 24 = .ok (.irem, 1) := by decide +kernel
theorem dX5_unlikeFigures_25 : decode cX5_unlikeFigures 25 = .ok (.if_icmp .eq 6, 3) := by decide +kernel
theorem dX5_unlikeFigures_28 : decode cX5_unlikeFigures 28 = .ok (.iinc 2 1, 3) := by decide +kernel
theorem dX5_unlikeFigures_31 : decode cX5_unlikeFigures 31 = .ok (.iload_n 3, 1) := by decide +kernel
theorem dX5_unlikeFigures_32 : decode cX5_unlikeFigures 32 = .ok (.bipush 10, 2) := by decide +kernel
theorem dX5_unlikeFigures_34 : decode cX5_unlikeFigures 34 = .ok (.idiv, 1) := by decide +kernel
theorem dX5_unlikeFigures_35 : decode cX5_unlikeFigures 35 = .ok (.istore_n 3, 1) := by decide +kernel
theorem dX5_unlikeFigures_36 : decode cX5_unlikeFigures 36 = .ok (.iload 4, 2) := by decide +kernel
theorem dX5_unlikeFigures_38 : decode cX5_unlikeFigures 38 = .ok (.bipush 10, 2) := by decide +kernel
theorem dX5_unlikeFigures_40 : decode cX5_unlikeFigures 40 = .ok (.idiv, 1) := by decide +kernel
theorem dX5_unlikeFigures_41 : decode cX5_unlikeFigures 41 = .ok (.istore 4, 2) := by decide +kernel
theorem dX5_unlikeFigures_43 : decode cX5_unlikeFigures 43 = .ok (.iinc 5 1, 3) := by decide +kernel
theorem dX5_unlikeFigures_46 : decode cX5_unlikeFigures 46 = .ok (.goto (-36), 3) := by decide +kernel
theorem dX5_unlikeFigures_49 : decode cX5_unlikeFigures 49 = .ok (.iload_n 2, 1) := by decide +kernel
theorem dX5_unlikeFigures_50 : decode cX5_unlikeFigures 50 = .ok (.ireturn, 1) := by decide +kernel
theorem dX6_init_0 : decode cX6_init 0 = .ok (.aload_n 0, 1) := by decide +kernel
theorem dX6_init_1 : decode cX6_init 1 = .ok (.invokespecial 3, 3) := by decide +kernel
theorem dX6_init_4 : decode cX6_init 4 = .ok (.aload_n 0, 1) := by decide +kernel
theorem dX6_init_5 : decode cX6_init 5 = .ok (.new 9, 3) := by decide +kernel
theorem dX6_init_8 : decode cX6_init 8 = .ok (.dup, 1) := by decide +kernel
theorem dX6_init_9 : decode cX6_init 9 = .ok (.invokespecial 11, 3) := by decide +kernel
theorem dX6_init_12 : decode cX6_init 12 = .ok (.putfield 12, 3) := by decide +kernel
theorem dX6_init_15 : decode cX6_init 15 = .ok (.aload_n 0, 1) := by decide +kernel
theorem dX6_init_16 : decode cX6_init 16 = .ok (.sipush 729, 3) := by decide +kernel
theorem dX6_init_19 : decode cX6_init 19 = .ok (.newarray .int, 2) := by decide +kernel
theorem dX6_init_21 : decode cX6_init 21 = .ok (.putfield 18, 3) := by decide +kernel
theorem dX6_init_24 : decode cX6_init 24 = .ok (.aload_n 0, 1) := by decide +kernel
theorem dX6_init_25 : decode cX6_init 25 = .ok (.bipush 100, 2) := by decide +kernel
theorem dX6_init_27 : decode cX6_init 27 = .ok (.newarray .int, 2) := by decide +kernel
theorem dX6_init_29 : decode cX6_init 29 = .ok (.putfield 24, 3) := by decide +kernel
theorem dX6_init_32 : decode cX6_init 32 = .ok (.aload_n 0, 1) := by decide +kernel
theorem dX6_init_33 : decode cX6_init 33 = .ok (.iconst (-1), 1) := by decide +kernel
theorem dX6_init_34 : decode cX6_init 34 = .ok (.putfield 27, 3) := by decide +kernel
theorem dX6_init_37 : decode cX6_init 37 = .ok (.return_, 1) := by decide +kernel
theorem dX6_play_0 : decode cX6_play 0 = .ok (.aload_n 0, 1) := by decide +kernel
theorem dX6_play_1 : decode cX6_play 1 = .ok (.getfield 27, 3) := by decide +kernel
theorem dX6_play_4 : decode cX6_play 4 = .ok (.iload_n 3, 1) := by decide +kernel
theorem dX6_play_5 : decode cX6_play 5 = .ok (.if_icmp .ne 4, 3) := by decide +kernel
theorem dX6_play_8 : decode cX6_play 8 = .ok (.return_, 1) := by decide +kernel
theorem dX6_play_9 : decode cX6_play 9 = .ok (.aload_n 0, 1) := by decide +kernel
theorem dX6_play_10 : decode cX6_play 10 = .ok (.iload_n 3, 1) := by decide +kernel
theorem dX6_play_11 : decode cX6_play 11 = .ok (.putfield 27, 3) := by decide +kernel
theorem dX6_play_14 : decode cX6_play 14 = .ok (.aload_n 0, 1) := by decide +kernel
theorem dX6_play_15 : decode cX6_play 15 = .ok (.getfield 12, 3) := by decide +kernel
theorem dX6_play_18 : decode cX6_play 18 = .ok (.aload_n 2, 1) := by decide +kernel
theorem dX6_play_19 : decode cX6_play 19 = .ok (.invokevirtual 31, 3) := by decide +kernel
theorem dX6_play_22 : decode cX6_play 22 = .ok (.aload_n 0, 1) := by decide +kernel
theorem dX6_play_23 : decode cX6_play 23 = .ok (.getfield 18, 3) := by decide +kernel
theorem dX6_play_26 : decode cX6_play 26 = .ok (.iconst 0, 1) := by decide +kernel
theorem dX6_play_27 : decode cX6_play 27 = .ok (.invokestatic 35, 3) := by decide +kernel
theorem dX6_play_30 : decode cX6_play 30 = .ok (.aload_n 0, 1) := by decide +kernel
theorem dX6_play_31 : decode cX6_play 31 = .ok (.iconst 0, 1) := by decide +kernel
theorem dX6_play_32 : decode cX6_play 32 = .ok (.putfield 41, 3) := by decide +kernel
theorem dX6_play_35 : decode cX6_play 35 = .ok (.aload_n 0, 1) := by decide +kernel
theorem dX6_play_36 : decode cX6_play 36 = .ok (.iconst 0, 1) := by decide +kernel
theorem dX6_play_37 : decode cX6_play 37 = .ok (.putfield 44, 3) := by decide +kernel
theorem dX6_play_40 : decode cX6_play 40 = .ok (.aload_n 0, 1) := by decide +kernel
theorem dX6_play_41 : decode cX6_play 41 = .ok (.iconst 0, 1) := by decide +kernel
theorem dX6_play_42 : decode cX6_play 42 = .ok (.putfield 47, 3) := by decide +kernel
theorem dX6_play_45 : decode cX6_play 45 = .ok (.aload_n 0, 1) := by decide +kernel
theorem dX6_play_46 : decode cX6_play 46 = .ok (.iconst 0, 1) := by decide +kernel
theorem dX6_play_47 : decode cX6_play 47 = .ok (.putfield 50, 3) := by decide +kernel
theorem dX6_play_50 : decode cX6_play 50 = .ok (.aload_n 0, 1) := by decide +kernel
theorem dX6_play_51 : decode cX6_play 51 = .ok (.iconst 0, 1) := by decide +kernel
theorem dX6_play_52 : decode cX6_play 52 = .ok (.putfield 54, 3) := by decide +kernel
theorem dX6_play_55 : decode cX6_play 55 = .ok (.iconst 0, 1) := by decide +kernel
theorem dX6_play_56 : decode cX6_play 56 = .ok (.istore 4, 2) := by decide +kernel
theorem dX6_play_58 : decode cX6_play 58 = .ok (.iconst 0, 1) := by decide +kernel
theorem dX6_play_59 : decode cX6_play 59 = .ok (.istore 5, 2) := by decide +kernel
theorem dX6_play_61 : decode cX6_play 61 = .ok (.iload 5, 2) := by decide +kernel
theorem dX6_play_63 : decode cX6_play 63 = .ok (.ldc 57, 2) := by decide +kernel
theorem dX6_play_65 : decode cX6_play 65 = .ok (.if_icmp .ge 117, 3) := by decide +kernel
theorem dX6_play_68 : decode cX6_play 68 = .ok (.aload_n 0, 1) := by decide +kernel
theorem dX6_play_69 : decode cX6_play 69 = .ok (.getfield 54, 3) := by decide +kernel
theorem dX6_play_72 : decode cX6_play 72 = .ok (.ifCond .ne 110, 3) := by decide +kernel
theorem dX6_play_75 : decode cX6_play 75 = .ok (.iload 4, 2) := by decide +kernel
theorem dX6_play_77 : decode cX6_play 77 = .ok (.ifCond .lt 105, 3) := by decide +kernel
theorem dX6_play_80 : decode cX6_play 80 = .ok (.iload 4, 2) := by decide +kernel
theorem dX6_play_82 : decode cX6_play 82 = .ok (.aload_n 1, 1) := by decide +kernel
theorem dX6_play_83 : decode cX6_play 83 = .ok (.getfield 58, 3) := by decide +kernel
theorem dX6_play_86 : decode cX6_play 86 = .ok (.if_icmp .ge 96, 3) := by decide +kernel
theorem dX6_play_89 : decode cX6_play 89 = .ok (.aload_n 1, 1) := by decide +kernel
theorem dX6_play_90 : decode cX6_play 90 = .ok (.getfield 61, 3) := by decide +kernel
theorem dX6_play_93 : decode cX6_play 93 = .ok (.iload 4, 2) := by decide +kernel
theorem dX6_play_95 : decode cX6_play 95 = .ok (.iaload, 1) := by decide +kernel
theorem dX6_play_96 : decode cX6_play 96 = .ok (.bipush 7, 2) := by decide +kernel
theorem dX6_play_98 : decode cX6_play 98 = .ok (.if_icmp .ge 7, 3) := by decide +kernel
theorem dX6_play_101 : decode cX6_play 101 = .ok (.iconst 1, 1) := by decide +kernel
theorem dX6_play_102 : decode cX6_play 102 = .ok (.goto 4, 3) := by decide +kernel
theorem dX6_play_105 : decode cX6_play 105 = .ok (.iconst 0, 1) := by decide +kernel
theorem dX6_play_106 : decode cX6_play 106 = .ok (.istore 6, 2) := by decide +kernel
theorem dX6_play_108 : decode cX6_play 108 = .ok (.iload 6, 2) := by decide +kernel
theorem dX6_play_110 : decode cX6_play 110 = .ok (.ifCond .eq 21, 3) := by decide +kernel
theorem dX6_play_113 : decode cX6_play 113 = .ok (.aload_n 0, 1) := by decide +kernel
theorem dX6_play_114 : decode cX6_play 114 = .ok (.getfield 44, 3) := by decide +kernel
theorem dX6_play_117 : decode cX6_play 117 = .ok (.sipush 1000, 3) := by decide +kernel
theorem dX6_play_120 : decode cX6_play 120 = .ok (.if_icmp .lt 11, 3) := by decide +kernel
theorem dX6_play_123 : decode cX6_play 123 = .ok (.aload_n 0, 1) := by decide +kernel
theorem dX6_play_124 : decode cX6_play 124 = .ok (.iconst 1, 1) := by decide +kernel
theorem dX6_play_125 : decode cX6_play 125 = .ok (.putfield 54, 3) := by decide +kernel
theorem dX6_play_128 : decode cX6_play 128 = .ok (.goto 48, 3) := by decide +kernel
theorem dX6_play_131 : decode cX6_play 131 = .ok (.aload_n 0, 1) := by decide +kernel
theorem dX6_play_132 : decode cX6_play 132 = .ok (.dup, 1) := by decide +kernel
theorem dX6_play_133 : decode cX6_play 133 = .ok (.getfield 44, 3) := by decide +kernel
theorem dX6_play_136 : decode cX6_play 136 = .ok (.iload 6, 2) := by decide +kernel
theorem dX6_play_138 : decode cX6_play 138 = .ok (.ifCond .eq 7, 3) := by decide +kernel
theorem dX6_play_141 : decode cX6_play 141 = .ok (.iconst 1, 1) := by decide +kernel
theorem dX6_play_142 : decode cX6_play 142 = .ok (.goto 4, 3) := by decide +kernel
theorem dX6_play_145 : decode cX6_play 145 = .ok (.iconst 0, 1) := by decide +kernel
theorem dX6_play_146 : decode cX6_play 146 = .ok (.iadd, 1) := by decide +kernel
theorem dX6_play_147 : decode cX6_play 147 = .ok (.putfield 44, 3) := by decide +kernel
theorem dX6_play_150 : decode cX6_play 150 = .ok (.aload_n 0, 1) := by decide +kernel
theorem dX6_play_151 : decode cX6_play 151 = .ok (.aload_n 1, 1) := by decide +kernel
theorem dX6_play_152 : decode cX6_play 152 = .ok (.iload 4, 2) := by decide +kernel
theorem dX6_play_154 : decode cX6_play 154 = .ok (.invokevirtual 64, 3) := by decide +kernel
theorem dX6_play_157 : decode cX6_play 157 = .ok (.ifCond .eq 13, 3) := by decide +kernel
theorem dX6_play_160 : decode cX6_play 160 = .ok (.aload_n 1, 1) := by decide +kernel
theorem dX6_play_161 : decode cX6_play 161 = .ok (.getfield 68, 3) := by decide +kernel
theorem dX6_play_164 : decode cX6_play 164 = .ok (.iload 4, 2) := by decide +kernel
theorem dX6_play_166 : decode cX6_play 166 = .ok (.iaload, 1) := by decide +kernel
theorem dX6_play_167 : decode cX6_play 167 = .ok (.goto 7, 3) := by decide +kernel
theorem dX6_play_170 : decode cX6_play 170 = .ok (.iload 4, 2) := by decide +kernel
theorem dX6_play_172 : decode cX6_play 172 = .ok (.iconst 1, 1) := by decide +kernel
theorem dX6_play_173 : decode cX6_play 173 = .ok (.iadd, 1) := by decide +kernel
theorem dX6_play_174 : decode cX6_play 174 = .ok (.istore 4, 2) := by decide +kernel
theorem dX6_play_176 : decode cX6_play 176 = .ok (.iinc 5 1, 3) := by decide +kernel
theorem dX6_play_179 : decode cX6_play 179 = .ok (.goto (-118), 3) := by decide +kernel
theorem dX6_play_182 : decode cX6_play 182 = .ok (.return_, 1) := by decide +kernel
theorem dX6_goesAside_0 : decode cX6_goesAside 0 = .ok (.aload_n 1, 1) := by decide +kernel
theorem dX6_goesAside_1 : decode cX6_goesAside 1 = .ok (.getfield 71, 3) := by decide +kernel
theorem dX6_goesAside_4 : decode cX6_goesAside 4 = .ok (.iload_n 2, 1) := by decide +kernel
theorem dX6_goesAside_5 : decode cX6_goesAside 5 = .ok (.iaload, 1) := by decide +kernel
theorem dX6_goesAside_6 : decode cX6_goesAside 6 = .ok (.istore_n 3, 1) := by decide +kernel
theorem dX6_goesAside_7 : decode cX6_goesAside 7 = .ok (.aload_n 1, 1) := by decide +kernel
theorem dX6_goesAside_8 : decode cX6_goesAside 8 = .ok (.getfield 61, 3) := by decide +kernel
theorem dX6_goesAside_11 : decode cX6_goesAside 11 = .ok (.iload_n 2, 1) := by decide +kernel
theorem dX6_goesAside_12 : decode cX6_goesAside 12 = .ok (.iaload, 1) := by decide +kernel
theorem dX6_goesAside_13 : decode cX6_goesAside 13 = .ok (.tableswitch 182 0 7 #[47, 54, 61, 76, 94, 112, 129, 157], 47) := by decide +kernel
theorem dX6_goesAside_60 : decode cX6_goesAside 60 = .ok (.aload_n 0, 1) := by decide +kernel
theorem dX6_goesAside_61 : decode cX6_goesAside 61 = .ok (.iload_n 3, 1) := by decide +kernel
theorem dX6_goesAside_62 : decode cX6_goesAside 62 = .ok (.invokevirtual 74, 3) := by decide +kernel
theorem dX6_goesAside_65 : decode cX6_goesAside 65 = .ok (.iconst 0, 1) := by decide +kernel
theorem dX6_goesAside_66 : decode cX6_goesAside 66 = .ok (.ireturn, 1) := by decide +kernel
theorem dX6_goesAside_67 : decode cX6_goesAside 67 = .ok (.aload_n 0, 1) := by decide +kernel
theorem dX6_goesAside_68 : decode cX6_goesAside 68 = .ok (.iload_n 3, 1) := by decide +kernel
theorem dX6_goesAside_69 : decode cX6_goesAside 69 = .ok (.invokevirtual 78, 3) := by decide +kernel
theorem dX6_goesAside_72 : decode cX6_goesAside 72 = .ok (.iconst 0, 1) := by decide +kernel
theorem dX6_goesAside_73 : decode cX6_goesAside 73 = .ok (.ireturn, 1) := by decide +kernel
theorem dX6_goesAside_74 : decode cX6_goesAside 74 = .ok (.aload_n 0, 1) := by decide +kernel
theorem dX6_goesAside_75 : decode cX6_goesAside 75 = .ok (.iload_n 3, 1) := by decide +kernel
theorem dX6_goesAside_76 : decode cX6_goesAside 76 = .ok (.aload_n 1, 1) := by decide +kernel
theorem dX6_goesAside_77 : decode cX6_goesAside 77 = .ok (.getfield 81, 3) := by decide +kernel
theorem dX6_goesAside_80 : decode cX6_goesAside 80 = .ok (.iload_n 2, 1) := by decide +kernel
theorem dX6_goesAside_81 : decode cX6_goesAside 81 = .ok (.iaload, 1) := by decide +kernel
theorem dX6_goesAside_82 : decode cX6_goesAside 82 = .ok (.bipush 9, 2) := by decide +kernel
theorem dX6_goesAside_84 : decode cX6_goesAside 84 = .ok (.invokevirtual 84, 3) := by decide +kernel
theorem dX6_goesAside_87 : decode cX6_goesAside 87 = .ok (.iconst 0, 1) := by decide +kernel
theorem dX6_goesAside_88 : decode cX6_goesAside 88 = .ok (.ireturn, 1) := by decide +kernel
theorem dX6_goesAside_89 : decode cX6_goesAside 89 = .ok (.aload_n 0, 1) := by decide +kernel
theorem dX6_goesAside_90 : decode cX6_goesAside 90 = .ok (.bipush 8, 2) := by decide +kernel
theorem dX6_goesAside_92 : decode cX6_goesAside 92 = .ok (.iload_n 3, 1) := by decide +kernel
theorem dX6_goesAside_93 : decode cX6_goesAside 93 = .ok (.iadd, 1) := by decide +kernel
theorem dX6_goesAside_94 : decode cX6_goesAside 94 = .ok (.aload_n 1, 1) := by decide +kernel
theorem dX6_goesAside_95 : decode cX6_goesAside 95 = .ok (.getfield 81, 3) := by decide +kernel
theorem dX6_goesAside_98 : decode cX6_goesAside 98 = .ok (.iload_n 2, 1) := by decide +kernel
theorem dX6_goesAside_99 : decode cX6_goesAside 99 = .ok (.iaload, 1) := by decide +kernel
theorem dX6_goesAside_100 : decode cX6_goesAside 100 = .ok (.bipush 90, 2) := by decide +kernel
theorem dX6_goesAside_102 : decode cX6_goesAside 102 = .ok (.invokevirtual 84, 3) := by decide +kernel
theorem dX6_goesAside_105 : decode cX6_goesAside 105 = .ok (.iconst 0, 1) := by decide +kernel
theorem dX6_goesAside_106 : decode cX6_goesAside 106 = .ok (.ireturn, 1) := by decide +kernel
theorem dX6_goesAside_107 : decode cX6_goesAside 107 = .ok (.aload_n 0, 1) := by decide +kernel
theorem dX6_goesAside_108 : decode cX6_goesAside 108 = .ok (.aload_n 0, 1) := by decide +kernel
theorem dX6_goesAside_109 : decode cX6_goesAside 109 = .ok (.getfield 50, 3) := by decide +kernel
theorem dX6_goesAside_112 : decode cX6_goesAside 112 = .ok (.ifCond .ne 7, 3) := by decide +kernel
theorem dX6_goesAside_115 : decode cX6_goesAside 115 = .ok (.iconst 1, 1) := by decide +kernel
theorem dX6_goesAside_116 : decode cX6_goesAside 116 = .ok (.goto 4, 3) := by decide +kernel
theorem dX6_goesAside_119 : decode cX6_goesAside 119 = .ok (.iconst 0, 1) := by decide +kernel
theorem dX6_goesAside_120 : decode cX6_goesAside 120 = .ok (.putfield 50, 3) := by decide +kernel
theorem dX6_goesAside_123 : decode cX6_goesAside 123 = .ok (.iconst 0, 1) := by decide +kernel
theorem dX6_goesAside_124 : decode cX6_goesAside 124 = .ok (.ireturn, 1) := by decide +kernel
theorem dX6_goesAside_125 : decode cX6_goesAside 125 = .ok (.aload_n 0, 1) := by decide +kernel
theorem dX6_goesAside_126 : decode cX6_goesAside 126 = .ok (.getfield 24, 3) := by decide +kernel
theorem dX6_goesAside_129 : decode cX6_goesAside 129 = .ok (.iload_n 2, 1) := by decide +kernel
theorem dX6_goesAside_130 : decode cX6_goesAside 130 = .ok (.iload_n 3, 1) := by decide +kernel
theorem dX6_goesAside_131 : decode cX6_goesAside 131 = .ok (.iastore, 1) := by decide +kernel
theorem dX6_goesAside_132 : decode cX6_goesAside 132 = .ok (.iload_n 3, 1) := by decide +kernel
theorem dX6_goesAside_133 : decode cX6_goesAside 133 = .ok (.ifCond .ne 7, 3) := by decide +kernel
theorem dX6_goesAside_136 : decode cX6_goesAside 136 = .ok (.iconst 1, 1) := by decide +kernel
theorem dX6_goesAside_137 : decode cX6_goesAside 137 = .ok (.goto 4, 3) := by decide +kernel
theorem dX6_goesAside_140 : decode cX6_goesAside 140 = .ok (.iconst 0, 1) := by decide +kernel
theorem dX6_goesAside_141 : decode cX6_goesAside 141 = .ok (.ireturn, 1) := by decide +kernel
theorem dX6_goesAside_142 : decode cX6_goesAside 142 = .ok (.aload_n 0, 1) := by decide +kernel
theorem dX6_goesAside_143 : decode cX6_goesAside 143 = .ok (.iload_n 3, 1) := by decide +kernel
theorem dX6_goesAside_144 : decode cX6_goesAside 144 = .ok (.invokevirtual 88, 3) := by decide +kernel
theorem dX6_goesAside_147 : decode cX6_goesAside 147 = .ok (.aload_n 1, 1) := by decide +kernel
theorem dX6_goesAside_148 : decode cX6_goesAside 148 = .ok (.getfield 81, 3) := by decide +kernel
theorem dX6_goesAside_151 : decode cX6_goesAside 151 = .ok (.iload_n 2, 1) := by decide +kernel
theorem dX6_goesAside_152 : decode cX6_goesAside 152 = .ok (.iaload, 1) := by decide +kernel
theorem dX6_goesAside_153 : decode cX6_goesAside 153 = .ok (.ifCond .ne 7, 3) := by decide +kernel
theorem dX6_goesAside_156 : decode cX6_goesAside 156 = .ok (.iconst 1, 1) := by decide +kernel
theorem dX6_goesAside_157 : decode cX6_goesAside 157 = .ok (.goto 4, 3) := by decide +kernel
theorem dX6_goesAside_160 : decode cX6_goesAside 160 = .ok (.iconst 0, 1) := by decide +kernel
theorem dX6_goesAside_161 : decode cX6_goesAside 161 = .ok (.if_icmp .eq 7, 3) := by decide +kernel
theorem dX6_goesAside_164 : decode cX6_goesAside 164 = .ok (.iconst 1, 1) := by decide +kernel
theorem dX6_goesAside_165 : decode cX6_goesAside 165 = .ok (.goto 4, 3) := by decide +kernel
theorem dX6_goesAside_168 : decode cX6_goesAside 168 = .ok (.iconst 0, 1) := by decide +kernel
theorem dX6_goesAside_169 : decode cX6_goesAside 169 = .ok (.ireturn, 1) := by decide +kernel
theorem dX6_goesAside_170 : decode cX6_goesAside 170 = .ok (.aload_n 0, 1) := by decide +kernel
theorem dX6_goesAside_171 : decode cX6_goesAside 171 = .ok (.getfield 24, 3) := by decide +kernel
theorem dX6_goesAside_174 : decode cX6_goesAside 174 = .ok (.iload_n 3, 1) := by decide +kernel
theorem dX6_goesAside_175 : decode cX6_goesAside 175 = .ok (.dup2, 1) := by decide +kernel
theorem dX6_goesAside_176 : decode cX6_goesAside 176 = .ok (.iaload, 1) := by decide +kernel
theorem dX6_goesAside_177 : decode cX6_goesAside 177 = .ok (.iconst 1, 1) := by decide +kernel
theorem dX6_goesAside_178 : decode cX6_goesAside 178 = .ok (.isub, 1) := by decide +kernel
theorem dX6_goesAside_179 : decode cX6_goesAside 179 = .ok (.iastore, 1) := by decide +kernel
theorem dX6_goesAside_180 : decode cX6_goesAside 180 = .ok (.aload_n 0, 1) := by decide +kernel
theorem dX6_goesAside_181 : decode cX6_goesAside 181 = .ok (.getfield 24, 3) := by decide +kernel
theorem dX6_goesAside_184 : decode cX6_goesAside 184 = .ok (.iload_n 3, 1) := by decide +kernel
theorem dX6_goesAside_185 : decode cX6_goesAside 185 = .ok (.iaload, 1) := by decide +kernel
theorem dX6_goesAside_186 : decode cX6_goesAside 186 = .ok (.ifCond .le 7, 3) := by decide +kernel
theorem dX6_goesAside_189 : decode cX6_goesAside 189 = .ok (.iconst 1, 1) := by decide +kernel
theorem dX6_goesAside_190 : decode cX6_goesAside 190 = .ok (.goto 4, 3) := by decide +kernel
theorem dX6_goesAside_193 : decode cX6_goesAside 193 = .ok (.iconst 0, 1) := by decide +kernel
theorem dX6_goesAside_194 : decode cX6_goesAside 194 = .ok (.ireturn, 1) := by decide +kernel
theorem dX6_goesAside_195 : decode cX6_goesAside 195 = .ok (.iconst 1, 1) := by decide +kernel
theorem dX6_goesAside_196 : decode cX6_goesAside 196 = .ok (.ireturn, 1) := by decide +kernel
theorem dX6_draw_0 : decode cX6_draw 0 = .ok (.aload_n 0, 1) := by decide +kernel
theorem dX6_draw_1 : decode cX6_draw 1 = .ok (.aload_n 0, 1) := by decide +kernel
theorem dX6_draw_2 : decode cX6_draw 2 = .ok (.getfield 47, 3) := by decide +kernel
theorem dX6_draw_5 : decode cX6_draw 5 = .ok (.iload_n 1, 1) := by decide +kernel
theorem dX6_draw_6 : decode cX6_draw 6 = .ok (.iadd, 1) := by decide +kernel
theorem dX6_draw_7 : decode cX6_draw 7 = .ok (.sipush 9999, 3) := by decide +kernel
theorem dX6_draw_10 : decode cX6_draw 10 = .ok (.if_icmp .le 7, 3) := by decide +kernel
theorem dX6_draw_13 : decode cX6_draw 13 = .ok (.iconst 1, 1) := by decide +kernel
theorem dX6_draw_14 : decode cX6_draw 14 = .ok (.goto 4, 3) := by decide +kernel
theorem dX6_draw_17 : decode cX6_draw 17 = .ok (.iconst 0, 1) := by decide +kernel
theorem dX6_draw_18 : decode cX6_draw 18 = .ok (.putfield 54, 3) := by decide +kernel
theorem dX6_draw_21 : decode cX6_draw 21 = .ok (.iconst 0, 1) := by decide +kernel
theorem dX6_draw_22 : decode cX6_draw 22 = .ok (.istore_n 2, 1) := by decide +kernel
theorem dX6_draw_23 : decode cX6_draw 23 = .ok (.iload_n 2, 1) := by decide +kernel
theorem dX6_draw_24 : decode cX6_draw 24 = .ok (.iload_n 1, 1) := by decide +kernel
theorem dX6_draw_25 : decode cX6_draw 25 = .ok (.if_icmp .ge 34, 3) := by decide +kernel
theorem dX6_draw_28 : decode cX6_draw 28 = .ok (.aload_n 0, 1) := by decide +kernel
theorem dX6_draw_29 : decode cX6_draw 29 = .ok (.getfield 54, 3) := by decide +kernel
theorem dX6_draw_32 : decode cX6_draw 32 = .ok (.ifCond .ne 27, 3) := by decide +kernel
theorem dX6_draw_35 : decode cX6_draw 35 = .ok (.aload_n 0, 1) := by decide +kernel
theorem dX6_draw_36 : decode cX6_draw 36 = .ok (.aload_n 0, 1) := by decide +kernel
theorem dX6_draw_37 : decode cX6_draw 37 = .ok (.invokevirtual 92, 3) := by decide +kernel
theorem dX6_draw_40 : decode cX6_draw 40 = .ok (.invokevirtual 96, 3) := by decide +kernel
theorem dX6_draw_43 : decode cX6_draw 43 = .ok (.aload_n 0, 1) := by decide +kernel
theorem dX6_draw_44 : decode cX6_draw 44 = .ok (.dup, 1) := by decide +kernel
theorem dX6_draw_45 : decode cX6_draw 45 = .ok (.getfield 47, 3) := by decide +kernel
theorem dX6_draw_48 : decode cX6_draw 48 = .ok (.iconst 1, 1) := by decide +kernel
theorem dX6_draw_49 : decode cX6_draw 49 = .ok (.iadd, 1) := by decide +kernel
theorem dX6_draw_50 : decode cX6_draw 50 = .ok (.putfield 47, 3) := by decide +kernel
theorem dX6_draw_53 : decode cX6_draw 53 = .ok (.iinc 2 1, 3) := by decide +kernel
theorem dX6_draw_56 : decode cX6_draw 56 = .ok (.goto (-33), 3) := by decide +kernel
theorem dX6_draw_59 : decode cX6_draw 59 = .ok (.return_, 1) := by decide +kernel
theorem dX6_mark_0 : decode cX6_mark 0 = .ok (.iload_n 1, 1) := by decide +kernel
theorem dX6_mark_1 : decode cX6_mark 1 = .ok (.invokestatic 99, 3) := by decide +kernel
theorem dX6_mark_4 : decode cX6_mark 4 = .ok (.ifCond .ne 4, 3) := by decide +kernel
theorem dX6_mark_7 : decode cX6_mark 7 = .ok (.return_, 1) := by decide +kernel
theorem dX6_mark_8 : decode cX6_mark 8 = .ok (.aload_n 0, 1) := by decide +kernel
theorem dX6_mark_9 : decode cX6_mark 9 = .ok (.getfield 18, 3) := by decide +kernel
theorem dX6_mark_12 : decode cX6_mark 12 = .ok (.iload_n 1, 1) := by decide +kernel
theorem dX6_mark_13 : decode cX6_mark 13 = .ok (.iaload, 1) := by decide +kernel
theorem dX6_mark_14 : decode cX6_mark 14 = .ok (.ifCond .ne 13, 3) := by decide +kernel
theorem dX6_mark_17 : decode cX6_mark 17 = .ok (.aload_n 0, 1) := by decide +kernel
theorem dX6_mark_18 : decode cX6_mark 18 = .ok (.dup, 1) := by decide +kernel
theorem dX6_mark_19 : decode cX6_mark 19 = .ok (.getfield 41, 3) := by decide +kernel
theorem dX6_mark_22 : decode cX6_mark 22 = .ok (.iconst 1, 1) := by decide +kernel
theorem dX6_mark_23 : decode cX6_mark 23 = .ok (.iadd, 1) := by decide +kernel
theorem dX6_mark_24 : decode cX6_mark 24 = .ok (.putfield 41, 3) := by decide +kernel
theorem dX6_mark_27 : decode cX6_mark 27 = .ok (.aload_n 0, 1) := by decide +kernel
theorem dX6_mark_28 : decode cX6_mark 28 = .ok (.getfield 18, 3) := by decide +kernel
theorem dX6_mark_31 : decode cX6_mark 31 = .ok (.iload_n 1, 1) := by decide +kernel
theorem dX6_mark_32 : decode cX6_mark 32 = .ok (.dup2, 1) := by decide +kernel
theorem dX6_mark_33 : decode cX6_mark 33 = .ok (.iaload, 1) := by decide +kernel
theorem dX6_mark_34 : decode cX6_mark 34 = .ok (.iconst 1, 1) := by decide +kernel
theorem dX6_mark_35 : decode cX6_mark 35 = .ok (.iadd, 1) := by decide +kernel
theorem dX6_mark_36 : decode cX6_mark 36 = .ok (.iastore, 1) := by decide +kernel
theorem dX6_mark_37 : decode cX6_mark 37 = .ok (.return_, 1) := by decide +kernel
theorem dX6_lift_0 : decode cX6_lift 0 = .ok (.aload_n 0, 1) := by decide +kernel
theorem dX6_lift_1 : decode cX6_lift 1 = .ok (.aload_n 0, 1) := by decide +kernel
theorem dX6_lift_2 : decode cX6_lift 2 = .ok (.getfield 47, 3) := by decide +kernel
theorem dX6_lift_5 : decode cX6_lift 5 = .ok (.iload_n 1, 1) := by decide +kernel
theorem dX6_lift_6 : decode cX6_lift 6 = .ok (.iadd, 1) := by decide +kernel
theorem dX6_lift_7 : decode cX6_lift 7 = .ok (.sipush 9999, 3) := by decide +kernel
theorem dX6_lift_10 : decode cX6_lift 10 = .ok (.if_icmp .le 7, 3) := by decide +kernel
theorem dX6_lift_13 : decode cX6_lift 13 = .ok (.iconst 1, 1) := by decide +kernel
theorem dX6_lift_14 : decode cX6_lift 14 = .ok (.goto 4, 3) := by decide +kernel
theorem dX6_lift_17 : decode cX6_lift 17 = .ok (.iconst 0, 1) := by decide +kernel
theorem dX6_lift_18 : decode cX6_lift 18 = .ok (.putfield 54, 3) := by decide +kernel
theorem dX6_lift_21 : decode cX6_lift 21 = .ok (.aload_n 0, 1) := by decide +kernel
theorem dX6_lift_22 : decode cX6_lift 22 = .ok (.getfield 54, 3) := by decide +kernel
theorem dX6_lift_25 : decode cX6_lift 25 = .ok (.ifCond .ne 13, 3) := by decide +kernel
theorem dX6_lift_28 : decode cX6_lift 28 = .ok (.aload_n 0, 1) := by decide +kernel
theorem dX6_lift_29 : decode cX6_lift 29 = .ok (.dup, 1) := by decide +kernel
theorem dX6_lift_30 : decode cX6_lift 30 = .ok (.getfield 47, 3) := by decide +kernel
theorem dX6_lift_33 : decode cX6_lift 33 = .ok (.iload_n 1, 1) := by decide +kernel
theorem dX6_lift_34 : decode cX6_lift 34 = .ok (.iadd, 1) := by decide +kernel
theorem dX6_lift_35 : decode cX6_lift 35 = .ok (.putfield 47, 3) := by decide +kernel
theorem dX6_lift_38 : decode cX6_lift 38 = .ok (.return_, 1) := by decide +kernel
theorem dX6_alter_0 : decode cX6_alter 0 = .ok (.iload_n 1, 1) := by decide +kernel
theorem dX6_alter_1 : decode cX6_alter 1 = .ok (.ifCond .lt 37, 3) := by decide +kernel
theorem dX6_alter_4 : decode cX6_alter 4 = .ok (.iload_n 1, 1) := by decide +kernel
theorem dX6_alter_5 : decode cX6_alter 5 = .ok (.bipush 12, 2) := by decide +kernel
theorem dX6_alter_7 : decode cX6_alter 7 = .ok (.if_icmp .ge 31, 3) := by decide +kernel
theorem dX6_alter_10 : decode cX6_alter 10 = .ok (.aload_n 0, 1) := by decide +kernel
theorem dX6_alter_11 : decode cX6_alter 11 = .ok (.getfield 12, 3) := by decide +kernel
theorem dX6_alter_14 : decode cX6_alter 14 = .ok (.getfield 102, 3) := by decide +kernel
theorem dX6_alter_17 : decode cX6_alter 17 = .ok (.iload_n 1, 1) := by decide +kernel
theorem dX6_alter_18 : decode cX6_alter 18 = .ok (.iconst 0, 1) := by decide +kernel
theorem dX6_alter_19 : decode cX6_alter 19 = .ok (.aload_n 0, 1) := by decide +kernel
theorem dX6_alter_20 : decode cX6_alter 20 = .ok (.getfield 12, 3) := by decide +kernel
theorem dX6_alter_23 : decode cX6_alter 23 = .ok (.getfield 102, 3) := by decide +kernel
theorem dX6_alter_26 : decode cX6_alter 26 = .ok (.iload_n 1, 1) := by decide +kernel
theorem dX6_alter_27 : decode cX6_alter 27 = .ok (.iaload, 1) := by decide +kernel
theorem dX6_alter_28 : decode cX6_alter 28 = .ok (.iload_n 2, 1) := by decide +kernel
theorem dX6_alter_29 : decode cX6_alter 29 = .ok (.iadd, 1) := by decide +kernel
theorem dX6_alter_30 : decode cX6_alter 30 = .ok (.iload_n 3, 1) := by decide +kernel
theorem dX6_alter_31 : decode cX6_alter 31 = .ok (.invokestatic 105, 3) := by decide +kernel
theorem dX6_alter_34 : decode cX6_alter 34 = .ok (.invokestatic 111, 3) := by decide +kernel
theorem dX6_alter_37 : decode cX6_alter 37 = .ok (.iastore, 1) := by decide +kernel
theorem dX6_alter_38 : decode cX6_alter 38 = .ok (.return_, 1) := by decide +kernel
theorem dX6_holds_0 : decode cX6_holds 0 = .ok (.iload_n 1, 1) := by decide +kernel
theorem dX6_holds_1 : decode cX6_holds 1 = .ok (.tableswitch 118 0 2 #[27, 54, 86], 27) := by decide +kernel
theorem dX6_holds_28 : decode cX6_holds 28 = .ok (.aload_n 0, 1) := by decide +kernel
theorem dX6_holds_29 : decode cX6_holds 29 = .ok (.invokevirtual 92, 3) := by decide +kernel
theorem dX6_holds_32 : decode cX6_holds 32 = .ok (.istore_n 2, 1) := by decide +kernel
theorem dX6_holds_33 : decode cX6_holds 33 = .ok (.iload_n 2, 1) := by decide +kernel
theorem dX6_holds_34 : decode cX6_holds 34 = .ok (.invokestatic 99, 3) := by decide +kernel
theorem dX6_holds_37 : decode cX6_holds 37 = .ok (.ifCond .eq 16, 3) := by decide +kernel
theorem dX6_holds_40 : decode cX6_holds 40 = .ok (.aload_n 0, 1) := by decide +kernel
theorem dX6_holds_41 : decode cX6_holds 41 = .ok (.getfield 18, 3) := by decide +kernel
theorem dX6_holds_44 : decode cX6_holds 44 = .ok (.iload_n 2, 1) := by decide +kernel
theorem dX6_holds_45 : decode cX6_holds 45 = .ok (.iaload, 1) := by decide +kernel
theorem dX6_holds_46 : decode cX6_holds 46 = .ok (.ifCond .le 7, 3) := by decide +kernel
theorem dX6_holds_49 : decode cX6_holds 49 = .ok (.iconst 1, 1) := by decide +kernel
theorem dX6_holds_50 : decode cX6_holds 50 = .ok (.goto 4, 3) := by decide +kernel
theorem dX6_holds_53 : decode cX6_holds 53 = .ok (.iconst 0, 1) := by decide +kernel
theorem dX6_holds_54 : decode cX6_holds 54 = .ok (.ireturn, 1) := by decide +kernel
theorem dX6_holds_55 : decode cX6_holds 55 = .ok (.aload_n 0, 1) := by decide +kernel
theorem dX6_holds_56 : decode cX6_holds 56 = .ok (.getfield 12, 3) := by decide +kernel
theorem dX6_holds_59 : decode cX6_holds 59 = .ok (.aload_n 0, 1) := by decide +kernel
theorem dX6_holds_60 : decode cX6_holds 60 = .ok (.getfield 47, 3) := by decide +kernel
theorem dX6_holds_63 : decode cX6_holds 63 = .ok (.aload_n 0, 1) := by decide +kernel
theorem dX6_holds_64 : decode cX6_holds 64 = .ok (.getfield 50, 3) := by decide +kernel
theorem dX6_holds_67 : decode cX6_holds 67 = .ok (.ifCond .eq 7, 3) := by decide +kernel
theorem dX6_holds_70 : decode cX6_holds 70 = .ok (.iconst 1, 1) := by decide +kernel
theorem dX6_holds_71 : decode cX6_holds 71 = .ok (.goto 4, 3) := by decide +kernel
theorem dX6_holds_74 : decode cX6_holds 74 = .ok (.iconst 0, 1) := by decide +kernel
theorem dX6_holds_75 : decode cX6_holds 75 = .ok (.invokevirtual 114, 3) := by decide +kernel
theorem dX6_holds_78 : decode cX6_holds 78 = .ok (.ifCond .le 7, 3) := by decide +kernel
theorem dX6_holds_81 : decode cX6_holds 81 = .ok (.iconst 1, 1) := by decide +kernel
theorem dX6_holds_82 : decode cX6_holds 82 = .ok (.goto 4, 3) := by decide +kernel
theorem dX6_holds_85 : decode cX6_holds 85 = .ok (.iconst 0, 1) := by decide +kernel
theorem dX6_holds_86 : decode cX6_holds 86 = .ok (.ireturn, 1) := by decide +kernel
theorem dX6_holds_87 : decode cX6_holds 87 = .ok (.aload_n 0, 1) := by decide +kernel
theorem dX6_holds_88 : decode cX6_holds 88 = .ok (.getfield 12, 3) := by decide +kernel
theorem dX6_holds_91 : decode cX6_holds 91 = .ok (.aload_n 0, 1) := by decide +kernel
theorem dX6_holds_92 : decode cX6_holds 92 = .ok (.getfield 47, 3) := by decide +kernel
theorem dX6_holds_95 : decode cX6_holds 95 = .ok (.aload_n 0, 1) := by decide +kernel
theorem dX6_holds_96 : decode cX6_holds 96 = .ok (.getfield 50, 3) := by decide +kernel
theorem dX6_holds_99 : decode cX6_holds 99 = .ok (.ifCond .eq 7, 3) := by decide +kernel
theorem dX6_holds_102 : decode cX6_holds 102 = .ok (.iconst 0, 1) := by decide +kernel
theorem dX6_holds_103 : decode cX6_holds 103 = .ok (.goto 4, 3) := by decide +kernel
theorem dX6_holds_106 : decode cX6_holds 106 = .ok (.iconst 1, 1) := by decide +kernel
theorem dX6_holds_107 : decode cX6_holds 107 = .ok (.invokevirtual 114, 3) := by decide +kernel
theorem dX6_holds_110 : decode cX6_holds 110 = .ok (.ifCond .le 7, 3) := by decide +kernel
theorem dX6_holds_113 : decode cX6_holds 113 = .ok (.iconst 1, 1) := by decide +kernel
theorem dX6_holds_114 : decode cX6_holds 114 = .ok (.goto 4, 3) := by decide +kernel
theorem dX6_holds_117 : decode cX6_holds 117 = .ok (.iconst 0, 1) := by decide +kernel
theorem dX6_holds_118 : decode cX6_holds 118 = .ok (.ireturn, 1) := by decide +kernel
theorem dX6_holds_119 : decode cX6_holds 119 = .ok (.iload_n 1, 1) := by decide +kernel
theorem dX6_holds_120 : decode cX6_holds 120 = .ok (.iconst 3, 1) := by decide +kernel
theorem dX6_holds_121 : decode cX6_holds 121 = .ok (.isub, 1) := by decide +kernel
theorem dX6_holds_122 : decode cX6_holds 122 = .ok (.istore_n 3, 1) := by decide +kernel
theorem dX6_holds_123 : decode cX6_holds 123 = .ok (.iload_n 3, 1) := by decide +kernel
theorem dX6_holds_124 : decode cX6_holds 124 = .ok (.ifCond .lt 27, 3) := by decide +kernel
theorem dX6_holds_127 : decode cX6_holds 127 = .ok (.iload_n 3, 1) := by decide +kernel
theorem dX6_holds_128 : decode cX6_holds 128 = .ok (.iconst 4, 1) := by decide +kernel
theorem dX6_holds_129 : decode cX6_holds 129 = .ok (.if_icmp .ge 22, 3) := by decide +kernel
theorem dX6_holds_132 : decode cX6_holds 132 = .ok (.aload_n 0, 1) := by decide +kernel
theorem dX6_holds_133 : decode cX6_holds 133 = .ok (.getfield 12, 3) := by decide +kernel
theorem dX6_holds_136 : decode cX6_holds 136 = .ok (.iload_n 3, 1) := by decide +kernel
theorem dX6_holds_137 : decode cX6_holds 137 = .ok (.aload_n 0, 1) := by decide +kernel
theorem dX6_holds_138 : decode cX6_holds 138 = .ok (.getfield 47, 3) := by decide +kernel
theorem dX6_holds_141 : decode cX6_holds 141 = .ok (.invokevirtual 117, 3) := by decide +kernel
theorem dX6_holds_144 : decode cX6_holds 144 = .ok (.ifCond .eq 7, 3) := by decide +kernel
theorem dX6_holds_147 : decode cX6_holds 147 = .ok (.iconst 1, 1) := by decide +kernel
theorem dX6_holds_148 : decode cX6_holds 148 = .ok (.goto 4, 3) := by decide +kernel
theorem dX6_holds_151 : decode cX6_holds 151 = .ok (.iconst 0, 1) := by decide +kernel
theorem dX6_holds_152 : decode cX6_holds 152 = .ok (.ireturn, 1) := by decide +kernel
theorem dX6_cell_0 : decode cX6_cell 0 = .ok (.aload_n 0, 1) := by decide +kernel
theorem dX6_cell_1 : decode cX6_cell 1 = .ok (.getfield 12, 3) := by decide +kernel
theorem dX6_cell_4 : decode cX6_cell 4 = .ok (.aload_n 0, 1) := by decide +kernel
theorem dX6_cell_5 : decode cX6_cell 5 = .ok (.getfield 47, 3) := by decide +kernel
theorem dX6_cell_8 : decode cX6_cell 8 = .ok (.aload_n 0, 1) := by decide +kernel
theorem dX6_cell_9 : decode cX6_cell 9 = .ok (.getfield 50, 3) := by decide +kernel
theorem dX6_cell_12 : decode cX6_cell 12 = .ok (.ifCond .eq 7, 3) := by decide +kernel
theorem dX6_cell_15 : decode cX6_cell 15 = .ok (.iconst 1, 1) := by decide +kernel
theorem dX6_cell_16 : decode cX6_cell 16 = .ok (.goto 4, 3) := by decide +kernel
theorem dX6_cell_19 : decode cX6_cell 19 = .ok (.iconst 0, 1) := by decide +kernel
theorem dX6_cell_20 : decode cX6_cell 20 = .ok (.invokevirtual 114, 3) := by decide +kernel
theorem dX6_cell_23 : decode cX6_cell 23 = .ok (.aload_n 0, 1) := by decide +kernel
theorem dX6_cell_24 : decode cX6_cell 24 = .ok (.getfield 12, 3) := by decide +kernel
theorem dX6_cell_27 : decode cX6_cell 27 = .ok (.aload_n 0, 1) := by decide +kernel
theorem dX6_cell_28 : decode cX6_cell 28 = .ok (.getfield 47, 3) := by decide +kernel
theorem dX6_cell_31 : decode cX6_cell 31 = .ok (.aload_n 0, 1) := by decide +kernel
theorem dX6_cell_32 : decode cX6_cell 32 = .ok (.getfield 50, 3) := by decide +kernel
theorem dX6_cell_35 : decode cX6_cell 35 = .ok (.ifCond .eq 7, 3) := by decide +kernel
theorem dX6_cell_38 : decode cX6_cell 38 = .ok (.iconst 0, 1) := by decide +kernel
theorem dX6_cell_39 : decode cX6_cell 39 = .ok (.goto 4, 3) := by decide +kernel
theorem dX6_cell_42 : decode cX6_cell 42 = .ok (.iconst 1, 1) := by decide +kernel
theorem dX6_cell_43 : decode cX6_cell 43 = .ok (.invokevirtual 114, 3) := by decide +kernel
theorem dX6_cell_46 : decode cX6_cell 46 = .ok (.invokestatic 120, 3) := by decide +kernel
theorem dX6_cell_49 : decode cX6_cell 49 = .ok (.ireturn, 1) := by decide +kernel
theorem dX7_init_0 : decode cX7_init 0 = .ok (.aload_n 0, 1) := by decide +kernel
theorem dX7_init_1 : decode cX7_init 1 = .ok (.invokespecial 5, 3) := by decide +kernel
theorem dX7_init_4 : decode cX7_init 4 = .ok (.aload_n 0, 1) := by decide +kernel
theorem dX7_init_5 : decode cX7_init 5 = .ok (.bipush 100, 2) := by decide +kernel
theorem dX7_init_7 : decode cX7_init 7 = .ok (.newarray .int, 2) := by decide +kernel
theorem dX7_init_9 : decode cX7_init 9 = .ok (.putfield 13, 3) := by decide +kernel
theorem dX7_init_12 : decode cX7_init 12 = .ok (.aload_n 0, 1) := by decide +kernel
theorem dX7_init_13 : decode cX7_init 13 = .ok (.bipush 100, 2) := by decide +kernel
theorem dX7_init_15 : decode cX7_init 15 = .ok (.newarray .int, 2) := by decide +kernel
theorem dX7_init_17 : decode cX7_init 17 = .ok (.putfield 17, 3) := by decide +kernel
theorem dX7_init_20 : decode cX7_init 20 = .ok (.aload_n 0, 1) := by decide +kernel
theorem dX7_init_21 : decode cX7_init 21 = .ok (.bipush 100, 2) := by decide +kernel
theorem dX7_init_23 : decode cX7_init 23 = .ok (.newarray .int, 2) := by decide +kernel
theorem dX7_init_25 : decode cX7_init 25 = .ok (.putfield 20, 3) := by decide +kernel
theorem dX7_init_28 : decode cX7_init 28 = .ok (.aload_n 0, 1) := by decide +kernel
theorem dX7_init_29 : decode cX7_init 29 = .ok (.bipush 100, 2) := by decide +kernel
theorem dX7_init_31 : decode cX7_init 31 = .ok (.newarray .int, 2) := by decide +kernel
theorem dX7_init_33 : decode cX7_init 33 = .ok (.putfield 23, 3) := by decide +kernel
theorem dX7_init_36 : decode cX7_init 36 = .ok (.aload_n 0, 1) := by decide +kernel
theorem dX7_init_37 : decode cX7_init 37 = .ok (.iconst 5, 1) := by decide +kernel
theorem dX7_init_38 : decode cX7_init 38 = .ok (.newarray .int, 2) := by decide +kernel
theorem dX7_init_40 : decode cX7_init 40 = .ok (.putfield 26, 3) := by decide +kernel
theorem dX7_init_43 : decode cX7_init 43 = .ok (.return_, 1) := by decide +kernel
theorem dX7_read_0 : decode cX7_read 0 = .ok (.aload_n 0, 1) := by decide +kernel
theorem dX7_read_1 : decode cX7_read 1 = .ok (.iconst 0, 1) := by decide +kernel
theorem dX7_read_2 : decode cX7_read 2 = .ok (.putfield 29, 3) := by decide +kernel
theorem dX7_read_5 : decode cX7_read 5 = .ok (.aload_n 0, 1) := by decide +kernel
theorem dX7_read_6 : decode cX7_read 6 = .ok (.iconst 0, 1) := by decide +kernel
theorem dX7_read_7 : decode cX7_read 7 = .ok (.putfield 33, 3) := by decide +kernel
theorem dX7_read_10 : decode cX7_read 10 = .ok (.iconst 0, 1) := by decide +kernel
theorem dX7_read_11 : decode cX7_read 11 = .ok (.istore_n 2, 1) := by decide +kernel
theorem dX7_read_12 : decode cX7_read 12 = .ok (.iload_n 2, 1) := by decide +kernel
theorem dX7_read_13 : decode cX7_read 13 = .ok (.sipush 400, 3) := by decide +kernel
theorem dX7_read_16 : decode cX7_read 16 = .ok (.if_icmp .ge 52, 3) := by decide +kernel
theorem dX7_read_19 : decode cX7_read 19 = .ok (.aload_n 1, 1) := by decide +kernel
theorem dX7_read_20 : decode cX7_read 20 = .ok (.invokevirtual 36, 3) := by decide +kernel
theorem dX7_read_23 : decode cX7_read 23 = .ok (.ifCond .ne 45, 3) := by decide +kernel
theorem dX7_read_26 : decode cX7_read 26 = .ok (.aload_n 0, 1) := by decide +kernel
theorem dX7_read_27 : decode cX7_read 27 = .ok (.getfield 33, 3) := by decide +kernel
theorem dX7_read_30 : decode cX7_read 30 = .ok (.ifCond .le 20, 3) := by decide +kernel
theorem dX7_read_33 : decode cX7_read 33 = .ok (.aload_n 1, 1) := by decide +kernel
theorem dX7_read_34 : decode cX7_read 34 = .ok (.bipush 41, 2) := by decide +kernel
theorem dX7_read_36 : decode cX7_read 36 = .ok (.invokevirtual 40, 3) := by decide +kernel
theorem dX7_read_39 : decode cX7_read 39 = .ok (.ifCond .eq 11, 3) := by decide +kernel
theorem dX7_read_42 : decode cX7_read 42 = .ok (.aload_n 0, 1) := by decide +kernel
theorem dX7_read_43 : decode cX7_read 43 = .ok (.aload_n 1, 1) := by decide +kernel
theorem dX7_read_44 : decode cX7_read 44 = .ok (.invokevirtual 44, 3) := by decide +kernel
theorem dX7_read_47 : decode cX7_read 47 = .ok (.goto 8, 3) := by decide +kernel
theorem dX7_read_50 : decode cX7_read 50 = .ok (.aload_n 0, 1) := by decide +kernel
theorem dX7_read_51 : decode cX7_read 51 = .ok (.aload_n 1, 1) := by decide +kernel
theorem dX7_read_52 : decode cX7_read 52 = .ok (.invokevirtual 48, 3) := by decide +kernel
theorem dX7_read_55 : decode cX7_read 55 = .ok (.istore_n 3, 1) := by decide +kernel
theorem dX7_read_56 : decode cX7_read 56 = .ok (.iload_n 3, 1) := by decide +kernel
theorem dX7_read_57 : decode cX7_read 57 = .ok (.ifCond .ne 5, 3) := by decide +kernel
theorem dX7_read_60 : decode cX7_read 60 = .ok (.iconst 0, 1) := by decide +kernel
theorem dX7_read_61 : decode cX7_read 61 = .ok (.ireturn, 1) := by decide +kernel
theorem dX7_read_62 : decode cX7_read 62 = .ok (.iinc 2 1, 3) := by decide +kernel
theorem dX7_read_65 : decode cX7_read 65 = .ok (.goto (-53), 3) := by decide +kernel
theorem dX7_read_68 : decode cX7_read 68 = .ok (.aload_n 0, 1) := by decide +kernel
theorem dX7_read_69 : decode cX7_read 69 = .ok (.getfield 33, 3) := by decide +kernel
theorem dX7_read_72 : decode cX7_read 72 = .ok (.ifCond .eq 11, 3) := by decide +kernel
theorem dX7_read_75 : decode cX7_read 75 = .ok (.aload_n 1, 1) := by decide +kernel
theorem dX7_read_76 : decode cX7_read 76 = .ok (.iconst 1, 1) := by decide +kernel
theorem dX7_read_77 : decode cX7_read 77 = .ok (.invokevirtual 51, 3) := by decide +kernel
theorem dX7_read_80 : decode cX7_read 80 = .ok (.ifCond .eq 7, 3) := by decide +kernel
theorem dX7_read_83 : decode cX7_read 83 = .ok (.iconst 1, 1) := by decide +kernel
theorem dX7_read_84 : decode cX7_read 84 = .ok (.goto 4, 3) := by decide +kernel
theorem dX7_read_87 : decode cX7_read 87 = .ok (.iconst 0, 1) := by decide +kernel
theorem dX7_read_88 : decode cX7_read 88 = .ok (.ireturn, 1) := by decide +kernel
theorem dX7_readAct_0 : decode cX7_readAct 0 = .ok (.aload_n 1, 1) := by decide +kernel
theorem dX7_readAct_1 : decode cX7_readAct 1 = .ok (.invokestatic 55, 3) := by decide +kernel
theorem dX7_readAct_4 : decode cX7_readAct 4 = .ok (.istore_n 2, 1) := by decide +kernel
theorem dX7_readAct_5 : decode cX7_readAct 5 = .ok (.iload_n 2, 1) := by decide +kernel
theorem dX7_readAct_6 : decode cX7_readAct 6 = .ok (.iconst (-1), 1) := by decide +kernel
theorem dX7_readAct_7 : decode cX7_readAct 7 = .ok (.if_icmp .ne 9, 3) := by decide +kernel
theorem dX7_readAct_10 : decode cX7_readAct 10 = .ok (.aload_n 1, 1) := by decide +kernel
theorem dX7_readAct_11 : decode cX7_readAct 11 = .ok (.iconst 1, 1) := by decide +kernel
theorem dX7_readAct_12 : decode cX7_readAct 12 = .ok (.invokevirtual 51, 3) := by decide +kernel
theorem dX7_readAct_15 : decode cX7_readAct 15 = .ok (.ireturn, 1) := by decide +kernel
theorem dX7_readAct_16 : decode cX7_readAct 16 = .ok (.iload_n 2, 1) := by decide +kernel
theorem dX7_readAct_17 : decode cX7_readAct 17 = .ok (.iconst 5, 1) := by decide +kernel
theorem dX7_readAct_18 : decode cX7_readAct 18 = .ok (.if_icmp .eq 9, 3) := by decide +kernel
theorem dX7_readAct_21 : decode cX7_readAct 21 = .ok (.iload_n 2, 1) := by decide +kernel
theorem dX7_readAct_22 : decode cX7_readAct 22 = .ok (.bipush 6, 2) := by decide +kernel
theorem dX7_readAct_24 : decode cX7_readAct 24 = .ok (.if_icmp .ne 11, 3) := by decide +kernel
theorem dX7_readAct_27 : decode cX7_readAct 27 = .ok (.aload_n 0, 1) := by decide +kernel
theorem dX7_readAct_28 : decode cX7_readAct 28 = .ok (.getfield 33, 3) := by decide +kernel
theorem dX7_readAct_31 : decode cX7_readAct 31 = .ok (.iconst 5, 1) := by decide +kernel
theorem dX7_readAct_32 : decode cX7_readAct 32 = .ok (.if_icmp .ge 11, 3) := by decide +kernel
theorem dX7_readAct_35 : decode cX7_readAct 35 = .ok (.aload_n 0, 1) := by decide +kernel
theorem dX7_readAct_36 : decode cX7_readAct 36 = .ok (.iload_n 2, 1) := by decide +kernel
theorem dX7_readAct_37 : decode cX7_readAct 37 = .ok (.invokevirtual 59, 3) := by decide +kernel
theorem dX7_readAct_40 : decode cX7_readAct 40 = .ok (.ifCond .ne 9, 3) := by decide +kernel
theorem dX7_readAct_43 : decode cX7_readAct 43 = .ok (.aload_n 1, 1) := by decide +kernel
theorem dX7_readAct_44 : decode cX7_readAct 44 = .ok (.iconst 2, 1) := by decide +kernel
theorem dX7_readAct_45 : decode cX7_readAct 45 = .ok (.invokevirtual 51, 3) := by decide +kernel
theorem dX7_readAct_48 : decode cX7_readAct 48 = .ok (.ireturn, 1) := by decide +kernel
theorem dX7_readAct_49 : decode cX7_readAct 49 = .ok (.aload_n 1, 1) := by decide +kernel
theorem dX7_readAct_50 : decode cX7_readAct 50 = .ok (.invokevirtual 62, 3) := by decide +kernel
theorem dX7_readAct_53 : decode cX7_readAct 53 = .ok (.iload_n 2, 1) := by decide +kernel
theorem dX7_readAct_54 : decode cX7_readAct 54 = .ok (.tableswitch 115 0 6 #[42, 42, 52, 60, 115, 68, 93], 42) := by decide +kernel
theorem dX7_readAct_96 : decode cX7_readAct 96 = .ok (.aload_n 0, 1) := by decide +kernel
theorem dX7_readAct_97 : decode cX7_readAct 97 = .ok (.aload_n 1, 1) := by decide +kernel
theorem dX7_readAct_98 : decode cX7_readAct 98 = .ok (.iconst 1, 1) := by decide +kernel
theorem dX7_readAct_99 : decode cX7_readAct 99 = .ok (.sipush 200, 3) := by decide +kernel
theorem dX7_readAct_102 : decode cX7_readAct 102 = .ok (.invokevirtual 65, 3) := by decide +kernel
theorem dX7_readAct_105 : decode cX7_readAct 105 = .ok (.ireturn, 1) := by decide +kernel
theorem dX7_readAct_106 : decode cX7_readAct 106 = .ok (.aload_n 0, 1) := by decide +kernel
theorem dX7_readAct_107 : decode cX7_readAct 107 = .ok (.aload_n 1, 1) := by decide +kernel
theorem dX7_readAct_108 : decode cX7_readAct 108 = .ok (.bipush 9, 2) := by decide +kernel
theorem dX7_readAct_110 : decode cX7_readAct 110 = .ok (.invokevirtual 69, 3) := by decide +kernel
theorem dX7_readAct_113 : decode cX7_readAct 113 = .ok (.ireturn, 1) := by decide +kernel
theorem dX7_readAct_114 : decode cX7_readAct 114 = .ok (.aload_n 0, 1) := by decide +kernel
theorem dX7_readAct_115 : decode cX7_readAct 115 = .ok (.aload_n 1, 1) := by decide +kernel
theorem dX7_readAct_116 : decode cX7_readAct 116 = .ok (.bipush 90, 2) := by decide +kernel
theorem dX7_readAct_118 : decode cX7_readAct 118 = .ok (.invokevirtual 69, 3) := by decide +kernel
theorem dX7_readAct_121 : decode cX7_readAct 121 = .ok (.ireturn, 1) := by decide +kernel
theorem dX7_readAct_122 : decode cX7_readAct 122 = .ok (.aload_n 0, 1) := by decide +kernel
theorem dX7_readAct_123 : decode cX7_readAct 123 = .ok (.aload_n 1, 1) := by decide +kernel
theorem dX7_readAct_124 : decode cX7_readAct 124 = .ok (.iconst 0, 1) := by decide +kernel
theorem dX7_readAct_125 : decode cX7_readAct 125 = .ok (.bipush 20, 2) := by decide +kernel
theorem dX7_readAct_127 : decode cX7_readAct 127 = .ok (.invokevirtual 65, 3) := by decide +kernel
theorem dX7_readAct_130 : decode cX7_readAct 130 = .ok (.ifCond .eq 15, 3) := by decide +kernel
theorem dX7_readAct_133 : decode cX7_readAct 133 = .ok (.aload_n 0, 1) := by decide +kernel
theorem dX7_readAct_134 : decode cX7_readAct 134 = .ok (.aload_n 1, 1) := by decide +kernel
theorem dX7_readAct_135 : decode cX7_readAct 135 = .ok (.invokevirtual 73, 3) := by decide +kernel
theorem dX7_readAct_138 : decode cX7_readAct 138 = .ok (.ifCond .eq 7, 3) := by decide +kernel
theorem dX7_readAct_141 : decode cX7_readAct 141 = .ok (.iconst 1, 1) := by decide +kernel
theorem dX7_readAct_142 : decode cX7_readAct 142 = .ok (.goto 4, 3) := by decide +kernel
theorem dX7_readAct_145 : decode cX7_readAct 145 = .ok (.iconst 0, 1) := by decide +kernel
theorem dX7_readAct_146 : decode cX7_readAct 146 = .ok (.ireturn, 1) := by decide +kernel
theorem dX7_readAct_147 : decode cX7_readAct 147 = .ok (.aload_n 0, 1) := by decide +kernel
theorem dX7_readAct_148 : decode cX7_readAct 148 = .ok (.aload_n 1, 1) := by decide +kernel
theorem dX7_readAct_149 : decode cX7_readAct 149 = .ok (.invokevirtual 76, 3) := by decide +kernel
theorem dX7_readAct_152 : decode cX7_readAct 152 = .ok (.ifCond .eq 15, 3) := by decide +kernel
theorem dX7_readAct_155 : decode cX7_readAct 155 = .ok (.aload_n 0, 1) := by decide +kernel
theorem dX7_readAct_156 : decode cX7_readAct 156 = .ok (.aload_n 1, 1) := by decide +kernel
theorem dX7_readAct_157 : decode cX7_readAct 157 = .ok (.invokevirtual 73, 3) := by decide +kernel
theorem dX7_readAct_160 : decode cX7_readAct 160 = .ok (.ifCond .eq 7, 3) := by decide +kernel
theorem dX7_readAct_163 : decode cX7_readAct 163 = .ok (.iconst 1, 1) := by decide +kernel
theorem dX7_readAct_164 : decode cX7_readAct 164 = .ok (.goto 4, 3) := by decide +kernel
theorem dX7_readAct_167 : decode cX7_readAct 167 = .ok (.iconst 0, 1) := by decide +kernel
theorem dX7_readAct_168 : decode cX7_readAct 168 = .ok (.ireturn, 1) := by decide +kernel
theorem dX7_readAct_169 : decode cX7_readAct 169 = .ok (.iconst 1, 1) := by decide +kernel
theorem dX7_readAct_170 : decode cX7_readAct 170 = .ok (.ireturn, 1) := by decide +kernel
theorem dX7_verbTold_0 : decode cX7_verbTold 0 = .ok (.aload_n 0, 1) := by decide +kernel
theorem dX7_verbTold_1 : decode cX7_verbTold 1 = .ok (.ldc 79, 2) := by decide +kernel
theorem dX7_verbTold_3 : decode cX7_verbTold 3 = .ok (.invokevirtual 81, 3) := by decide +kernel
theorem dX7_verbTold_6 : decode cX7_verbTold 6 = .ok (.ifCond .eq 5, 3) := by decide +kernel
theorem dX7_verbTold_9 : decode cX7_verbTold 9 = .ok (.iconst 0, 1) := by decide +kernel
theorem dX7_verbTold_10 : decode cX7_verbTold 10 = .ok (.ireturn, 1) := by decide +kernel
theorem dX7_verbTold_11 : decode cX7_verbTold 11 = .ok (.aload_n 0, 1) := by decide +kernel
theorem dX7_verbTold_12 : decode cX7_verbTold 12 = .ok (.ldc 85, 2) := by decide +kernel
theorem dX7_verbTold_14 : decode cX7_verbTold 14 = .ok (.invokevirtual 81, 3) := by decide +kernel
theorem dX7_verbTold_17 : decode cX7_verbTold 17 = .ok (.ifCond .eq 5, 3) := by decide +kernel
theorem dX7_verbTold_20 : decode cX7_verbTold 20 = .ok (.iconst 1, 1) := by decide +kernel
theorem dX7_verbTold_21 : decode cX7_verbTold 21 = .ok (.ireturn, 1) := by decide +kernel
theorem dX7_verbTold_22 : decode cX7_verbTold 22 = .ok (.aload_n 0, 1) := by decide +kernel
theorem dX7_verbTold_23 : decode cX7_verbTold 23 = .ok (.ldc 87, 2) := by decide +kernel
theorem dX7_verbTold_25 : decode cX7_verbTold 25 = .ok (.invokevirtual 81, 3) := by decide +kernel
theorem dX7_verbTold_28 : decode cX7_verbTold 28 = .ok (.ifCond .eq 5, 3) := by decide +kernel
theorem dX7_verbTold_31 : decode cX7_verbTold 31 = .ok (.iconst 2, 1) := by decide +kernel
theorem dX7_verbTold_32 : decode cX7_verbTold 32 = .ok (.ireturn, 1) := by decide +kernel
theorem dX7_verbTold_33 : decode cX7_verbTold 33 = .ok (.aload_n 0, 1) := by decide +kernel
theorem dX7_verbTold_34 : decode cX7_verbTold 34 = .ok (.ldc 89, 2) := by decide +kernel
theorem dX7_verbTold_36 : decode cX7_verbTold 36 = .ok (.invokevirtual 81, 3) := by decide +kernel
theorem dX7_verbTold_39 : decode cX7_verbTold 39 = .ok (.ifCond .eq 5, 3) := by decide +kernel
theorem dX7_verbTold_42 : decode cX7_verbTold 42 = .ok (.iconst 3, 1) := by decide +kernel
theorem dX7_verbTold_43 : decode cX7_verbTold 43 = .ok (.ireturn, 1) := by decide +kernel
theorem dX7_verbTold_44 : decode cX7_verbTold 44 = .ok (.aload_n 0, 1) := by decide +kernel
theorem dX7_verbTold_45 : decode cX7_verbTold 45 = .ok (.ldc 90, 2) := by decide +kernel
theorem dX7_verbTold_47 : decode cX7_verbTold 47 = .ok (.invokevirtual 81, 3) := by decide +kernel
theorem dX7_verbTold_50 : decode cX7_verbTold 50 = .ok (.ifCond .eq 5, 3) := by decide +kernel
theorem dX7_verbTold_53 : decode cX7_verbTold 53 = .ok (.iconst 4, 1) := by decide +kernel
theorem dX7_verbTold_54 : decode cX7_verbTold 54 = .ok (.ireturn, 1) := by decide +kernel
theorem dX7_verbTold_55 : decode cX7_verbTold 55 = .ok (.aload_n 0, 1) := by decide +kernel
theorem dX7_verbTold_56 : decode cX7_verbTold 56 = .ok (.ldc 92, 2) := by decide +kernel
theorem dX7_verbTold_58 : decode cX7_verbTold 58 = .ok (.invokevirtual 81, 3) := by decide +kernel
theorem dX7_verbTold_61 : decode cX7_verbTold 61 = .ok (.ifCond .eq 5, 3) := by decide +kernel
theorem dX7_verbTold_64 : decode cX7_verbTold 64 = .ok (.iconst 5, 1) := by decide +kernel
theorem dX7_verbTold_65 : decode cX7_verbTold 65 = .ok (.ireturn, 1) := by decide +kernel
theorem dX7_verbTold_66 : decode cX7_verbTold 66 = .ok (.aload_n 0, 1) := by decide +kernel
theorem dX7_verbTold_67 : decode cX7_verbTold 67 = .ok (.ldc 94, 2) := by decide +kernel
theorem dX7_verbTold_69 : decode cX7_verbTold 69 = .ok (.invokevirtual 81, 3) := by decide +kernel
theorem dX7_verbTold_72 : decode cX7_verbTold 72 = .ok (.ifCond .eq 8, 3) := by decide +kernel
theorem dX7_verbTold_75 : decode cX7_verbTold 75 = .ok (.bipush 6, 2) := by decide +kernel
theorem dX7_verbTold_77 : decode cX7_verbTold 77 = .ok (.goto 4, 3) := by decide +kernel
theorem dX7_verbTold_80 : decode cX7_verbTold 80 = .ok (.iconst (-1), 1) := by decide +kernel
theorem dX7_verbTold_81 : decode cX7_verbTold 81 = .ok (.ireturn, 1) := by decide +kernel
theorem dX7_addStep_0 : decode cX7_addStep 0 = .ok (.aload_n 0, 1) := by decide +kernel
theorem dX7_addStep_1 : decode cX7_addStep 1 = .ok (.getfield 29, 3) := by decide +kernel
theorem dX7_addStep_4 : decode cX7_addStep 4 = .ok (.bipush 100, 2) := by decide +kernel
theorem dX7_addStep_6 : decode cX7_addStep 6 = .ok (.if_icmp .lt 5, 3) := by decide +kernel
theorem dX7_addStep_9 : decode cX7_addStep 9 = .ok (.iconst 0, 1) := by decide +kernel
theorem dX7_addStep_10 : decode cX7_addStep 10 = .ok (.ireturn, 1) := by decide +kernel
theorem dX7_addStep_11 : decode cX7_addStep 11 = .ok (.aload_n 0, 1) := by decide +kernel
theorem dX7_addStep_12 : decode cX7_addStep 12 = .ok (.getfield 13, 3) := by decide +kernel
theorem dX7_addStep_15 : decode cX7_addStep 15 = .ok (.aload_n 0, 1) := by decide +kernel
theorem dX7_addStep_16 : decode cX7_addStep 16 = .ok (.getfield 29, 3) := by decide +kernel
theorem dX7_addStep_19 : decode cX7_addStep 19 = .ok (.iload_n 1, 1) := by decide +kernel
theorem dX7_addStep_20 : decode cX7_addStep 20 = .ok (.iastore, 1) := by decide +kernel
theorem dX7_addStep_21 : decode cX7_addStep 21 = .ok (.aload_n 0, 1) := by decide +kernel
theorem dX7_addStep_22 : decode cX7_addStep 22 = .ok (.getfield 17, 3) := by decide +kernel
theorem dX7_addStep_25 : decode cX7_addStep 25 = .ok (.aload_n 0, 1) := by decide +kernel
theorem dX7_addStep_26 : decode cX7_addStep 26 = .ok (.getfield 29, 3) := by decide +kernel
theorem dX7_addStep_29 : decode cX7_addStep 29 = .ok (.iconst 0, 1) := by decide +kernel
theorem dX7_addStep_30 : decode cX7_addStep 30 = .ok (.iastore, 1) := by decide +kernel
theorem dX7_addStep_31 : decode cX7_addStep 31 = .ok (.aload_n 0, 1) := by decide +kernel
theorem dX7_addStep_32 : decode cX7_addStep 32 = .ok (.getfield 20, 3) := by decide +kernel
theorem dX7_addStep_35 : decode cX7_addStep 35 = .ok (.aload_n 0, 1) := by decide +kernel
theorem dX7_addStep_36 : decode cX7_addStep 36 = .ok (.getfield 29, 3) := by decide +kernel
theorem dX7_addStep_39 : decode cX7_addStep 39 = .ok (.iconst 0, 1) := by decide +kernel
theorem dX7_addStep_40 : decode cX7_addStep 40 = .ok (.iastore, 1) := by decide +kernel
theorem dX7_addStep_41 : decode cX7_addStep 41 = .ok (.aload_n 0, 1) := by decide +kernel
theorem dX7_addStep_42 : decode cX7_addStep 42 = .ok (.getfield 23, 3) := by decide +kernel
theorem dX7_addStep_45 : decode cX7_addStep 45 = .ok (.aload_n 0, 1) := by decide +kernel
theorem dX7_addStep_46 : decode cX7_addStep 46 = .ok (.getfield 29, 3) := by decide +kernel
theorem dX7_addStep_49 : decode cX7_addStep 49 = .ok (.iconst 0, 1) := by decide +kernel
theorem dX7_addStep_50 : decode cX7_addStep 50 = .ok (.iastore, 1) := by decide +kernel
theorem dX7_addStep_51 : decode cX7_addStep 51 = .ok (.aload_n 0, 1) := by decide +kernel
theorem dX7_addStep_52 : decode cX7_addStep 52 = .ok (.dup, 1) := by decide +kernel
theorem dX7_addStep_53 : decode cX7_addStep 53 = .ok (.getfield 29, 3) := by decide +kernel
theorem dX7_addStep_56 : decode cX7_addStep 56 = .ok (.iconst 1, 1) := by decide +kernel
theorem dX7_addStep_57 : decode cX7_addStep 57 = .ok (.iadd, 1) := by decide +kernel
theorem dX7_addStep_58 : decode cX7_addStep 58 = .ok (.putfield 29, 3) := by decide +kernel
theorem dX7_addStep_61 : decode cX7_addStep 61 = .ok (.iconst 1, 1) := by decide +kernel
theorem dX7_addStep_62 : decode cX7_addStep 62 = .ok (.ireturn, 1) := by decide +kernel
theorem dX7_readNumber_0 : decode cX7_readNumber 0 = .ok (.aload_n 1, 1) := by decide +kernel
theorem dX7_readNumber_1 : decode cX7_readNumber 1 = .ok (.iload_n 2, 1) := by decide +kernel
theorem dX7_readNumber_2 : decode cX7_readNumber 2 = .ok (.iload_n 3, 1) := by decide +kernel
theorem dX7_readNumber_3 : decode cX7_readNumber 3 = .ok (.invokevirtual 96, 3) := by decide +kernel
theorem dX7_readNumber_6 : decode cX7_readNumber 6 = .ok (.ifCond .ne 5, 3) := by decide +kernel
theorem dX7_readNumber_9 : decode cX7_readNumber 9 = .ok (.iconst 0, 1) := by decide +kernel
theorem dX7_readNumber_10 : decode cX7_readNumber 10 = .ok (.ireturn, 1) := by decide +kernel
theorem dX7_readNumber_11 : decode cX7_readNumber 11 = .ok (.aload_n 0, 1) := by decide +kernel
theorem dX7_readNumber_12 : decode cX7_readNumber 12 = .ok (.getfield 17, 3) := by decide +kernel
theorem dX7_readNumber_15 : decode cX7_readNumber 15 = .ok (.aload_n 0, 1) := by decide +kernel
theorem dX7_readNumber_16 : decode cX7_readNumber 16 = .ok (.getfield 29, 3) := by decide +kernel
theorem dX7_readNumber_19 : decode cX7_readNumber 19 = .ok (.iconst 1, 1) := by decide +kernel
theorem dX7_readNumber_20 : decode cX7_readNumber 20 = .ok (.isub, 1) := by decide +kernel
theorem dX7_readNumber_21 : decode cX7_readNumber 21 = .ok (.aload_n 1, 1) := by decide +kernel
theorem dX7_readNumber_22 : decode cX7_readNumber 22 = .ok (.getfield 100, 3) := by decide +kernel
theorem dX7_readNumber_25 : decode cX7_readNumber 25 = .ok (.iastore, 1) := by decide +kernel
theorem dX7_readNumber_26 : decode cX7_readNumber 26 = .ok (.iconst 1, 1) := by decide +kernel
theorem dX7_readNumber_27 : decode cX7_readNumber 27 = .ok (.ireturn, 1) := by decide +kernel
theorem dX7_readChange_0 : decode cX7_readChange 0 = .ok (.aload_n 0, 1) := by decide +kernel
theorem dX7_readChange_1 : decode cX7_readChange 1 = .ok (.aload_n 1, 1) := by decide +kernel
theorem dX7_readChange_2 : decode cX7_readChange 2 = .ok (.iconst 0, 1) := by decide +kernel
theorem dX7_readChange_3 : decode cX7_readChange 3 = .ok (.iconst 3, 1) := by decide +kernel
theorem dX7_readChange_4 : decode cX7_readChange 4 = .ok (.invokevirtual 65, 3) := by decide +kernel
theorem dX7_readChange_7 : decode cX7_readChange 7 = .ok (.ifCond .eq 11, 3) := by decide +kernel
theorem dX7_readChange_10 : decode cX7_readChange 10 = .ok (.aload_n 1, 1) := by decide +kernel
theorem dX7_readChange_11 : decode cX7_readChange 11 = .ok (.iload_n 2, 1) := by decide +kernel
theorem dX7_readChange_12 : decode cX7_readChange 12 = .ok (.invokevirtual 103, 3) := by decide +kernel
theorem dX7_readChange_15 : decode cX7_readChange 15 = .ok (.ifCond .ne 5, 3) := by decide +kernel
theorem dX7_readChange_18 : decode cX7_readChange 18 = .ok (.iconst 0, 1) := by decide +kernel
theorem dX7_readChange_19 : decode cX7_readChange 19 = .ok (.ireturn, 1) := by decide +kernel
theorem dX7_readChange_20 : decode cX7_readChange 20 = .ok (.aload_n 0, 1) := by decide +kernel
theorem dX7_readChange_21 : decode cX7_readChange 21 = .ok (.getfield 20, 3) := by decide +kernel
theorem dX7_readChange_24 : decode cX7_readChange 24 = .ok (.aload_n 0, 1) := by decide +kernel
theorem dX7_readChange_25 : decode cX7_readChange 25 = .ok (.getfield 29, 3) := by decide +kernel
theorem dX7_readChange_28 : decode cX7_readChange 28 = .ok (.iconst 1, 1) := by decide +kernel
theorem dX7_readChange_29 : decode cX7_readChange 29 = .ok (.isub, 1) := by decide +kernel
theorem dX7_readChange_30 : decode cX7_readChange 30 = .ok (.aload_n 1, 1) := by decide +kernel
theorem dX7_readChange_31 : decode cX7_readChange 31 = .ok (.getfield 100, 3) := by decide +kernel
theorem dX7_readChange_34 : decode cX7_readChange 34 = .ok (.iastore, 1) := by decide +kernel
theorem dX7_readChange_35 : decode cX7_readChange 35 = .ok (.iconst 1, 1) := by decide +kernel
theorem dX7_readChange_36 : decode cX7_readChange 36 = .ok (.ireturn, 1) := by decide +kernel
theorem dX7_readTest_0 : decode cX7_readTest 0 = .ok (.iconst 0, 1) := by decide +kernel
theorem dX7_readTest_1 : decode cX7_readTest 1 = .ok (.istore_n 2, 1) := by decide +kernel
theorem dX7_readTest_2 : decode cX7_readTest 2 = .ok (.iload_n 2, 1) := by decide +kernel
theorem dX7_readTest_3 : decode cX7_readTest 3 = .ok (.iconst 4, 1) := by decide +kernel
theorem dX7_readTest_4 : decode cX7_readTest 4 = .ok (.if_icmp .ge 22, 3) := by decide +kernel
theorem dX7_readTest_7 : decode cX7_readTest 7 = .ok (.aload_n 1, 1) := by decide +kernel
theorem dX7_readTest_8 : decode cX7_readTest 8 = .ok (.ldc 106, 2) := by decide +kernel
theorem dX7_readTest_10 : decode cX7_readTest 10 = .ok (.invokevirtual 81, 3) := by decide +kernel
theorem dX7_readTest_13 : decode cX7_readTest 13 = .ok (.ifCond .eq 13, 3) := by decide +kernel
theorem dX7_readTest_16 : decode cX7_readTest 16 = .ok (.iinc 2 1, 3) := by decide +kernel
theorem dX7_readTest_19 : decode cX7_readTest 19 = .ok (.aload_n 1, 1) := by decide +kernel
theorem dX7_readTest_20 : decode cX7_readTest 20 = .ok (.invokevirtual 62, 3) := by decide +kernel
theorem dX7_readTest_23 : decode cX7_readTest 23 = .ok (.goto (-21), 3) := by decide +kernel
theorem dX7_readTest_26 : decode cX7_readTest 26 = .ok (.aload_n 1, 1) := by decide +kernel
theorem dX7_readTest_27 : decode cX7_readTest 27 = .ok (.ldc 106, 2) := by decide +kernel
theorem dX7_readTest_29 : decode cX7_readTest 29 = .ok (.invokevirtual 81, 3) := by decide +kernel
theorem dX7_readTest_32 : decode cX7_readTest 32 = .ok (.ifCond .eq 9, 3) := by decide +kernel
theorem dX7_readTest_35 : decode cX7_readTest 35 = .ok (.aload_n 1, 1) := by decide +kernel
theorem dX7_readTest_36 : decode cX7_readTest 36 = .ok (.iconst 2, 1) := by decide +kernel
theorem dX7_readTest_37 : decode cX7_readTest 37 = .ok (.invokevirtual 51, 3) := by decide +kernel
theorem dX7_readTest_40 : decode cX7_readTest 40 = .ok (.ireturn, 1) := by decide +kernel
theorem dX7_readTest_41 : decode cX7_readTest 41 = .ok (.aload_n 0, 1) := by decide +kernel
theorem dX7_readTest_42 : decode cX7_readTest 42 = .ok (.getfield 20, 3) := by decide +kernel
theorem dX7_readTest_45 : decode cX7_readTest 45 = .ok (.aload_n 0, 1) := by decide +kernel
theorem dX7_readTest_46 : decode cX7_readTest 46 = .ok (.getfield 29, 3) := by decide +kernel
theorem dX7_readTest_49 : decode cX7_readTest 49 = .ok (.iconst 1, 1) := by decide +kernel
theorem dX7_readTest_50 : decode cX7_readTest 50 = .ok (.isub, 1) := by decide +kernel
theorem dX7_readTest_51 : decode cX7_readTest 51 = .ok (.iload_n 2, 1) := by decide +kernel
theorem dX7_readTest_52 : decode cX7_readTest 52 = .ok (.iconst 2, 1) := by decide +kernel
theorem dX7_readTest_53 : decode cX7_readTest 53 = .ok (.irem, 1) := by decide +kernel
theorem dX7_readTest_54 : decode cX7_readTest 54 = .ok (.iastore, 1) := by decide +kernel
theorem dX7_readTest_55 : decode cX7_readTest 55 = .ok (.aload_n 1, 1) := by decide +kernel
theorem dX7_readTest_56 : decode cX7_readTest 56 = .ok (.invokestatic 108, 3) := by decide +kernel
theorem dX7_readTest_59 : decode cX7_readTest 59 = .ok (.istore_n 3, 1) := by decide +kernel
theorem dX7_readTest_60 : decode cX7_readTest 60 = .ok (.iload_n 3, 1) := by decide +kernel
theorem dX7_readTest_61 : decode cX7_readTest 61 = .ok (.iconst (-1), 1) := by decide +kernel
theorem dX7_readTest_62 : decode cX7_readTest 62 = .ok (.if_icmp .ne 9, 3) := by decide +kernel
theorem dX7_readTest_65 : decode cX7_readTest 65 = .ok (.aload_n 1, 1) := by decide +kernel
theorem dX7_readTest_66 : decode cX7_readTest 66 = .ok (.iconst 1, 1) := by decide +kernel
theorem dX7_readTest_67 : decode cX7_readTest 67 = .ok (.invokevirtual 51, 3) := by decide +kernel
theorem dX7_readTest_70 : decode cX7_readTest 70 = .ok (.ireturn, 1) := by decide +kernel
theorem dX7_readTest_71 : decode cX7_readTest 71 = .ok (.aload_n 1, 1) := by decide +kernel
theorem dX7_readTest_72 : decode cX7_readTest 72 = .ok (.invokevirtual 62, 3) := by decide +kernel
theorem dX7_readTest_75 : decode cX7_readTest 75 = .ok (.iload_n 3, 1) := by decide +kernel
theorem dX7_readTest_76 : decode cX7_readTest 76 = .ok (.iconst 3, 1) := by decide +kernel
theorem dX7_readTest_77 : decode cX7_readTest 77 = .ok (.if_icmp .eq 17, 3) := by decide +kernel
theorem dX7_readTest_80 : decode cX7_readTest 80 = .ok (.aload_n 0, 1) := by decide +kernel
theorem dX7_readTest_81 : decode cX7_readTest 81 = .ok (.getfield 17, 3) := by decide +kernel
theorem dX7_readTest_84 : decode cX7_readTest 84 = .ok (.aload_n 0, 1) := by decide +kernel
theorem dX7_readTest_85 : decode cX7_readTest 85 = .ok (.getfield 29, 3) := by decide +kernel
theorem dX7_readTest_88 : decode cX7_readTest 88 = .ok (.iconst 1, 1) := by decide +kernel
theorem dX7_readTest_89 : decode cX7_readTest 89 = .ok (.isub, 1) := by decide +kernel
theorem dX7_readTest_90 : decode cX7_readTest 90 = .ok (.iload_n 3, 1) := by decide +kernel
theorem dX7_readTest_91 : decode cX7_readTest 91 = .ok (.iastore, 1) := by decide +kernel
theorem dX7_readTest_92 : decode cX7_readTest 92 = .ok (.iconst 1, 1) := by decide +kernel
theorem dX7_readTest_93 : decode cX7_readTest 93 = .ok (.ireturn, 1) := by decide +kernel
theorem dX7_readTest_94 : decode cX7_readTest 94 = .ok (.aload_n 0, 1) := by decide +kernel
theorem dX7_readTest_95 : decode cX7_readTest 95 = .ok (.aload_n 1, 1) := by decide +kernel
theorem dX7_readTest_96 : decode cX7_readTest 96 = .ok (.iconst 0, 1) := by decide +kernel
theorem dX7_readTest_97 : decode cX7_readTest 97 = .ok (.iconst 3, 1) := by decide +kernel
theorem dX7_readTest_98 : decode cX7_readTest 98 = .ok (.invokevirtual 65, 3) := by decide +kernel
theorem dX7_readTest_101 : decode cX7_readTest 101 = .ok (.ifCond .ne 5, 3) := by decide +kernel
theorem dX7_readTest_104 : decode cX7_readTest 104 = .ok (.iconst 0, 1) := by decide +kernel
theorem dX7_readTest_105 : decode cX7_readTest 105 = .ok (.ireturn, 1) := by decide +kernel
theorem dX7_readTest_106 : decode cX7_readTest 106 = .ok (.aload_n 0, 1) := by decide +kernel
theorem dX7_readTest_107 : decode cX7_readTest 107 = .ok (.getfield 17, 3) := by decide +kernel
theorem dX7_readTest_110 : decode cX7_readTest 110 = .ok (.aload_n 0, 1) := by decide +kernel
theorem dX7_readTest_111 : decode cX7_readTest 111 = .ok (.getfield 29, 3) := by decide +kernel
theorem dX7_readTest_114 : decode cX7_readTest 114 = .ok (.iconst 1, 1) := by decide +kernel
theorem dX7_readTest_115 : decode cX7_readTest 115 = .ok (.isub, 1) := by decide +kernel
theorem dX7_readTest_116 : decode cX7_readTest 116 = .ok (.dup2, 1) := by decide +kernel
theorem dX7_readTest_117 : decode cX7_readTest 117 = .ok (.iaload, 1) := by decide +kernel
theorem dX7_readTest_118 : decode cX7_readTest 118 = .ok (.iconst 3, 1) := by decide +kernel
theorem dX7_readTest_119 : decode cX7_readTest 119 = .ok (.iadd, 1) := by decide +kernel
theorem dX7_readTest_120 : decode cX7_readTest 120 = .ok (.iastore, 1) := by decide +kernel
theorem dX7_readTest_121 : decode cX7_readTest 121 = .ok (.iconst 1, 1) := by decide +kernel
theorem dX7_readTest_122 : decode cX7_readTest 122 = .ok (.ireturn, 1) := by decide +kernel
theorem dX7_testTold_0 : decode cX7_testTold 0 = .ok (.aload_n 0, 1) := by decide +kernel
theorem dX7_testTold_1 : decode cX7_testTold 1 = .ok (.ldc 111, 2) := by decide +kernel
theorem dX7_testTold_3 : decode cX7_testTold 3 = .ok (.invokevirtual 81, 3) := by decide +kernel
theorem dX7_testTold_6 : decode cX7_testTold 6 = .ok (.ifCond .eq 5, 3) := by decide +kernel
theorem dX7_testTold_9 : decode cX7_testTold 9 = .ok (.iconst 0, 1) := by decide +kernel
theorem dX7_testTold_10 : decode cX7_testTold 10 = .ok (.ireturn, 1) := by decide +kernel
theorem dX7_testTold_11 : decode cX7_testTold 11 = .ok (.aload_n 0, 1) := by decide +kernel
theorem dX7_testTold_12 : decode cX7_testTold 12 = .ok (.ldc 113, 2) := by decide +kernel
theorem dX7_testTold_14 : decode cX7_testTold 14 = .ok (.invokevirtual 81, 3) := by decide +kernel
theorem dX7_testTold_17 : decode cX7_testTold 17 = .ok (.ifCond .eq 5, 3) := by decide +kernel
theorem dX7_testTold_20 : decode cX7_testTold 20 = .ok (.iconst 1, 1) := by decide +kernel
theorem dX7_testTold_21 : decode cX7_testTold 21 = .ok (.ireturn, 1) := by decide +kernel
theorem dX7_testTold_22 : decode cX7_testTold 22 = .ok (.aload_n 0, 1) := by decide +kernel
theorem dX7_testTold_23 : decode cX7_testTold 23 = .ok (.ldc 115, 2) := by decide +kernel
theorem dX7_testTold_25 : decode cX7_testTold 25 = .ok (.invokevirtual 81, 3) := by decide +kernel
theorem dX7_testTold_28 : decode cX7_testTold 28 = .ok (.ifCond .eq 5, 3) := by decide +kernel
theorem dX7_testTold_31 : decode cX7_testTold 31 = .ok (.iconst 2, 1) := by decide +kernel
theorem dX7_testTold_32 : decode cX7_testTold 32 = .ok (.ireturn, 1) := by decide +kernel
theorem dX7_testTold_33 : decode cX7_testTold 33 = .ok (.aload_n 0, 1) := by decide +kernel
theorem dX7_testTold_34 : decode cX7_testTold 34 = .ok (.ldc 117, 2) := by decide +kernel
theorem dX7_testTold_36 : decode cX7_testTold 36 = .ok (.invokevirtual 81, 3) := by decide +kernel
theorem dX7_testTold_39 : decode cX7_testTold 39 = .ok (.ifCond .eq 7, 3) := by decide +kernel
theorem dX7_testTold_42 : decode cX7_testTold 42 = .ok (.iconst 3, 1) := by decide +kernel
theorem dX7_testTold_43 : decode cX7_testTold 43 = .ok (.goto 4, 3) := by decide +kernel
theorem dX7_testTold_46 : decode cX7_testTold 46 = .ok (.iconst (-1), 1) := by decide +kernel
theorem dX7_testTold_47 : decode cX7_testTold 47 = .ok (.ireturn, 1) := by decide +kernel
theorem dX7_openBlock_0 : decode cX7_openBlock 0 = .ok (.aload_n 1, 1) := by decide +kernel
theorem dX7_openBlock_1 : decode cX7_openBlock 1 = .ok (.bipush 40, 2) := by decide +kernel
theorem dX7_openBlock_3 : decode cX7_openBlock 3 = .ok (.invokevirtual 119, 3) := by decide +kernel
theorem dX7_openBlock_6 : decode cX7_openBlock 6 = .ok (.ifCond .ne 5, 3) := by decide +kernel
theorem dX7_openBlock_9 : decode cX7_openBlock 9 = .ok (.iconst 0, 1) := by decide +kernel
theorem dX7_openBlock_10 : decode cX7_openBlock 10 = .ok (.ireturn, 1) := by decide +kernel
theorem dX7_openBlock_11 : decode cX7_openBlock 11 = .ok (.aload_n 0, 1) := by decide +kernel
theorem dX7_openBlock_12 : decode cX7_openBlock 12 = .ok (.getfield 33, 3) := by decide +kernel
theorem dX7_openBlock_15 : decode cX7_openBlock 15 = .ok (.iconst 5, 1) := by decide +kernel
theorem dX7_openBlock_16 : decode cX7_openBlock 16 = .ok (.if_icmp .ge 28, 3) := by decide +kernel
theorem dX7_openBlock_19 : decode cX7_openBlock 19 = .ok (.aload_n 0, 1) := by decide +kernel
theorem dX7_openBlock_20 : decode cX7_openBlock 20 = .ok (.getfield 26, 3) := by decide +kernel
theorem dX7_openBlock_23 : decode cX7_openBlock 23 = .ok (.aload_n 0, 1) := by decide +kernel
theorem dX7_openBlock_24 : decode cX7_openBlock 24 = .ok (.getfield 33, 3) := by decide +kernel
theorem dX7_openBlock_27 : decode cX7_openBlock 27 = .ok (.aload_n 0, 1) := by decide +kernel
theorem dX7_openBlock_28 : decode cX7_openBlock 28 = .ok (.getfield 29, 3) := by decide +kernel
theorem dX7_openBlock_31 : decode cX7_openBlock 31 = .ok (.iconst 1, 1) := by decide +kernel
theorem dX7_openBlock_32 : decode cX7_openBlock 32 = .ok (.isub, 1) := by decide +kernel
theorem dX7_openBlock_33 : decode cX7_openBlock 33 = .ok (.iastore, 1) := by decide +kernel
theorem dX7_openBlock_34 : decode cX7_openBlock 34 = .ok (.aload_n 0, 1) := by decide +kernel
theorem dX7_openBlock_35 : decode cX7_openBlock 35 = .ok (.dup, 1) := by decide +kernel
theorem dX7_openBlock_36 : decode cX7_openBlock 36 = .ok (.getfield 33, 3) := by decide +kernel
theorem dX7_openBlock_39 : decode cX7_openBlock 39 = .ok (.iconst 1, 1) := by decide +kernel
theorem dX7_openBlock_40 : decode cX7_openBlock 40 = .ok (.iadd, 1) := by decide +kernel
theorem dX7_openBlock_41 : decode cX7_openBlock 41 = .ok (.putfield 33, 3) := by decide +kernel
theorem dX7_openBlock_44 : decode cX7_openBlock 44 = .ok (.iconst 1, 1) := by decide +kernel
theorem dX7_openBlock_45 : decode cX7_openBlock 45 = .ok (.ireturn, 1) := by decide +kernel
theorem dX7_closeBlock_0 : decode cX7_closeBlock 0 = .ok (.aload_n 1, 1) := by decide +kernel
theorem dX7_closeBlock_1 : decode cX7_closeBlock 1 = .ok (.invokevirtual 62, 3) := by decide +kernel
theorem dX7_closeBlock_4 : decode cX7_closeBlock 4 = .ok (.aload_n 0, 1) := by decide +kernel
theorem dX7_closeBlock_5 : decode cX7_closeBlock 5 = .ok (.dup, 1) := by decide +kernel
theorem dX7_closeBlock_6 : decode cX7_closeBlock 6 = .ok (.getfield 33, 3) := by decide +kernel
theorem dX7_closeBlock_9 : decode cX7_closeBlock 9 = .ok (.iconst 1, 1) := by decide +kernel
theorem dX7_closeBlock_10 : decode cX7_closeBlock 10 = .ok (.isub, 1) := by decide +kernel
theorem dX7_closeBlock_11 : decode cX7_closeBlock 11 = .ok (.putfield 33, 3) := by decide +kernel
theorem dX7_closeBlock_14 : decode cX7_closeBlock 14 = .ok (.aload_n 0, 1) := by decide +kernel
theorem dX7_closeBlock_15 : decode cX7_closeBlock 15 = .ok (.getfield 26, 3) := by decide +kernel
theorem dX7_closeBlock_18 : decode cX7_closeBlock 18 = .ok (.aload_n 0, 1) := by decide +kernel
theorem dX7_closeBlock_19 : decode cX7_closeBlock 19 = .ok (.getfield 33, 3) := by decide +kernel
theorem dX7_closeBlock_22 : decode cX7_closeBlock 22 = .ok (.iaload, 1) := by decide +kernel
theorem dX7_closeBlock_23 : decode cX7_closeBlock 23 = .ok (.istore_n 2, 1) := by decide +kernel
theorem dX7_closeBlock_24 : decode cX7_closeBlock 24 = .ok (.aload_n 0, 1) := by decide +kernel
theorem dX7_closeBlock_25 : decode cX7_closeBlock 25 = .ok (.getfield 13, 3) := by decide +kernel
theorem dX7_closeBlock_28 : decode cX7_closeBlock 28 = .ok (.iload_n 2, 1) := by decide +kernel
theorem dX7_closeBlock_29 : decode cX7_closeBlock 29 = .ok (.iaload, 1) := by decide +kernel
theorem dX7_closeBlock_30 : decode cX7_closeBlock 30 = .ok (.iconst 5, 1) := by decide +kernel
theorem dX7_closeBlock_31 : decode cX7_closeBlock 31 = .ok (.if_icmp .ne 7, 3) := by decide +kernel
theorem dX7_closeBlock_34 : decode cX7_closeBlock 34 = .ok (.iconst 1, 1) := by decide +kernel
theorem dX7_closeBlock_35 : decode cX7_closeBlock 35 = .ok (.goto 4, 3) := by decide +kernel
theorem dX7_closeBlock_38 : decode cX7_closeBlock 38 = .ok (.iconst 0, 1) := by decide +kernel
theorem dX7_closeBlock_39 : decode cX7_closeBlock 39 = .ok (.istore_n 3, 1) := by decide +kernel
theorem dX7_closeBlock_40 : decode cX7_closeBlock 40 = .ok (.aload_n 0, 1) := by decide +kernel
theorem dX7_closeBlock_41 : decode cX7_closeBlock 41 = .ok (.getfield 13, 3) := by decide +kernel
theorem dX7_closeBlock_44 : decode cX7_closeBlock 44 = .ok (.iload_n 2, 1) := by decide +kernel
theorem dX7_closeBlock_45 : decode cX7_closeBlock 45 = .ok (.iaload, 1) := by decide +kernel
theorem dX7_closeBlock_46 : decode cX7_closeBlock 46 = .ok (.bipush 6, 2) := by decide +kernel
theorem dX7_closeBlock_48 : decode cX7_closeBlock 48 = .ok (.if_icmp .ne 16, 3) := by decide +kernel
theorem dX7_closeBlock_51 : decode cX7_closeBlock 51 = .ok (.aload_n 1, 1) := by decide +kernel
theorem dX7_closeBlock_52 : decode cX7_closeBlock 52 = .ok (.ldc 122, 2) := by decide +kernel
theorem dX7_closeBlock_54 : decode cX7_closeBlock 54 = .ok (.invokevirtual 81, 3) := by decide +kernel
theorem dX7_closeBlock_57 : decode cX7_closeBlock 57 = .ok (.ifCond .eq 7, 3) := by decide +kernel
theorem dX7_closeBlock_60 : decode cX7_closeBlock 60 = .ok (.iconst 1, 1) := by decide +kernel
theorem dX7_closeBlock_61 : decode cX7_closeBlock 61 = .ok (.goto 4, 3) := by decide +kernel
theorem dX7_closeBlock_64 : decode cX7_closeBlock 64 = .ok (.iconst 0, 1) := by decide +kernel
theorem dX7_closeBlock_65 : decode cX7_closeBlock 65 = .ok (.istore 4, 2) := by decide +kernel
theorem dX7_closeBlock_67 : decode cX7_closeBlock 67 = .ok (.iload_n 3, 1) := by decide +kernel
theorem dX7_closeBlock_68 : decode cX7_closeBlock 68 = .ok (.ifCond .eq 12, 3) := by decide +kernel
theorem dX7_closeBlock_71 : decode cX7_closeBlock 71 = .ok (.aload_n 0, 1) := by decide +kernel
theorem dX7_closeBlock_72 : decode cX7_closeBlock 72 = .ok (.bipush 7, 2) := by decide +kernel
theorem dX7_closeBlock_74 : decode cX7_closeBlock 74 = .ok (.invokevirtual 59, 3) := by decide +kernel
theorem dX7_closeBlock_77 : decode cX7_closeBlock 77 = .ok (.ifCond .eq 17, 3) := by decide +kernel
theorem dX7_closeBlock_80 : decode cX7_closeBlock 80 = .ok (.iload 4, 2) := by decide +kernel
theorem dX7_closeBlock_82 : decode cX7_closeBlock 82 = .ok (.ifCond .eq 18, 3) := by decide +kernel
theorem dX7_closeBlock_85 : decode cX7_closeBlock 85 = .ok (.aload_n 0, 1) := by decide +kernel
theorem dX7_closeBlock_86 : decode cX7_closeBlock 86 = .ok (.bipush 8, 2) := by decide +kernel
theorem dX7_closeBlock_88 : decode cX7_closeBlock 88 = .ok (.invokevirtual 59, 3) := by decide +kernel
theorem dX7_closeBlock_91 : decode cX7_closeBlock 91 = .ok (.ifCond .ne 9, 3) := by decide +kernel
theorem dX7_closeBlock_94 : decode cX7_closeBlock 94 = .ok (.aload_n 1, 1) := by decide +kernel
theorem dX7_closeBlock_95 : decode cX7_closeBlock 95 = .ok (.iconst 2, 1) := by decide +kernel
theorem dX7_closeBlock_96 : decode cX7_closeBlock 96 = .ok (.invokevirtual 51, 3) := by decide +kernel
theorem dX7_closeBlock_99 : decode cX7_closeBlock 99 = .ok (.ireturn, 1) := by decide +kernel
theorem dX7_closeBlock_100 : decode cX7_closeBlock 100 = .ok (.iload_n 3, 1) := by decide +kernel
theorem dX7_closeBlock_101 : decode cX7_closeBlock 101 = .ok (.ifCond .eq 29, 3) := by decide +kernel
theorem dX7_closeBlock_104 : decode cX7_closeBlock 104 = .ok (.aload_n 0, 1) := by decide +kernel
theorem dX7_closeBlock_105 : decode cX7_closeBlock 105 = .ok (.getfield 23, 3) := by decide +kernel
theorem dX7_closeBlock_108 : decode cX7_closeBlock 108 = .ok (.aload_n 0, 1) := by decide +kernel
theorem dX7_closeBlock_109 : decode cX7_closeBlock 109 = .ok (.getfield 29, 3) := by decide +kernel
theorem dX7_closeBlock_112 : decode cX7_closeBlock 112 = .ok (.iconst 1, 1) := by decide +kernel
theorem dX7_closeBlock_113 : decode cX7_closeBlock 113 = .ok (.isub, 1) := by decide +kernel
theorem dX7_closeBlock_114 : decode cX7_closeBlock 114 = .ok (.iload_n 2, 1) := by decide +kernel
theorem dX7_closeBlock_115 : decode cX7_closeBlock 115 = .ok (.iconst 1, 1) := by decide +kernel
theorem dX7_closeBlock_116 : decode cX7_closeBlock 116 = .ok (.iadd, 1) := by decide +kernel
theorem dX7_closeBlock_117 : decode cX7_closeBlock 117 = .ok (.iastore, 1) := by decide +kernel
theorem dX7_closeBlock_118 : decode cX7_closeBlock 118 = .ok (.aload_n 0, 1) := by decide +kernel
theorem dX7_closeBlock_119 : decode cX7_closeBlock 119 = .ok (.getfield 17, 3) := by decide +kernel
theorem dX7_closeBlock_122 : decode cX7_closeBlock 122 = .ok (.aload_n 0, 1) := by decide +kernel
theorem dX7_closeBlock_123 : decode cX7_closeBlock 123 = .ok (.getfield 29, 3) := by decide +kernel
theorem dX7_closeBlock_126 : decode cX7_closeBlock 126 = .ok (.iconst 1, 1) := by decide +kernel
theorem dX7_closeBlock_127 : decode cX7_closeBlock 127 = .ok (.isub, 1) := by decide +kernel
theorem dX7_closeBlock_128 : decode cX7_closeBlock 128 = .ok (.iload_n 2, 1) := by decide +kernel
theorem dX7_closeBlock_129 : decode cX7_closeBlock 129 = .ok (.iastore, 1) := by decide +kernel
theorem dX7_closeBlock_130 : decode cX7_closeBlock 130 = .ok (.aload_n 0, 1) := by decide +kernel
theorem dX7_closeBlock_131 : decode cX7_closeBlock 131 = .ok (.getfield 23, 3) := by decide +kernel
theorem dX7_closeBlock_134 : decode cX7_closeBlock 134 = .ok (.iload_n 2, 1) := by decide +kernel
theorem dX7_closeBlock_135 : decode cX7_closeBlock 135 = .ok (.aload_n 0, 1) := by decide +kernel
theorem dX7_closeBlock_136 : decode cX7_closeBlock 136 = .ok (.getfield 29, 3) := by decide +kernel
theorem dX7_closeBlock_139 : decode cX7_closeBlock 139 = .ok (.iastore, 1) := by decide +kernel
theorem dX7_closeBlock_140 : decode cX7_closeBlock 140 = .ok (.iload 4, 2) := by decide +kernel
theorem dX7_closeBlock_142 : decode cX7_closeBlock 142 = .ok (.ifCond .eq 13, 3) := by decide +kernel
theorem dX7_closeBlock_145 : decode cX7_closeBlock 145 = .ok (.aload_n 1, 1) := by decide +kernel
theorem dX7_closeBlock_146 : decode cX7_closeBlock 146 = .ok (.invokevirtual 62, 3) := by decide +kernel
theorem dX7_closeBlock_149 : decode cX7_closeBlock 149 = .ok (.aload_n 0, 1) := by decide +kernel
theorem dX7_closeBlock_150 : decode cX7_closeBlock 150 = .ok (.aload_n 1, 1) := by decide +kernel
theorem dX7_closeBlock_151 : decode cX7_closeBlock 151 = .ok (.invokevirtual 73, 3) := by decide +kernel
theorem dX7_closeBlock_154 : decode cX7_closeBlock 154 = .ok (.ireturn, 1) := by decide +kernel
theorem dX7_closeBlock_155 : decode cX7_closeBlock 155 = .ok (.iconst 1, 1) := by decide +kernel
theorem dX7_closeBlock_156 : decode cX7_closeBlock 156 = .ok (.ireturn, 1) := by decide +kernel
theorem dX8_read_0 : decode cX8_read 0 = .ok (.aload_n 1, 1) := by decide +kernel
theorem dX8_read_1 : decode cX8_read 1 = .ok (.invokevirtual 9, 3) := by decide +kernel
theorem dX8_read_4 : decode cX8_read 4 = .ok (.iconst 0, 1) := by decide +kernel
theorem dX8_read_5 : decode cX8_read 5 = .ok (.istore_n 2, 1) := by decide +kernel
theorem dX8_read_6 : decode cX8_read 6 = .ok (.iconst 0, 1) := by decide +kernel
theorem dX8_read_7 : decode cX8_read 7 = .ok (.istore_n 3, 1) := by decide +kernel
theorem dX8_read_8 : decode cX8_read 8 = .ok (.iload_n 3, 1) := by decide +kernel
theorem dX8_read_9 : decode cX8_read 9 = .ok (.sipush 400, 3) := by decide +kernel
theorem dX8_read_12 : decode cX8_read 12 = .ok (.if_icmp .ge 63, 3) := by decide +kernel
theorem dX8_read_15 : decode cX8_read 15 = .ok (.aload_n 0, 1) := by decide +kernel
theorem dX8_read_16 : decode cX8_read 16 = .ok (.invokevirtual 16, 3) := by decide +kernel
theorem dX8_read_19 : decode cX8_read 19 = .ok (.ifCond .ne 56, 3) := by decide +kernel
theorem dX8_read_22 : decode cX8_read 22 = .ok (.aload_n 0, 1) := by decide +kernel
theorem dX8_read_23 : decode cX8_read 23 = .ok (.ldc 20, 2) := by decide +kernel
theorem dX8_read_25 : decode cX8_read 25 = .ok (.invokevirtual 22, 3) := by decide +kernel
theorem dX8_read_28 : decode cX8_read 28 = .ok (.ifCond .eq 13, 3) := by decide +kernel
theorem dX8_read_31 : decode cX8_read 31 = .ok (.iload_n 2, 1) := by decide +kernel
theorem dX8_read_32 : decode cX8_read 32 = .ok (.ifCond .eq 9, 3) := by decide +kernel
theorem dX8_read_35 : decode cX8_read 35 = .ok (.aload_n 0, 1) := by decide +kernel
theorem dX8_read_36 : decode cX8_read 36 = .ok (.iconst 3, 1) := by decide +kernel
theorem dX8_read_37 : decode cX8_read 37 = .ok (.invokevirtual 26, 3) := by decide +kernel
theorem dX8_read_40 : decode cX8_read 40 = .ok (.ireturn, 1) := by decide +kernel
theorem dX8_read_41 : decode cX8_read 41 = .ok (.iload_n 2, 1) := by decide +kernel
theorem dX8_read_42 : decode cX8_read 42 = .ok (.aload_n 0, 1) := by decide +kernel
theorem dX8_read_43 : decode cX8_read 43 = .ok (.ldc 20, 2) := by decide +kernel
theorem dX8_read_45 : decode cX8_read 45 = .ok (.invokevirtual 22, 3) := by decide +kernel
theorem dX8_read_48 : decode cX8_read 48 = .ok (.ior, 1) := by decide +kernel
theorem dX8_read_49 : decode cX8_read 49 = .ok (.istore_n 2, 1) := by decide +kernel
theorem dX8_read_50 : decode cX8_read 50 = .ok (.aload_n 0, 1) := by decide +kernel
theorem dX8_read_51 : decode cX8_read 51 = .ok (.aload_n 1, 1) := by decide +kernel
theorem dX8_read_52 : decode cX8_read 52 = .ok (.invokestatic 30, 3) := by decide +kernel
theorem dX8_read_55 : decode cX8_read 55 = .ok (.ifCond .eq 12, 3) := by decide +kernel
theorem dX8_read_58 : decode cX8_read 58 = .ok (.aload_n 0, 1) := by decide +kernel
theorem dX8_read_59 : decode cX8_read 59 = .ok (.bipush 59, 2) := by decide +kernel
theorem dX8_read_61 : decode cX8_read 61 = .ok (.invokevirtual 36, 3) := by decide +kernel
theorem dX8_read_64 : decode cX8_read 64 = .ok (.ifCond .ne 5, 3) := by decide +kernel
theorem dX8_read_67 : decode cX8_read 67 = .ok (.iconst 0, 1) := by decide +kernel
theorem dX8_read_68 : decode cX8_read 68 = .ok (.ireturn, 1) := by decide +kernel
theorem dX8_read_69 : decode cX8_read 69 = .ok (.iinc 3 1, 3) := by decide +kernel
theorem dX8_read_72 : decode cX8_read 72 = .ok (.goto (-64), 3) := by decide +kernel
theorem dX8_read_75 : decode cX8_read 75 = .ok (.iconst 1, 1) := by decide +kernel
theorem dX8_read_76 : decode cX8_read 76 = .ok (.ireturn, 1) := by decide +kernel
theorem dX8_readLine_0 : decode cX8_readLine 0 = .ok (.aload_n 0, 1) := by decide +kernel
theorem dX8_readLine_1 : decode cX8_readLine 1 = .ok (.ldc 40, 2) := by decide +kernel
theorem dX8_readLine_3 : decode cX8_readLine 3 = .ok (.invokevirtual 22, 3) := by decide +kernel
theorem dX8_readLine_6 : decode cX8_readLine 6 = .ok (.ifCond .eq 9, 3) := by decide +kernel
theorem dX8_readLine_9 : decode cX8_readLine 9 = .ok (.aload_n 0, 1) := by decide +kernel
theorem dX8_readLine_10 : decode cX8_readLine 10 = .ok (.aload_n 1, 1) := by decide +kernel
theorem dX8_readLine_11 : decode cX8_readLine 11 = .ok (.invokestatic 42, 3) := by decide +kernel
theorem dX8_readLine_14 : decode cX8_readLine 14 = .ok (.ireturn, 1) := by decide +kernel
theorem dX8_readLine_15 : decode cX8_readLine 15 = .ok (.aload_n 0, 1) := by decide +kernel
theorem dX8_readLine_16 : decode cX8_readLine 16 = .ok (.ldc 45, 2) := by decide +kernel
theorem dX8_readLine_18 : decode cX8_readLine 18 = .ok (.invokevirtual 22, 3) := by decide +kernel
theorem dX8_readLine_21 : decode cX8_readLine 21 = .ok (.ifCond .eq 9, 3) := by decide +kernel
theorem dX8_readLine_24 : decode cX8_readLine 24 = .ok (.aload_n 0, 1) := by decide +kernel
theorem dX8_readLine_25 : decode cX8_readLine 25 = .ok (.aload_n 1, 1) := by decide +kernel
theorem dX8_readLine_26 : decode cX8_readLine 26 = .ok (.invokestatic 47, 3) := by decide +kernel
theorem dX8_readLine_29 : decode cX8_readLine 29 = .ok (.ireturn, 1) := by decide +kernel
theorem dX8_readLine_30 : decode cX8_readLine 30 = .ok (.aload_n 0, 1) := by decide +kernel
theorem dX8_readLine_31 : decode cX8_readLine 31 = .ok (.ldc 20, 2) := by decide +kernel
theorem dX8_readLine_33 : decode cX8_readLine 33 = .ok (.invokevirtual 22, 3) := by decide +kernel
theorem dX8_readLine_36 : decode cX8_readLine 36 = .ok (.ifCond .eq 9, 3) := by decide +kernel
theorem dX8_readLine_39 : decode cX8_readLine 39 = .ok (.aload_n 0, 1) := by decide +kernel
theorem dX8_readLine_40 : decode cX8_readLine 40 = .ok (.aload_n 1, 1) := by decide +kernel
theorem dX8_readLine_41 : decode cX8_readLine 41 = .ok (.invokestatic 50, 3) := by decide +kernel
theorem dX8_readLine_44 : decode cX8_readLine 44 = .ok (.ireturn, 1) := by decide +kernel
theorem dX8_readLine_45 : decode cX8_readLine 45 = .ok (.aload_n 0, 1) := by decide +kernel
theorem dX8_readLine_46 : decode cX8_readLine 46 = .ok (.iconst 1, 1) := by decide +kernel
theorem dX8_readLine_47 : decode cX8_readLine 47 = .ok (.invokevirtual 26, 3) := by decide +kernel
theorem dX8_readLine_50 : decode cX8_readLine 50 = .ok (.ireturn, 1) := by decide +kernel
theorem dX8_readPendulum_0 : decode cX8_readPendulum 0 = .ok (.aload_n 1, 1) := by decide +kernel
theorem dX8_readPendulum_1 : decode cX8_readPendulum 1 = .ok (.getfield 53, 3) := by decide +kernel
theorem dX8_readPendulum_4 : decode cX8_readPendulum 4 = .ok (.istore_n 2, 1) := by decide +kernel
theorem dX8_readPendulum_5 : decode cX8_readPendulum 5 = .ok (.iload_n 2, 1) := by decide +kernel
theorem dX8_readPendulum_6 : decode cX8_readPendulum 6 = .ok (.iconst 4, 1) := by decide +kernel
theorem dX8_readPendulum_7 : decode cX8_readPendulum 7 = .ok (.if_icmp .lt 9, 3) := by decide +kernel
theorem dX8_readPendulum_10 : decode cX8_readPendulum 10 = .ok (.aload_n 0, 1) := by decide +kernel
theorem dX8_readPendulum_11 : decode cX8_readPendulum 11 = .ok (.iconst 2, 1) := by decide +kernel
theorem dX8_readPendulum_12 : decode cX8_readPendulum 12 = .ok (.invokevirtual 26, 3) := by decide +kernel
theorem dX8_readPendulum_15 : decode cX8_readPendulum 15 = .ok (.ireturn, 1) := by decide +kernel
theorem dX8_readPendulum_16 : decode cX8_readPendulum 16 = .ok (.aload_n 0, 1) := by decide +kernel
theorem dX8_readPendulum_17 : decode cX8_readPendulum 17 = .ok (.invokevirtual 57, 3) := by decide +kernel
theorem dX8_readPendulum_20 : decode cX8_readPendulum 20 = .ok (.aload_n 0, 1) := by decide +kernel
theorem dX8_readPendulum_21 : decode cX8_readPendulum 21 = .ok (.invokestatic 60, 3) := by decide +kernel
theorem dX8_readPendulum_24 : decode cX8_readPendulum 24 = .ok (.istore_n 3, 1) := by decide +kernel
theorem dX8_readPendulum_25 : decode cX8_readPendulum 25 = .ok (.iload_n 3, 1) := by decide +kernel
theorem dX8_readPendulum_26 : decode cX8_readPendulum 26 = .ok (.iconst (-1), 1) := by decide +kernel
theorem dX8_readPendulum_27 : decode cX8_readPendulum 27 = .ok (.if_icmp .ne 9, 3) := by decide +kernel
theorem dX8_readPendulum_30 : decode cX8_readPendulum 30 = .ok (.aload_n 0, 1) := by decide +kernel
theorem dX8_readPendulum_31 : decode cX8_readPendulum 31 = .ok (.iconst 1, 1) := by decide +kernel
theorem dX8_readPendulum_32 : decode cX8_readPendulum 32 = .ok (.invokevirtual 26, 3) := by decide +kernel
theorem dX8_readPendulum_35 : decode cX8_readPendulum 35 = .ok (.ireturn, 1) := by decide +kernel
theorem dX8_readPendulum_36 : decode cX8_readPendulum 36 = .ok (.aload_n 0, 1) := by decide +kernel
theorem dX8_readPendulum_37 : decode cX8_readPendulum 37 = .ok (.invokevirtual 57, 3) := by decide +kernel
theorem dX8_readPendulum_40 : decode cX8_readPendulum 40 = .ok (.aload_n 1, 1) := by decide +kernel
theorem dX8_readPendulum_41 : decode cX8_readPendulum 41 = .ok (.getfield 64, 3) := by decide +kernel
theorem dX8_readPendulum_44 : decode cX8_readPendulum 44 = .ok (.iload_n 2, 1) := by decide +kernel
theorem dX8_readPendulum_45 : decode cX8_readPendulum 45 = .ok (.iload_n 3, 1) := by decide +kernel
theorem dX8_readPendulum_46 : decode cX8_readPendulum 46 = .ok (.iastore, 1) := by decide +kernel
theorem dX8_readPendulum_47 : decode cX8_readPendulum 47 = .ok (.aload_n 0, 1) := by decide +kernel
theorem dX8_readPendulum_48 : decode cX8_readPendulum 48 = .ok (.iconst 2, 1) := by decide +kernel
theorem dX8_readPendulum_49 : decode cX8_readPendulum 49 = .ok (.bipush 40, 2) := by decide +kernel
theorem dX8_readPendulum_51 : decode cX8_readPendulum 51 = .ok (.aload_n 1, 1) := by decide +kernel
theorem dX8_readPendulum_52 : decode cX8_readPendulum 52 = .ok (.getfield 68, 3) := by decide +kernel
theorem dX8_readPendulum_55 : decode cX8_readPendulum 55 = .ok (.iload_n 2, 1) := by decide +kernel
theorem dX8_readPendulum_56 : decode cX8_readPendulum 56 = .ok (.invokestatic 71, 3) := by decide +kernel
theorem dX8_readPendulum_59 : decode cX8_readPendulum 59 = .ok (.ifCond .eq 64, 3) := by decide +kernel
theorem dX8_readPendulum_62 : decode cX8_readPendulum 62 = .ok (.aload_n 0, 1) := by decide +kernel
theorem dX8_readPendulum_63 : decode cX8_readPendulum 63 = .ok (.iconst 0, 1) := by decide +kernel
theorem dX8_readPendulum_64 : decode cX8_readPendulum 64 = .ok (.bipush 90, 2) := by decide +kernel
theorem dX8_readPendulum_66 : decode cX8_readPendulum 66 = .ok (.aload_n 1, 1) := by decide +kernel
theorem dX8_readPendulum_67 : decode cX8_readPendulum 67 = .ok (.getfield 75, 3) := by decide +kernel
theorem dX8_readPendulum_70 : decode cX8_readPendulum 70 = .ok (.bipush 8, 2) := by decide +kernel
theorem dX8_readPendulum_72 : decode cX8_readPendulum 72 = .ok (.iload_n 2, 1) := by decide +kernel
theorem dX8_readPendulum_73 : decode cX8_readPendulum 73 = .ok (.iadd, 1) := by decide +kernel
theorem dX8_readPendulum_74 : decode cX8_readPendulum 74 = .ok (.invokestatic 71, 3) := by decide +kernel
theorem dX8_readPendulum_77 : decode cX8_readPendulum 77 = .ok (.ifCond .eq 46, 3) := by decide +kernel
theorem dX8_readPendulum_80 : decode cX8_readPendulum 80 = .ok (.aload_n 0, 1) := by decide +kernel
theorem dX8_readPendulum_81 : decode cX8_readPendulum 81 = .ok (.iconst 0, 1) := by decide +kernel
theorem dX8_readPendulum_82 : decode cX8_readPendulum 82 = .ok (.bipush 99, 2) := by decide +kernel
theorem dX8_readPendulum_84 : decode cX8_readPendulum 84 = .ok (.aload_n 1, 1) := by decide +kernel
theorem dX8_readPendulum_85 : decode cX8_readPendulum 85 = .ok (.getfield 75, 3) := by decide +kernel
theorem dX8_readPendulum_88 : decode cX8_readPendulum 88 = .ok (.iconst 4, 1) := by decide +kernel
theorem dX8_readPendulum_89 : decode cX8_readPendulum 89 = .ok (.iload_n 2, 1) := by decide +kernel
theorem dX8_readPendulum_90 : decode cX8_readPendulum 90 = .ok (.iadd, 1) := by decide +kernel
theorem dX8_readPendulum_91 : decode cX8_readPendulum 91 = .ok (.invokestatic 71, 3) := by decide +kernel
theorem dX8_readPendulum_94 : decode cX8_readPendulum 94 = .ok (.ifCond .eq 29, 3) := by decide +kernel
theorem dX8_readPendulum_97 : decode cX8_readPendulum 97 = .ok (.aload_n 0, 1) := by decide +kernel
theorem dX8_readPendulum_98 : decode cX8_readPendulum 98 = .ok (.iconst 0, 1) := by decide +kernel
theorem dX8_readPendulum_99 : decode cX8_readPendulum 99 = .ok (.bipush 99, 2) := by decide +kernel
theorem dX8_readPendulum_101 : decode cX8_readPendulum 101 = .ok (.aload_n 1, 1) := by decide +kernel
theorem dX8_readPendulum_102 : decode cX8_readPendulum 102 = .ok (.getfield 78, 3) := by decide +kernel
theorem dX8_readPendulum_105 : decode cX8_readPendulum 105 = .ok (.iload_n 2, 1) := by decide +kernel
theorem dX8_readPendulum_106 : decode cX8_readPendulum 106 = .ok (.invokestatic 71, 3) := by decide +kernel
theorem dX8_readPendulum_109 : decode cX8_readPendulum 109 = .ok (.ifCond .eq 14, 3) := by decide +kernel
theorem dX8_readPendulum_112 : decode cX8_readPendulum 112 = .ok (.aload_n 1, 1) := by decide +kernel
theorem dX8_readPendulum_113 : decode cX8_readPendulum 113 = .ok (.invokestatic 81, 3) := by decide +kernel
theorem dX8_readPendulum_116 : decode cX8_readPendulum 116 = .ok (.ifCond .eq 7, 3) := by decide +kernel
theorem dX8_readPendulum_119 : decode cX8_readPendulum 119 = .ok (.iconst 1, 1) := by decide +kernel
theorem dX8_readPendulum_120 : decode cX8_readPendulum 120 = .ok (.goto 4, 3) := by decide +kernel
theorem dX8_readPendulum_123 : decode cX8_readPendulum 123 = .ok (.iconst 0, 1) := by decide +kernel
theorem dX8_readPendulum_124 : decode cX8_readPendulum 124 = .ok (.ireturn, 1) := by decide +kernel
theorem dX8_countPendulum_0 : decode cX8_countPendulum 0 = .ok (.aload_n 0, 1) := by decide +kernel
theorem dX8_countPendulum_1 : decode cX8_countPendulum 1 = .ok (.dup, 1) := by decide +kernel
theorem dX8_countPendulum_2 : decode cX8_countPendulum 2 = .ok (.getfield 53, 3) := by decide +kernel
theorem dX8_countPendulum_5 : decode cX8_countPendulum 5 = .ok (.iconst 1, 1) := by decide +kernel
theorem dX8_countPendulum_6 : decode cX8_countPendulum 6 = .ok (.iadd, 1) := by decide +kernel
theorem dX8_countPendulum_7 : decode cX8_countPendulum 7 = .ok (.putfield 53, 3) := by decide +kernel
theorem dX8_countPendulum_10 : decode cX8_countPendulum 10 = .ok (.iconst 1, 1) := by decide +kernel
theorem dX8_countPendulum_11 : decode cX8_countPendulum 11 = .ok (.ireturn, 1) := by decide +kernel
theorem dX8_kindTold_0 : decode cX8_kindTold 0 = .ok (.aload_n 0, 1) := by decide +kernel
theorem dX8_kindTold_1 : decode cX8_kindTold 1 = .ok (.ldc 85, 2) := by decide +kernel
theorem dX8_kindTold_3 : decode cX8_kindTold 3 = .ok (.invokevirtual 22, 3) := by decide +kernel
theorem dX8_kindTold_6 : decode cX8_kindTold 6 = .ok (.ifCond .eq 5, 3) := by decide +kernel
theorem dX8_kindTold_9 : decode cX8_kindTold 9 = .ok (.iconst 0, 1) := by decide +kernel
theorem dX8_kindTold_10 : decode cX8_kindTold 10 = .ok (.ireturn, 1) := by decide +kernel
theorem dX8_kindTold_11 : decode cX8_kindTold 11 = .ok (.aload_n 0, 1) := by decide +kernel
theorem dX8_kindTold_12 : decode cX8_kindTold 12 = .ok (.ldc 87, 2) := by decide +kernel
theorem dX8_kindTold_14 : decode cX8_kindTold 14 = .ok (.invokevirtual 22, 3) := by decide +kernel
theorem dX8_kindTold_17 : decode cX8_kindTold 17 = .ok (.ifCond .eq 5, 3) := by decide +kernel
theorem dX8_kindTold_20 : decode cX8_kindTold 20 = .ok (.iconst 1, 1) := by decide +kernel
theorem dX8_kindTold_21 : decode cX8_kindTold 21 = .ok (.ireturn, 1) := by decide +kernel
theorem dX8_kindTold_22 : decode cX8_kindTold 22 = .ok (.aload_n 0, 1) := by decide +kernel
theorem dX8_kindTold_23 : decode cX8_kindTold 23 = .ok (.ldc 89, 2) := by decide +kernel
theorem dX8_kindTold_25 : decode cX8_kindTold 25 = .ok (.invokevirtual 22, 3) := by decide +kernel
theorem dX8_kindTold_28 : decode cX8_kindTold 28 = .ok (.ifCond .eq 7, 3) := by decide +kernel
theorem dX8_kindTold_31 : decode cX8_kindTold 31 = .ok (.iconst 2, 1) := by decide +kernel
theorem dX8_kindTold_32 : decode cX8_kindTold 32 = .ok (.goto 4, 3) := by decide +kernel
theorem dX8_kindTold_35 : decode cX8_kindTold 35 = .ok (.iconst (-1), 1) := by decide +kernel
theorem dX8_kindTold_36 : decode cX8_kindTold 36 = .ok (.ireturn, 1) := by decide +kernel
theorem dX8_readInto_0 : decode cX8_readInto 0 = .ok (.aload_n 0, 1) := by decide +kernel
theorem dX8_readInto_1 : decode cX8_readInto 1 = .ok (.iload_n 1, 1) := by decide +kernel
theorem dX8_readInto_2 : decode cX8_readInto 2 = .ok (.iload_n 2, 1) := by decide +kernel
theorem dX8_readInto_3 : decode cX8_readInto 3 = .ok (.invokevirtual 91, 3) := by decide +kernel
theorem dX8_readInto_6 : decode cX8_readInto 6 = .ok (.ifCond .ne 5, 3) := by decide +kernel
theorem dX8_readInto_9 : decode cX8_readInto 9 = .ok (.iconst 0, 1) := by decide +kernel
theorem dX8_readInto_10 : decode cX8_readInto 10 = .ok (.ireturn, 1) := by decide +kernel
theorem dX8_readInto_11 : decode cX8_readInto 11 = .ok (.aload_n 3, 1) := by decide +kernel
theorem dX8_readInto_12 : decode cX8_readInto 12 = .ok (.iload 4, 2) := by decide +kernel
theorem dX8_readInto_14 : decode cX8_readInto 14 = .ok (.aload_n 0, 1) := by decide +kernel
theorem dX8_readInto_15 : decode cX8_readInto 15 = .ok (.getfield 95, 3) := by decide +kernel
theorem dX8_readInto_18 : decode cX8_readInto 18 = .ok (.iastore, 1) := by decide +kernel
theorem dX8_readInto_19 : decode cX8_readInto 19 = .ok (.iconst 1, 1) := by decide +kernel
theorem dX8_readInto_20 : decode cX8_readInto 20 = .ok (.ireturn, 1) := by decide +kernel
theorem dX8_readCart_0 : decode cX8_readCart 0 = .ok (.aload_n 1, 1) := by decide +kernel
theorem dX8_readCart_1 : decode cX8_readCart 1 = .ok (.getfield 98, 3) := by decide +kernel
theorem dX8_readCart_4 : decode cX8_readCart 4 = .ok (.istore_n 2, 1) := by decide +kernel
theorem dX8_readCart_5 : decode cX8_readCart 5 = .ok (.iload_n 2, 1) := by decide +kernel
theorem dX8_readCart_6 : decode cX8_readCart 6 = .ok (.iconst 4, 1) := by decide +kernel
theorem dX8_readCart_7 : decode cX8_readCart 7 = .ok (.if_icmp .lt 9, 3) := by decide +kernel
theorem dX8_readCart_10 : decode cX8_readCart 10 = .ok (.aload_n 0, 1) := by decide +kernel
theorem dX8_readCart_11 : decode cX8_readCart 11 = .ok (.iconst 2, 1) := by decide +kernel
theorem dX8_readCart_12 : decode cX8_readCart 12 = .ok (.invokevirtual 26, 3) := by decide +kernel
theorem dX8_readCart_15 : decode cX8_readCart 15 = .ok (.ireturn, 1) := by decide +kernel
theorem dX8_readCart_16 : decode cX8_readCart 16 = .ok (.aload_n 0, 1) := by decide +kernel
theorem dX8_readCart_17 : decode cX8_readCart 17 = .ok (.invokevirtual 57, 3) := by decide +kernel
theorem dX8_readCart_20 : decode cX8_readCart 20 = .ok (.aload_n 0, 1) := by decide +kernel
theorem dX8_readCart_21 : decode cX8_readCart 21 = .ok (.iconst 0, 1) := by decide +kernel
theorem dX8_readCart_22 : decode cX8_readCart 22 = .ok (.sipush 999, 3) := by decide +kernel
theorem dX8_readCart_25 : decode cX8_readCart 25 = .ok (.aload_n 1, 1) := by decide +kernel
theorem dX8_readCart_26 : decode cX8_readCart 26 = .ok (.getfield 101, 3) := by decide +kernel
theorem dX8_readCart_29 : decode cX8_readCart 29 = .ok (.iload_n 2, 1) := by decide +kernel
theorem dX8_readCart_30 : decode cX8_readCart 30 = .ok (.invokestatic 71, 3) := by decide +kernel
theorem dX8_readCart_33 : decode cX8_readCart 33 = .ok (.ifCond .ne 5, 3) := by decide +kernel
theorem dX8_readCart_36 : decode cX8_readCart 36 = .ok (.iconst 0, 1) := by decide +kernel
theorem dX8_readCart_37 : decode cX8_readCart 37 = .ok (.ireturn, 1) := by decide +kernel
theorem dX8_readCart_38 : decode cX8_readCart 38 = .ok (.iconst 0, 1) := by decide +kernel
theorem dX8_readCart_39 : decode cX8_readCart 39 = .ok (.istore_n 3, 1) := by decide +kernel
theorem dX8_readCart_40 : decode cX8_readCart 40 = .ok (.iload_n 3, 1) := by decide +kernel
theorem dX8_readCart_41 : decode cX8_readCart 41 = .ok (.iconst 2, 1) := by decide +kernel
theorem dX8_readCart_42 : decode cX8_readCart 42 = .ok (.if_icmp .ge 34, 3) := by decide +kernel
theorem dX8_readCart_45 : decode cX8_readCart 45 = .ok (.aload_n 0, 1) := by decide +kernel
theorem dX8_readCart_46 : decode cX8_readCart 46 = .ok (.bipush 20, 2) := by decide +kernel
theorem dX8_readCart_48 : decode cX8_readCart 48 = .ok (.invokevirtual 104, 3) := by decide +kernel
theorem dX8_readCart_51 : decode cX8_readCart 51 = .ok (.ifCond .ne 5, 3) := by decide +kernel
theorem dX8_readCart_54 : decode cX8_readCart 54 = .ok (.iconst 0, 1) := by decide +kernel
theorem dX8_readCart_55 : decode cX8_readCart 55 = .ok (.ireturn, 1) := by decide +kernel
theorem dX8_readCart_56 : decode cX8_readCart 56 = .ok (.aload_n 1, 1) := by decide +kernel
theorem dX8_readCart_57 : decode cX8_readCart 57 = .ok (.getfield 107, 3) := by decide +kernel
theorem dX8_readCart_60 : decode cX8_readCart 60 = .ok (.iconst 2, 1) := by decide +kernel
theorem dX8_readCart_61 : decode cX8_readCart 61 = .ok (.iload_n 2, 1) := by decide +kernel
theorem dX8_readCart_62 : decode cX8_readCart 62 = .ok (.imul, 1) := by decide +kernel
theorem dX8_readCart_63 : decode cX8_readCart 63 = .ok (.iload_n 3, 1) := by decide +kernel
theorem dX8_readCart_64 : decode cX8_readCart 64 = .ok (.iadd, 1) := by decide +kernel
theorem dX8_readCart_65 : decode cX8_readCart 65 = .ok (.aload_n 0, 1) := by decide +kernel
theorem dX8_readCart_66 : decode cX8_readCart 66 = .ok (.getfield 95, 3) := by decide +kernel
theorem dX8_readCart_69 : decode cX8_readCart 69 = .ok (.iastore, 1) := by decide +kernel
theorem dX8_readCart_70 : decode cX8_readCart 70 = .ok (.iinc 3 1, 3) := by decide +kernel
theorem dX8_readCart_73 : decode cX8_readCart 73 = .ok (.goto (-33), 3) := by decide +kernel
theorem dX8_readCart_76 : decode cX8_readCart 76 = .ok (.aload_n 1, 1) := by decide +kernel
theorem dX8_readCart_77 : decode cX8_readCart 77 = .ok (.dup, 1) := by decide +kernel
theorem dX8_readCart_78 : decode cX8_readCart 78 = .ok (.getfield 98, 3) := by decide +kernel
theorem dX8_readCart_81 : decode cX8_readCart 81 = .ok (.iconst 1, 1) := by decide +kernel
theorem dX8_readCart_82 : decode cX8_readCart 82 = .ok (.iadd, 1) := by decide +kernel
theorem dX8_readCart_83 : decode cX8_readCart 83 = .ok (.putfield 98, 3) := by decide +kernel
theorem dX8_readCart_86 : decode cX8_readCart 86 = .ok (.iconst 1, 1) := by decide +kernel
theorem dX8_readCart_87 : decode cX8_readCart 87 = .ok (.ireturn, 1) := by decide +kernel
theorem dX8_readPennies_0 : decode cX8_readPennies 0 = .ok (.aload_n 0, 1) := by decide +kernel
theorem dX8_readPennies_1 : decode cX8_readPennies 1 = .ok (.invokevirtual 57, 3) := by decide +kernel
theorem dX8_readPennies_4 : decode cX8_readPennies 4 = .ok (.iconst 0, 1) := by decide +kernel
theorem dX8_readPennies_5 : decode cX8_readPennies 5 = .ok (.istore_n 2, 1) := by decide +kernel
theorem dX8_readPennies_6 : decode cX8_readPennies 6 = .ok (.iload_n 2, 1) := by decide +kernel
theorem dX8_readPennies_7 : decode cX8_readPennies 7 = .ok (.iconst 4, 1) := by decide +kernel
theorem dX8_readPennies_8 : decode cX8_readPennies 8 = .ok (.if_icmp .ge 26, 3) := by decide +kernel
theorem dX8_readPennies_11 : decode cX8_readPennies 11 = .ok (.aload_n 0, 1) := by decide +kernel
theorem dX8_readPennies_12 : decode cX8_readPennies 12 = .ok (.iconst 0, 1) := by decide +kernel
theorem dX8_readPennies_13 : decode cX8_readPennies 13 = .ok (.bipush 9, 2) := by decide +kernel
theorem dX8_readPennies_15 : decode cX8_readPennies 15 = .ok (.aload_n 1, 1) := by decide +kernel
theorem dX8_readPennies_16 : decode cX8_readPennies 16 = .ok (.getfield 75, 3) := by decide +kernel
theorem dX8_readPennies_19 : decode cX8_readPennies 19 = .ok (.iload_n 2, 1) := by decide +kernel
theorem dX8_readPennies_20 : decode cX8_readPennies 20 = .ok (.invokestatic 71, 3) := by decide +kernel
theorem dX8_readPennies_23 : decode cX8_readPennies 23 = .ok (.ifCond .ne 5, 3) := by decide +kernel
theorem dX8_readPennies_26 : decode cX8_readPennies 26 = .ok (.iconst 0, 1) := by decide +kernel
theorem dX8_readPennies_27 : decode cX8_readPennies 27 = .ok (.ireturn, 1) := by decide +kernel
theorem dX8_readPennies_28 : decode cX8_readPennies 28 = .ok (.iinc 2 1, 3) := by decide +kernel
theorem dX8_readPennies_31 : decode cX8_readPennies 31 = .ok (.goto (-25), 3) := by decide +kernel
theorem dX8_readPennies_34 : decode cX8_readPennies 34 = .ok (.iconst 1, 1) := by decide +kernel
theorem dX8_readPennies_35 : decode cX8_readPennies 35 = .ok (.ireturn, 1) := by decide +kernel
theorem dX9_init_0 : decode cX9_init 0 = .ok (.aload_n 0, 1) := by decide +kernel
theorem dX9_init_1 : decode cX9_init 1 = .ok (.invokespecial 3, 3) := by decide +kernel
theorem dX9_init_4 : decode cX9_init 4 = .ok (.aload_n 0, 1) := by decide +kernel
theorem dX9_init_5 : decode cX9_init 5 = .ok (.sipush 400, 3) := by decide +kernel
theorem dX9_init_8 : decode cX9_init 8 = .ok (.newarray .byte, 2) := by decide +kernel
theorem dX9_init_10 : decode cX9_init 10 = .ok (.putfield 11, 3) := by decide +kernel
theorem dX9_init_13 : decode cX9_init 13 = .ok (.aload_n 0, 1) := by decide +kernel
theorem dX9_init_14 : decode cX9_init 14 = .ok (.iconst (-1), 1) := by decide +kernel
theorem dX9_init_15 : decode cX9_init 15 = .ok (.putfield 15, 3) := by decide +kernel
theorem dX9_init_18 : decode cX9_init 18 = .ok (.return_, 1) := by decide +kernel
theorem dX9_hasRoom_0 : decode cX9_hasRoom 0 = .ok (.aload_n 0, 1) := by decide +kernel
theorem dX9_hasRoom_1 : decode cX9_hasRoom 1 = .ok (.getfield 19, 3) := by decide +kernel
theorem dX9_hasRoom_4 : decode cX9_hasRoom 4 = .ok (.bipush 20, 2) := by decide +kernel
theorem dX9_hasRoom_6 : decode cX9_hasRoom 6 = .ok (.iadd, 1) := by decide +kernel
theorem dX9_hasRoom_7 : decode cX9_hasRoom 7 = .ok (.sipush 400, 3) := by decide +kernel
theorem dX9_hasRoom_10 : decode cX9_hasRoom 10 = .ok (.if_icmp .gt 7, 3) := by decide +kernel
theorem dX9_hasRoom_13 : decode cX9_hasRoom 13 = .ok (.iconst 1, 1) := by decide +kernel
theorem dX9_hasRoom_14 : decode cX9_hasRoom 14 = .ok (.goto 4, 3) := by decide +kernel
theorem dX9_hasRoom_17 : decode cX9_hasRoom 17 = .ok (.iconst 0, 1) := by decide +kernel
theorem dX9_hasRoom_18 : decode cX9_hasRoom 18 = .ok (.ireturn, 1) := by decide +kernel
theorem dX9_lay_0 : decode cX9_lay 0 = .ok (.bipush 24, 2) := by decide +kernel
theorem dX9_lay_2 : decode cX9_lay 2 = .ok (.istore_n 2, 1) := by decide +kernel
theorem dX9_lay_3 : decode cX9_lay 3 = .ok (.iload_n 2, 1) := by decide +kernel
theorem dX9_lay_4 : decode cX9_lay 4 = .ok (.ifCond .lt 42, 3) := by decide +kernel
theorem dX9_lay_7 : decode cX9_lay 7 = .ok (.aload_n 0, 1) := by decide +kernel
theorem dX9_lay_8 : decode cX9_lay 8 = .ok (.getfield 19, 3) := by decide +kernel
theorem dX9_lay_11 : decode cX9_lay 11 = .ok (.sipush 400, 3) := by decide +kernel
theorem dX9_lay_14 : decode cX9_lay 14 = .ok (.if_icmp .ge 32, 3) := by decide +kernel
theorem dX9_lay_17 : decode cX9_lay 17 = .ok (.aload_n 0, 1) := by decide +kernel
theorem dX9_lay_18 : decode cX9_lay 18 = .ok (.getfield 11, 3) := by decide +kernel
theorem dX9_lay_21 : decode cX9_lay 21 = .ok (.aload_n 0, 1) := by decide +kernel
theorem dX9_lay_22 : decode cX9_lay 22 = .ok (.getfield 19, 3) := by decide +kernel
theorem dX9_lay_25 : decode cX9_lay 25 = .ok (.iload_n 1, 1) := by decide +kernel
theorem dX9_lay_26 : decode cX9_lay 26 = .ok (.iload_n 2, 1) := by decide +kernel
theorem dX9_lay_27 : decode cX9_lay 27 = .ok (.iushr, 1) := by decide +kernel
theorem dX9_lay_28 : decode cX9_lay 28 = .ok (.i2b, 1) := by decide +kernel
theorem dX9_lay_29 : decode cX9_lay 29 = .ok (.bastore, 1) := by decide +kernel
theorem dX9_lay_30 : decode cX9_lay 30 = .ok (.aload_n 0, 1) := by decide +kernel
theorem dX9_lay_31 : decode cX9_lay 31 = .ok (.dup, 1) := by decide +kernel
theorem dX9_lay_32 : decode cX9_lay 32 = .ok (.getfield 19, 3) := by decide +kernel
theorem dX9_lay_35 : decode cX9_lay 35 = .ok (.iconst 1, 1) := by decide +kernel
theorem dX9_lay_36 : decode cX9_lay 36 = .ok (.iadd, 1) := by decide +kernel
theorem dX9_lay_37 : decode cX9_lay 37 = .ok (.putfield 19, 3) := by decide +kernel
theorem dX9_lay_40 : decode cX9_lay 40 = .ok (.iinc 2 (-8), 3) := by decide +kernel
theorem dX9_lay_43 : decode cX9_lay 43 = .ok (.goto (-40), 3) := by decide +kernel
theorem dX9_lay_46 : decode cX9_lay 46 = .ok (.return_, 1) := by decide +kernel
theorem dX9_begin_0 : decode cX9_begin 0 = .ok (.aload_n 0, 1) := by decide +kernel
theorem dX9_begin_1 : decode cX9_begin 1 = .ok (.iconst 0, 1) := by decide +kernel
theorem dX9_begin_2 : decode cX9_begin 2 = .ok (.iload_n 1, 1) := by decide +kernel
theorem dX9_begin_3 : decode cX9_begin 3 = .ok (.aload_n 0, 1) := by decide +kernel
theorem dX9_begin_4 : decode cX9_begin 4 = .ok (.getfield 19, 3) := by decide +kernel
theorem dX9_begin_7 : decode cX9_begin 7 = .ok (.invokestatic 22, 3) := by decide +kernel
theorem dX9_begin_10 : decode cX9_begin 10 = .ok (.invokestatic 28, 3) := by decide +kernel
theorem dX9_begin_13 : decode cX9_begin 13 = .ok (.putfield 31, 3) := by decide +kernel
theorem dX9_begin_16 : decode cX9_begin 16 = .ok (.aload_n 0, 1) := by decide +kernel
theorem dX9_begin_17 : decode cX9_begin 17 = .ok (.iconst 0, 1) := by decide +kernel
theorem dX9_begin_18 : decode cX9_begin 18 = .ok (.putfield 34, 3) := by decide +kernel
theorem dX9_begin_21 : decode cX9_begin 21 = .ok (.aload_n 0, 1) := by decide +kernel
theorem dX9_begin_22 : decode cX9_begin 22 = .ok (.iconst 0, 1) := by decide +kernel
theorem dX9_begin_23 : decode cX9_begin 23 = .ok (.putfield 37, 3) := by decide +kernel
theorem dX9_begin_26 : decode cX9_begin 26 = .ok (.aload_n 0, 1) := by decide +kernel
theorem dX9_begin_27 : decode cX9_begin 27 = .ok (.iconst (-1), 1) := by decide +kernel
theorem dX9_begin_28 : decode cX9_begin 28 = .ok (.putfield 15, 3) := by decide +kernel
theorem dX9_begin_31 : decode cX9_begin 31 = .ok (.aload_n 0, 1) := by decide +kernel
theorem dX9_begin_32 : decode cX9_begin 32 = .ok (.invokevirtual 40, 3) := by decide +kernel
theorem dX9_begin_35 : decode cX9_begin 35 = .ok (.return_, 1) := by decide +kernel
theorem dX9_advance_0 : decode cX9_advance 0 = .ok (.aload_n 0, 1) := by decide +kernel
theorem dX9_advance_1 : decode cX9_advance 1 = .ok (.getfield 34, 3) := by decide +kernel
theorem dX9_advance_4 : decode cX9_advance 4 = .ok (.aload_n 0, 1) := by decide +kernel
theorem dX9_advance_5 : decode cX9_advance 5 = .ok (.getfield 31, 3) := by decide +kernel
theorem dX9_advance_8 : decode cX9_advance 8 = .ok (.if_icmp .ge 31, 3) := by decide +kernel
theorem dX9_advance_11 : decode cX9_advance 11 = .ok (.aload_n 0, 1) := by decide +kernel
theorem dX9_advance_12 : decode cX9_advance 12 = .ok (.getfield 11, 3) := by decide +kernel
theorem dX9_advance_15 : decode cX9_advance 15 = .ok (.aload_n 0, 1) := by decide +kernel
theorem dX9_advance_16 : decode cX9_advance 16 = .ok (.getfield 34, 3) := by decide +kernel
theorem dX9_advance_19 : decode cX9_advance 19 = .ok (.baload, 1) := by decide +kernel
theorem dX9_advance_20 : decode cX9_advance 20 = .ok (.invokestatic 43, 3) := by decide +kernel
theorem dX9_advance_23 : decode cX9_advance 23 = .ok (.ifCond .eq 16, 3) := by decide +kernel
theorem dX9_advance_26 : decode cX9_advance 26 = .ok (.aload_n 0, 1) := by decide +kernel
theorem dX9_advance_27 : decode cX9_advance 27 = .ok (.dup, 1) := by decide +kernel
theorem dX9_advance_28 : decode cX9_advance 28 = .ok (.getfield 34, 3) := by decide +kernel
theorem dX9_advance_31 : decode cX9_advance 31 = .ok (.iconst 1, 1) := by decide +kernel
theorem dX9_advance_32 : decode cX9_advance 32 = .ok (.iadd, 1) := by decide +kernel
theorem dX9_advance_33 : decode cX9_advance 33 = .ok (.putfield 34, 3) := by decide +kernel
theorem dX9_advance_36 : decode cX9_advance 36 = .ok (.goto (-36), 3) := by decide +kernel
theorem dX9_advance_39 : decode cX9_advance 39 = .ok (.aload_n 0, 1) := by decide +kernel
theorem dX9_advance_40 : decode cX9_advance 40 = .ok (.aload_n 0, 1) := by decide +kernel
theorem dX9_advance_41 : decode cX9_advance 41 = .ok (.getfield 34, 3) := by decide +kernel
theorem dX9_advance_44 : decode cX9_advance 44 = .ok (.putfield 47, 3) := by decide +kernel
theorem dX9_advance_47 : decode cX9_advance 47 = .ok (.aload_n 0, 1) := by decide +kernel
theorem dX9_advance_48 : decode cX9_advance 48 = .ok (.getfield 34, 3) := by decide +kernel
theorem dX9_advance_51 : decode cX9_advance 51 = .ok (.aload_n 0, 1) := by decide +kernel
theorem dX9_advance_52 : decode cX9_advance 52 = .ok (.getfield 31, 3) := by decide +kernel
theorem dX9_advance_55 : decode cX9_advance 55 = .ok (.if_icmp .lt 9, 3) := by decide +kernel
theorem dX9_advance_58 : decode cX9_advance 58 = .ok (.aload_n 0, 1) := by decide +kernel
theorem dX9_advance_59 : decode cX9_advance 59 = .ok (.iconst 0, 1) := by decide +kernel
theorem dX9_advance_60 : decode cX9_advance 60 = .ok (.putfield 50, 3) := by decide +kernel
theorem dX9_advance_63 : decode cX9_advance 63 = .ok (.return_, 1) := by decide +kernel
theorem dX9_advance_64 : decode cX9_advance 64 = .ok (.aload_n 0, 1) := by decide +kernel
theorem dX9_advance_65 : decode cX9_advance 65 = .ok (.getfield 11, 3) := by decide +kernel
theorem dX9_advance_68 : decode cX9_advance 68 = .ok (.aload_n 0, 1) := by decide +kernel
theorem dX9_advance_69 : decode cX9_advance 69 = .ok (.getfield 34, 3) := by decide +kernel
theorem dX9_advance_72 : decode cX9_advance 72 = .ok (.baload, 1) := by decide +kernel
theorem dX9_advance_73 : decode cX9_advance 73 = .ok (.istore_n 1, 1) := by decide +kernel
theorem dX9_advance_74 : decode cX9_advance 74 = .ok (.aload_n 0, 1) := by decide +kernel
theorem dX9_advance_75 : decode cX9_advance 75 = .ok (.dup, 1) := by decide +kernel
theorem dX9_advance_76 : decode cX9_advance 76 = .ok (.getfield 34, 3) := by decide +kernel
theorem dX9_advance_79 : decode cX9_advance 79 = .ok (.iconst 1, 1) := by decide +kernel
theorem dX9_advance_80 : decode cX9_advance 80 = .ok (.iadd, 1) := by decide +kernel
theorem dX9_advance_81 : decode cX9_advance 81 = .ok (.putfield 34, 3) := by decide +kernel
theorem dX9_advance_84 : decode cX9_advance 84 = .ok (.iload_n 1, 1) := by decide +kernel
theorem dX9_advance_85 : decode cX9_advance 85 = .ok (.invokestatic 53, 3) := by decide +kernel
theorem dX9_advance_88 : decode cX9_advance 88 = .ok (.ifCond .eq 47, 3) := by decide +kernel
theorem dX9_advance_91 : decode cX9_advance 91 = .ok (.aload_n 0, 1) := by decide +kernel
theorem dX9_advance_92 : decode cX9_advance 92 = .ok (.iconst 1, 1) := by decide +kernel
theorem dX9_advance_93 : decode cX9_advance 93 = .ok (.putfield 50, 3) := by decide +kernel
theorem dX9_advance_96 : decode cX9_advance 96 = .ok (.aload_n 0, 1) := by decide +kernel
theorem dX9_advance_97 : decode cX9_advance 97 = .ok (.getfield 34, 3) := by decide +kernel
theorem dX9_advance_100 : decode cX9_advance 100 = .ok (.aload_n 0, 1) := by decide +kernel
theorem dX9_advance_101 : decode cX9_advance 101 = .ok (.getfield 31, 3) := by decide +kernel
theorem dX9_advance_104 : decode cX9_advance 104 = .ok (.if_icmp .ge 170, 3) := by decide +kernel
theorem dX9_advance_107 : decode cX9_advance 107 = .ok (.aload_n 0, 1) := by decide +kernel
theorem dX9_advance_108 : decode cX9_advance 108 = .ok (.getfield 11, 3) := by decide +kernel
theorem dX9_advance_111 : decode cX9_advance 111 = .ok (.aload_n 0, 1) := by decide +kernel
theorem dX9_advance_112 : decode cX9_advance 112 = .ok (.getfield 34, 3) := by decide +kernel
theorem dX9_advance_115 : decode cX9_advance 115 = .ok (.baload, 1) := by decide +kernel
theorem dX9_advance_116 : decode cX9_advance 116 = .ok (.invokestatic 53, 3) := by decide +kernel
theorem dX9_advance_119 : decode cX9_advance 119 = .ok (.ifCond .eq 155, 3) := by decide +kernel
theorem dX9_advance_122 : decode cX9_advance 122 = .ok (.aload_n 0, 1) := by decide +kernel
theorem dX9_advance_123 : decode cX9_advance 123 = .ok (.dup, 1) := by decide +kernel
theorem dX9_advance_124 : decode cX9_advance 124 = .ok (.getfield 34, 3) := by decide +kernel
theorem dX9_advance_127 : decode cX9_advance 127 = .ok (.iconst 1, 1) := by decide +kernel
theorem dX9_advance_128 : decode cX9_advance 128 = .ok (.iadd, 1) := by decide +kernel
theorem dX9_advance_129 : decode cX9_advance 129 = .ok (.putfield 34, 3) := by decide +kernel
theorem dX9_advance_132 : decode cX9_advance 132 = .ok (.goto (-36), 3) := by decide +kernel
theorem dX9_advance_135 : decode cX9_advance 135 = .ok (.iload_n 1, 1) := by decide +kernel
theorem dX9_advance_136 : decode cX9_advance 136 = .ok (.invokestatic 56, 3) := by decide +kernel
theorem dX9_advance_139 : decode cX9_advance 139 = .ok (.ifCond .eq 125, 3) := by decide +kernel
theorem dX9_advance_142 : decode cX9_advance 142 = .ok (.aload_n 0, 1) := by decide +kernel
theorem dX9_advance_143 : decode cX9_advance 143 = .ok (.iconst 2, 1) := by decide +kernel
theorem dX9_advance_144 : decode cX9_advance 144 = .ok (.putfield 50, 3) := by decide +kernel
theorem dX9_advance_147 : decode cX9_advance 147 = .ok (.aload_n 0, 1) := by decide +kernel
theorem dX9_advance_148 : decode cX9_advance 148 = .ok (.iload_n 1, 1) := by decide +kernel
theorem dX9_advance_149 : decode cX9_advance 149 = .ok (.bipush 48, 2) := by decide +kernel
theorem dX9_advance_151 : decode cX9_advance 151 = .ok (.isub, 1) := by decide +kernel
theorem dX9_advance_152 : decode cX9_advance 152 = .ok (.putfield 59, 3) := by decide +kernel
theorem dX9_advance_155 : decode cX9_advance 155 = .ok (.aload_n 0, 1) := by decide +kernel
theorem dX9_advance_156 : decode cX9_advance 156 = .ok (.getfield 34, 3) := by decide +kernel
theorem dX9_advance_159 : decode cX9_advance 159 = .ok (.aload_n 0, 1) := by decide +kernel
theorem dX9_advance_160 : decode cX9_advance 160 = .ok (.getfield 31, 3) := by decide +kernel
theorem dX9_advance_163 : decode cX9_advance 163 = .ok (.if_icmp .ge 71, 3) := by decide +kernel
theorem dX9_advance_166 : decode cX9_advance 166 = .ok (.aload_n 0, 1) := by decide +kernel
theorem dX9_advance_167 : decode cX9_advance 167 = .ok (.getfield 11, 3) := by decide +kernel
theorem dX9_advance_170 : decode cX9_advance 170 = .ok (.aload_n 0, 1) := by decide +kernel
theorem dX9_advance_171 : decode cX9_advance 171 = .ok (.getfield 34, 3) := by decide +kernel
theorem dX9_advance_174 : decode cX9_advance 174 = .ok (.baload, 1) := by decide +kernel
theorem dX9_advance_175 : decode cX9_advance 175 = .ok (.invokestatic 56, 3) := by decide +kernel
theorem dX9_advance_178 : decode cX9_advance 178 = .ok (.ifCond .eq 56, 3) := by decide +kernel
theorem dX9_advance_181 : decode cX9_advance 181 = .ok (.aload_n 0, 1) := by decide +kernel
theorem dX9_advance_182 : decode cX9_advance 182 = .ok (.aload_n 0, 1) := by decide +kernel
theorem dX9_advance_183 : decode cX9_advance 183 = .ok (.getfield 59, 3) := by decide +kernel
theorem dX9_advance_186 : decode cX9_advance 186 = .ok (.sipush 1000, 3) := by decide +kernel
theorem dX9_advance_189 : decode cX9_advance 189 = .ok (.if_icmp .ge 26, 3) := by decide +kernel
theorem dX9_advance_192 : decode cX9_advance 192 = .ok (.bipush 10, 2) := by decide +kernel
theorem dX9_advance_194 : decode cX9_advance 194 = .ok (.aload_n 0, 1) := by decide +kernel
theorem dX9_advance_195 : decode cX9_advance 195 = .ok (.getfield 59, 3) := by decide +kernel
theorem dX9_advance_198 : decode cX9_advance 198 = .ok (.imul, 1) := by decide +kernel
theorem dX9_advance_199 : decode cX9_advance 199 = .ok (.aload_n 0, 1) := by decide +kernel
theorem dX9_advance_200 : decode cX9_advance 200 = .ok (.getfield 11, 3) := by decide +kernel
theorem dX9_advance_203 : decode cX9_advance 203 = .ok (.aload_n 0, 1) := by decide +kernel
theorem dX9_advance_204 : decode cX9_advance 204 = .ok (.getfield 34, 3) := by decide +kernel
theorem dX9_advance_207 : decode cX9_advance 207 = .ok (.baload, 1) := by decide +kernel
theorem dX9_advance_208 : decode cX9_advance 208 = .ok (.iadd, 1) := by decide +kernel
theorem dX9_advance_209 : decode cX9_advance 209 = .ok (.bipush 48, 2) := by decide +kernel
theorem dX9_advance_211 : decode cX9_advance 211 = .ok (.isub, 1) := by decide +kernel
theorem dX9_advance_212 : decode cX9_advance 212 = .ok (.goto 6, 3) := by decide +kernel
theorem dX9_advance_215 : decode cX9_advance 215 = .ok (.sipush 1000, 3) := by decide +kernel
theorem dX9_advance_218 : decode cX9_advance 218 = .ok (.putfield 59, 3) := by decide +kernel
theorem dX9_advance_221 : decode cX9_advance 221 = .ok (.aload_n 0, 1) := by decide +kernel
theorem dX9_advance_222 : decode cX9_advance 222 = .ok (.dup, 1) := by decide +kernel
theorem dX9_advance_223 : decode cX9_advance 223 = .ok (.getfield 34, 3) := by decide +kernel
theorem dX9_advance_226 : decode cX9_advance 226 = .ok (.iconst 1, 1) := by decide +kernel
theorem dX9_advance_227 : decode cX9_advance 227 = .ok (.iadd, 1) := by decide +kernel
theorem dX9_advance_228 : decode cX9_advance 228 = .ok (.putfield 34, 3) := by decide +kernel
theorem dX9_advance_231 : decode cX9_advance 231 = .ok (.goto (-76), 3) := by decide +kernel
theorem dX9_advance_234 : decode cX9_advance 234 = .ok (.aload_n 0, 1) := by decide +kernel
theorem dX9_advance_235 : decode cX9_advance 235 = .ok (.aload_n 0, 1) := by decide +kernel
theorem dX9_advance_236 : decode cX9_advance 236 = .ok (.getfield 34, 3) := by decide +kernel
theorem dX9_advance_239 : decode cX9_advance 239 = .ok (.aload_n 0, 1) := by decide +kernel
theorem dX9_advance_240 : decode cX9_advance 240 = .ok (.getfield 47, 3) := by decide +kernel
theorem dX9_advance_243 : decode cX9_advance 243 = .ok (.isub, 1) := by decide +kernel
theorem dX9_advance_244 : decode cX9_advance 244 = .ok (.iconst 3, 1) := by decide +kernel
theorem dX9_advance_245 : decode cX9_advance 245 = .ok (.if_icmp .le 9, 3) := by decide +kernel
theorem dX9_advance_248 : decode cX9_advance 248 = .ok (.sipush 1000, 3) := by decide +kernel
theorem dX9_advance_251 : decode cX9_advance 251 = .ok (.goto 7, 3) := by decide +kernel
theorem dX9_advance_254 : decode cX9_advance 254 = .ok (.aload_n 0, 1) := by decide +kernel
theorem dX9_advance_255 : decode cX9_advance 255 = .ok (.getfield 59, 3) := by decide +kernel
theorem dX9_advance_258 : decode cX9_advance 258 = .ok (.putfield 59, 3) := by decide +kernel
theorem dX9_advance_261 : decode cX9_advance 261 = .ok (.goto 13, 3) := by decide +kernel
theorem dX9_advance_264 : decode cX9_advance 264 = .ok (.aload_n 0, 1) := by decide +kernel
theorem dX9_advance_265 : decode cX9_advance 265 = .ok (.iconst 3, 1) := by decide +kernel
theorem dX9_advance_266 : decode cX9_advance 266 = .ok (.putfield 50, 3) := by decide +kernel
theorem dX9_advance_269 : decode cX9_advance 269 = .ok (.aload_n 0, 1) := by decide +kernel
theorem dX9_advance_270 : decode cX9_advance 270 = .ok (.iload_n 1, 1) := by decide +kernel
theorem dX9_advance_271 : decode cX9_advance 271 = .ok (.putfield 59, 3) := by decide +kernel
theorem dX9_advance_274 : decode cX9_advance 274 = .ok (.return_, 1) := by decide +kernel
theorem dX9_isBlank_0 : decode cX9_isBlank 0 = .ok (.iload_n 0, 1) := by decide +kernel
theorem dX9_isBlank_1 : decode cX9_isBlank 1 = .ok (.bipush 32, 2) := by decide +kernel
theorem dX9_isBlank_3 : decode cX9_isBlank 3 = .ok (.if_icmp .eq 9, 3) := by decide +kernel
theorem dX9_isBlank_6 : decode cX9_isBlank 6 = .ok (.iload_n 0, 1) := by decide +kernel
theorem dX9_isBlank_7 : decode cX9_isBlank 7 = .ok (.bipush 10, 2) := by decide +kernel
theorem dX9_isBlank_9 : decode cX9_isBlank 9 = .ok (.if_icmp .ne 7, 3) := by decide +kernel
theorem dX9_isBlank_12 : decode cX9_isBlank 12 = .ok (.iconst 1, 1) := by decide +kernel
theorem dX9_isBlank_13 : decode cX9_isBlank 13 = .ok (.goto 4, 3) := by decide +kernel
theorem dX9_isBlank_16 : decode cX9_isBlank 16 = .ok (.iconst 0, 1) := by decide +kernel
theorem dX9_isBlank_17 : decode cX9_isBlank 17 = .ok (.ireturn, 1) := by decide +kernel
theorem dX9_isLetter_0 : decode cX9_isLetter 0 = .ok (.iload_n 0, 1) := by decide +kernel
theorem dX9_isLetter_1 : decode cX9_isLetter 1 = .ok (.bipush 97, 2) := by decide +kernel
theorem dX9_isLetter_3 : decode cX9_isLetter 3 = .ok (.if_icmp .lt 13, 3) := by decide +kernel
theorem dX9_isLetter_6 : decode cX9_isLetter 6 = .ok (.iload_n 0, 1) := by decide +kernel
theorem dX9_isLetter_7 : decode cX9_isLetter 7 = .ok (.bipush 122, 2) := by decide +kernel
theorem dX9_isLetter_9 : decode cX9_isLetter 9 = .ok (.if_icmp .gt 7, 3) := by decide +kernel
theorem dX9_isLetter_12 : decode cX9_isLetter 12 = .ok (.iconst 1, 1) := by decide +kernel
theorem dX9_isLetter_13 : decode cX9_isLetter 13 = .ok (.goto 4, 3) := by decide +kernel
theorem dX9_isLetter_16 : decode cX9_isLetter 16 = .ok (.iconst 0, 1) := by decide +kernel
theorem dX9_isLetter_17 : decode cX9_isLetter 17 = .ok (.ireturn, 1) := by decide +kernel
theorem dX9_isDigit_0 : decode cX9_isDigit 0 = .ok (.iload_n 0, 1) := by decide +kernel
theorem dX9_isDigit_1 : decode cX9_isDigit 1 = .ok (.bipush 48, 2) := by decide +kernel
theorem dX9_isDigit_3 : decode cX9_isDigit 3 = .ok (.if_icmp .lt 13, 3) := by decide +kernel
theorem dX9_isDigit_6 : decode cX9_isDigit 6 = .ok (.iload_n 0, 1) := by decide +kernel
theorem dX9_isDigit_7 : decode cX9_isDigit 7 = .ok (.bipush 57, 2) := by decide +kernel
theorem dX9_isDigit_9 : decode cX9_isDigit 9 = .ok (.if_icmp .gt 7, 3) := by decide +kernel
theorem dX9_isDigit_12 : decode cX9_isDigit 12 = .ok (.iconst 1, 1) := by decide +kernel
theorem dX9_isDigit_13 : decode cX9_isDigit 13 = .ok (.goto 4, 3) := by decide +kernel
theorem dX9_isDigit_16 : decode cX9_isDigit 16 = .ok (.iconst 0, 1) := by decide +kernel
theorem dX9_isDigit_17 : decode cX9_isDigit 17 = .ok (.ireturn, 1) := by decide +kernel
theorem dX9_isEnd_0 : decode cX9_isEnd 0 = .ok (.aload_n 0, 1) := by decide +kernel
theorem dX9_isEnd_1 : decode cX9_isEnd 1 = .ok (.getfield 50, 3) := by decide +kernel
theorem dX9_isEnd_4 : decode cX9_isEnd 4 = .ok (.ifCond .ne 7, 3) := by decide +kernel
theorem dX9_isEnd_7 : decode cX9_isEnd 7 = .ok (.iconst 1, 1) := by decide +kernel
theorem dX9_isEnd_8 : decode cX9_isEnd 8 = .ok (.goto 4, 3) := by decide +kernel
theorem dX9_isEnd_11 : decode cX9_isEnd 11 = .ok (.iconst 0, 1) := by decide +kernel
theorem dX9_isEnd_12 : decode cX9_isEnd 12 = .ok (.ireturn, 1) := by decide +kernel
theorem dX9_isWord_0 : decode cX9_isWord 0 = .ok (.aload_n 0, 1) := by decide +kernel
theorem dX9_isWord_1 : decode cX9_isWord 1 = .ok (.getfield 50, 3) := by decide +kernel
theorem dX9_isWord_4 : decode cX9_isWord 4 = .ok (.iconst 1, 1) := by decide +kernel
theorem dX9_isWord_5 : decode cX9_isWord 5 = .ok (.if_icmp .ne 19, 3) := by decide +kernel
theorem dX9_isWord_8 : decode cX9_isWord 8 = .ok (.aload_n 0, 1) := by decide +kernel
theorem dX9_isWord_9 : decode cX9_isWord 9 = .ok (.getfield 34, 3) := by decide +kernel
theorem dX9_isWord_12 : decode cX9_isWord 12 = .ok (.aload_n 0, 1) := by decide +kernel
theorem dX9_isWord_13 : decode cX9_isWord 13 = .ok (.getfield 47, 3) := by decide +kernel
theorem dX9_isWord_16 : decode cX9_isWord 16 = .ok (.isub, 1) := by decide +kernel
theorem dX9_isWord_17 : decode cX9_isWord 17 = .ok (.aload_n 1, 1) := by decide +kernel
theorem dX9_isWord_18 : decode cX9_isWord 18 = .ok (.invokevirtual 62, 3) := by decide +kernel
theorem dX9_isWord_21 : decode cX9_isWord 21 = .ok (.if_icmp .eq 5, 3) := by decide +kernel
theorem dX9_isWord_24 : decode cX9_isWord 24 = .ok (.iconst 0, 1) := by decide +kernel
theorem dX9_isWord_25 : decode cX9_isWord 25 = .ok (.ireturn, 1) := by decide +kernel
theorem dX9_isWord_26 : decode cX9_isWord 26 = .ok (.iconst 0, 1) := by decide +kernel
theorem dX9_isWord_27 : decode cX9_isWord 27 = .ok (.istore_n 2, 1) := by decide +kernel
theorem dX9_isWord_28 : decode cX9_isWord 28 = .ok (.iload_n 2, 1) := by decide +kernel
theorem dX9_isWord_29 : decode cX9_isWord 29 = .ok (.aload_n 1, 1) := by decide +kernel
theorem dX9_isWord_30 : decode cX9_isWord 30 = .ok (.invokevirtual 62, 3) := by decide +kernel
theorem dX9_isWord_33 : decode cX9_isWord 33 = .ok (.if_icmp .ge 30, 3) := by decide +kernel
theorem dX9_isWord_36 : decode cX9_isWord 36 = .ok (.aload_n 0, 1) := by decide +kernel
theorem dX9_isWord_37 : decode cX9_isWord 37 = .ok (.getfield 11, 3) := by decide +kernel
theorem dX9_isWord_40 : decode cX9_isWord 40 = .ok (.aload_n 0, 1) := by decide +kernel
theorem dX9_isWord_41 : decode cX9_isWord 41 = .ok (.getfield 47, 3) := by decide +kernel
theorem dX9_isWord_44 : decode cX9_isWord 44 = .ok (.iload_n 2, 1) := by decide +kernel
theorem dX9_isWord_45 : decode cX9_isWord 45 = .ok (.iadd, 1) := by decide +kernel
theorem dX9_isWord_46 : decode cX9_isWord 46 = .ok (.baload, 1) := by decide +kernel
theorem dX9_isWord_47 : decode cX9_isWord 47 = .ok (.aload_n 1, 1) := by decide +kernel
theorem dX9_isWord_48 : decode cX9_isWord 48 = .ok (.iload_n 2, 1) := by decide +kernel
theorem dX9_isWord_49 : decode cX9_isWord 49 = .ok (.invokevirtual 67, 3) := by decide +kernel
theorem dX9_isWord_52 : decode cX9_isWord 52 = .ok (.if_icmp .eq 5, 3) := by decide +kernel
theorem dX9_isWord_55 : decode cX9_isWord 55 = .ok (.iconst 0, 1) := by decide +kernel
theorem dX9_isWord_56 : decode cX9_isWord 56 = .ok (.ireturn, 1) := by decide +kernel
theorem dX9_isWord_57 : decode cX9_isWord 57 = .ok (.iinc 2 1, 3) := by decide +kernel
theorem dX9_isWord_60 : decode cX9_isWord 60 = .ok (.goto (-32), 3) := by decide +kernel
theorem dX9_isWord_63 : decode cX9_isWord 63 = .ok (.iconst 1, 1) := by decide +kernel
theorem dX9_isWord_64 : decode cX9_isWord 64 = .ok (.ireturn, 1) := by decide +kernel
theorem dX9_isSign_0 : decode cX9_isSign 0 = .ok (.aload_n 0, 1) := by decide +kernel
theorem dX9_isSign_1 : decode cX9_isSign 1 = .ok (.getfield 50, 3) := by decide +kernel
theorem dX9_isSign_4 : decode cX9_isSign 4 = .ok (.iconst 3, 1) := by decide +kernel
theorem dX9_isSign_5 : decode cX9_isSign 5 = .ok (.if_icmp .ne 15, 3) := by decide +kernel
theorem dX9_isSign_8 : decode cX9_isSign 8 = .ok (.aload_n 0, 1) := by decide +kernel
theorem dX9_isSign_9 : decode cX9_isSign 9 = .ok (.getfield 59, 3) := by decide +kernel
theorem dX9_isSign_12 : decode cX9_isSign 12 = .ok (.iload_n 1, 1) := by decide +kernel
theorem dX9_isSign_13 : decode cX9_isSign 13 = .ok (.if_icmp .ne 7, 3) := by decide +kernel
theorem dX9_isSign_16 : decode cX9_isSign 16 = .ok (.iconst 1, 1) := by decide +kernel
theorem dX9_isSign_17 : decode cX9_isSign 17 = .ok (.goto 4, 3) := by decide +kernel
theorem dX9_isSign_20 : decode cX9_isSign 20 = .ok (.iconst 0, 1) := by decide +kernel
theorem dX9_isSign_21 : decode cX9_isSign 21 = .ok (.ireturn, 1) := by decide +kernel
theorem dX9_refuse_0 : decode cX9_refuse 0 = .ok (.aload_n 0, 1) := by decide +kernel
theorem dX9_refuse_1 : decode cX9_refuse 1 = .ok (.iload_n 1, 1) := by decide +kernel
theorem dX9_refuse_2 : decode cX9_refuse 2 = .ok (.putfield 37, 3) := by decide +kernel
theorem dX9_refuse_5 : decode cX9_refuse 5 = .ok (.aload_n 0, 1) := by decide +kernel
theorem dX9_refuse_6 : decode cX9_refuse 6 = .ok (.aload_n 0, 1) := by decide +kernel
theorem dX9_refuse_7 : decode cX9_refuse 7 = .ok (.getfield 47, 3) := by decide +kernel
theorem dX9_refuse_10 : decode cX9_refuse 10 = .ok (.putfield 15, 3) := by decide +kernel
theorem dX9_refuse_13 : decode cX9_refuse 13 = .ok (.iconst 0, 1) := by decide +kernel
theorem dX9_refuse_14 : decode cX9_refuse 14 = .ok (.ireturn, 1) := by decide +kernel
theorem dX9_takeSign_0 : decode cX9_takeSign 0 = .ok (.aload_n 0, 1) := by decide +kernel
theorem dX9_takeSign_1 : decode cX9_takeSign 1 = .ok (.iload_n 1, 1) := by decide +kernel
theorem dX9_takeSign_2 : decode cX9_takeSign 2 = .ok (.invokevirtual 71, 3) := by decide +kernel
theorem dX9_takeSign_5 : decode cX9_takeSign 5 = .ok (.ifCond .ne 9, 3) := by decide +kernel
theorem dX9_takeSign_8 : decode cX9_takeSign 8 = .ok (.aload_n 0, 1) := by decide +kernel
theorem dX9_takeSign_9 : decode cX9_takeSign 9 = .ok (.iconst 1, 1) := by decide +kernel
theorem dX9_takeSign_10 : decode cX9_takeSign 10 = .ok (.invokevirtual 75, 3) := by decide +kernel
theorem dX9_takeSign_13 : decode cX9_takeSign 13 = .ok (.ireturn, 1) := by decide +kernel
theorem dX9_takeSign_14 : decode cX9_takeSign 14 = .ok (.aload_n 0, 1) := by decide +kernel
theorem dX9_takeSign_15 : decode cX9_takeSign 15 = .ok (.invokevirtual 40, 3) := by decide +kernel
theorem dX9_takeSign_18 : decode cX9_takeSign 18 = .ok (.iconst 1, 1) := by decide +kernel
theorem dX9_takeSign_19 : decode cX9_takeSign 19 = .ok (.ireturn, 1) := by decide +kernel
theorem dX9_takeNumber_0 : decode cX9_takeNumber 0 = .ok (.aload_n 0, 1) := by decide +kernel
theorem dX9_takeNumber_1 : decode cX9_takeNumber 1 = .ok (.getfield 50, 3) := by decide +kernel
theorem dX9_takeNumber_4 : decode cX9_takeNumber 4 = .ok (.iconst 2, 1) := by decide +kernel
theorem dX9_takeNumber_5 : decode cX9_takeNumber 5 = .ok (.if_icmp .eq 9, 3) := by decide +kernel
theorem dX9_takeNumber_8 : decode cX9_takeNumber 8 = .ok (.aload_n 0, 1) := by decide +kernel
theorem dX9_takeNumber_9 : decode cX9_takeNumber 9 = .ok (.iconst 1, 1) := by decide +kernel
theorem dX9_takeNumber_10 : decode cX9_takeNumber 10 = .ok (.invokevirtual 75, 3) := by decide +kernel
theorem dX9_takeNumber_13 : decode cX9_takeNumber 13 = .ok (.ireturn, 1) := by decide +kernel
theorem dX9_takeNumber_14 : decode cX9_takeNumber 14 = .ok (.aload_n 0, 1) := by decide +kernel
theorem dX9_takeNumber_15 : decode cX9_takeNumber 15 = .ok (.getfield 59, 3) := by decide +kernel
theorem dX9_takeNumber_18 : decode cX9_takeNumber 18 = .ok (.iload_n 1, 1) := by decide +kernel
theorem dX9_takeNumber_19 : decode cX9_takeNumber 19 = .ok (.if_icmp .lt 11, 3) := by decide +kernel
theorem dX9_takeNumber_22 : decode cX9_takeNumber 22 = .ok (.aload_n 0, 1) := by decide +kernel
theorem dX9_takeNumber_23 : decode cX9_takeNumber 23 = .ok (.getfield 59, 3) := by decide +kernel
theorem dX9_takeNumber_26 : decode cX9_takeNumber 26 = .ok (.iload_n 2, 1) := by decide +kernel
theorem dX9_takeNumber_27 : decode cX9_takeNumber 27 = .ok (.if_icmp .le 9, 3) := by decide +kernel
theorem dX9_takeNumber_30 : decode cX9_takeNumber 30 = .ok (.aload_n 0, 1) := by decide +kernel
theorem dX9_takeNumber_31 : decode cX9_takeNumber 31 = .ok (.iconst 2, 1) := by decide +kernel
theorem dX9_takeNumber_32 : decode cX9_takeNumber 32 = .ok (.invokevirtual 75, 3) := by decide +kernel
theorem dX9_takeNumber_35 : decode cX9_takeNumber 35 = .ok (.ireturn, 1) := by decide +kernel
theorem dX9_takeNumber_36 : decode cX9_takeNumber 36 = .ok (.aload_n 0, 1) := by decide +kernel
theorem dX9_takeNumber_37 : decode cX9_takeNumber 37 = .ok (.aload_n 0, 1) := by decide +kernel
theorem dX9_takeNumber_38 : decode cX9_takeNumber 38 = .ok (.getfield 59, 3) := by decide +kernel
theorem dX9_takeNumber_41 : decode cX9_takeNumber 41 = .ok (.putfield 78, 3) := by decide +kernel
theorem dX9_takeNumber_44 : decode cX9_takeNumber 44 = .ok (.aload_n 0, 1) := by decide +kernel
theorem dX9_takeNumber_45 : decode cX9_takeNumber 45 = .ok (.invokevirtual 40, 3) := by decide +kernel
theorem dX9_takeNumber_48 : decode cX9_takeNumber 48 = .ok (.iconst 1, 1) := by decide +kernel
theorem dX9_takeNumber_49 : decode cX9_takeNumber 49 = .ok (.ireturn, 1) := by decide +kernel
theorem dX9_takeSigned_0 : decode cX9_takeSigned 0 = .ok (.aload_n 0, 1) := by decide +kernel
theorem dX9_takeSigned_1 : decode cX9_takeSigned 1 = .ok (.bipush 45, 2) := by decide +kernel
theorem dX9_takeSigned_3 : decode cX9_takeSigned 3 = .ok (.invokevirtual 71, 3) := by decide +kernel
theorem dX9_takeSigned_6 : decode cX9_takeSigned 6 = .ok (.istore_n 2, 1) := by decide +kernel
theorem dX9_takeSigned_7 : decode cX9_takeSigned 7 = .ok (.iload_n 2, 1) := by decide +kernel
theorem dX9_takeSigned_8 : decode cX9_takeSigned 8 = .ok (.ifCond .eq 7, 3) := by decide +kernel
theorem dX9_takeSigned_11 : decode cX9_takeSigned 11 = .ok (.aload_n 0, 1) := by decide +kernel
theorem dX9_takeSigned_12 : decode cX9_takeSigned 12 = .ok (.invokevirtual 40, 3) := by decide +kernel
theorem dX9_takeSigned_15 : decode cX9_takeSigned 15 = .ok (.aload_n 0, 1) := by decide +kernel
theorem dX9_takeSigned_16 : decode cX9_takeSigned 16 = .ok (.iconst 0, 1) := by decide +kernel
theorem dX9_takeSigned_17 : decode cX9_takeSigned 17 = .ok (.iload_n 1, 1) := by decide +kernel
theorem dX9_takeSigned_18 : decode cX9_takeSigned 18 = .ok (.invokevirtual 81, 3) := by decide +kernel
theorem dX9_takeSigned_21 : decode cX9_takeSigned 21 = .ok (.ifCond .ne 5, 3) := by decide +kernel
theorem dX9_takeSigned_24 : decode cX9_takeSigned 24 = .ok (.iconst 0, 1) := by decide +kernel
theorem dX9_takeSigned_25 : decode cX9_takeSigned 25 = .ok (.ireturn, 1) := by decide +kernel
theorem dX9_takeSigned_26 : decode cX9_takeSigned 26 = .ok (.aload_n 0, 1) := by decide +kernel
theorem dX9_takeSigned_27 : decode cX9_takeSigned 27 = .ok (.iload_n 2, 1) := by decide +kernel
theorem dX9_takeSigned_28 : decode cX9_takeSigned 28 = .ok (.ifCond .eq 11, 3) := by decide +kernel
theorem dX9_takeSigned_31 : decode cX9_takeSigned 31 = .ok (.aload_n 0, 1) := by decide +kernel
theorem dX9_takeSigned_32 : decode cX9_takeSigned 32 = .ok (.getfield 78, 3) := by decide +kernel
theorem dX9_takeSigned_35 : decode cX9_takeSigned 35 = .ok (.ineg, 1) := by decide +kernel
theorem dX9_takeSigned_36 : decode cX9_takeSigned 36 = .ok (.goto 7, 3) := by decide +kernel
theorem dX9_takeSigned_39 : decode cX9_takeSigned 39 = .ok (.aload_n 0, 1) := by decide +kernel
theorem dX9_takeSigned_40 : decode cX9_takeSigned 40 = .ok (.getfield 78, 3) := by decide +kernel
theorem dX9_takeSigned_43 : decode cX9_takeSigned 43 = .ok (.putfield 78, 3) := by decide +kernel
theorem dX9_takeSigned_46 : decode cX9_takeSigned 46 = .ok (.iconst 1, 1) := by decide +kernel
theorem dX9_takeSigned_47 : decode cX9_takeSigned 47 = .ok (.ireturn, 1) := by decide +kernel
