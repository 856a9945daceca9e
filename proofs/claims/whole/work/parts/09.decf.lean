theorem dX11_laid_105 : decode cX11_laid 105 = .ok (.aload_n 0, 1) := by decide +kernel
theorem dX11_laid_106 : decode cX11_laid 106 = .ok (.getfield 50, 3) := by decide +kernel
theorem dX11_laid_109 : decode cX11_laid 109 = .ok (.aload_n 0, 1) := by decide +kernel
theorem dX11_laid_110 : decode cX11_laid 110 = .ok (.aload_n 0, 1) := by decide +kernel
theorem dX11_laid_111 : decode cX11_laid 111 = .ok (.getfield 53, 3) := by decide +kernel
theorem dX11_laid_114 : decode cX11_laid 114 = .ok (.bipush 12, 2) := by decide +kernel
theorem dX11_laid_116 : decode cX11_laid 116 = .ok (.iload_n 2, 1) := by decide +kernel
theorem dX11_laid_117 : decode cX11_laid 117 = .ok (.imul, 1) := by decide +kernel
theorem dX11_laid_118 : decode cX11_laid 118 = .ok (.iload 6, 2) := by decide +kernel
theorem dX11_laid_120 : decode cX11_laid 120 = .ok (.iconst 0, 1) := by decide +kernel
theorem dX11_laid_121 : decode cX11_laid 121 = .ok (.invokevirtual 256, 3) := by decide +kernel
theorem dX11_laid_124 : decode cX11_laid 124 = .ok (.aload_n 0, 1) := by decide +kernel
theorem dX11_laid_125 : decode cX11_laid 125 = .ok (.aload_n 0, 1) := by decide +kernel
theorem dX11_laid_126 : decode cX11_laid 126 = .ok (.getfield 53, 3) := by decide +kernel
theorem dX11_laid_129 : decode cX11_laid 129 = .ok (.bipush 12, 2) := by decide +kernel
theorem dX11_laid_131 : decode cX11_laid 131 = .ok (.iload_n 2, 1) := by decide +kernel
theorem dX11_laid_132 : decode cX11_laid 132 = .ok (.imul, 1) := by decide +kernel
theorem dX11_laid_133 : decode cX11_laid 133 = .ok (.iload 6, 2) := by decide +kernel
theorem dX11_laid_135 : decode cX11_laid 135 = .ok (.iconst 1, 1) := by decide +kernel
theorem dX11_laid_136 : decode cX11_laid 136 = .ok (.invokevirtual 256, 3) := by decide +kernel
theorem dX11_laid_139 : decode cX11_laid 139 = .ok (.invokestatic 272, 3) := by decide +kernel
theorem dX11_laid_142 : decode cX11_laid 142 = .ok (.dup2, 1) := by decide +kernel
theorem dX11_laid_143 : decode cX11_laid 143 = .ok (.iaload, 1) := by decide +kernel
theorem dX11_laid_144 : decode cX11_laid 144 = .ok (.iconst 2, 1) := by decide +kernel
theorem dX11_laid_145 : decode cX11_laid 145 = .ok (.ior, 1) := by decide +kernel
theorem dX11_laid_146 : decode cX11_laid 146 = .ok (.iastore, 1) := by decide +kernel
theorem dX11_laid_147 : decode cX11_laid 147 = .ok (.iinc 6 1, 3) := by decide +kernel
theorem dX11_laid_150 : decode cX11_laid 150 = .ok (.goto (-94), 3) := by decide +kernel
theorem dX11_laid_153 : decode cX11_laid 153 = .ok (.iconst 0, 1) := by decide +kernel
theorem dX11_laid_154 : decode cX11_laid 154 = .ok (.istore 6, 2) := by decide +kernel
theorem dX11_laid_156 : decode cX11_laid 156 = .ok (.iconst 0, 1) := by decide +kernel
theorem dX11_laid_157 : decode cX11_laid 157 = .ok (.istore 7, 2) := by decide +kernel
theorem dX11_laid_159 : decode cX11_laid 159 = .ok (.iload 7, 2) := by decide +kernel
theorem dX11_laid_161 : decode cX11_laid 161 = .ok (.sipush 729, 3) := by decide +kernel
theorem dX11_laid_164 : decode cX11_laid 164 = .ok (.if_icmp .ge 40, 3) := by decide +kernel
theorem dX11_laid_167 : decode cX11_laid 167 = .ok (.iload 6, 2) := by decide +kernel
theorem dX11_laid_169 : decode cX11_laid 169 = .ok (.aload_n 0, 1) := by decide +kernel
theorem dX11_laid_170 : decode cX11_laid 170 = .ok (.getfield 50, 3) := by decide +kernel
theorem dX11_laid_173 : decode cX11_laid 173 = .ok (.iload 7, 2) := by decide +kernel
theorem dX11_laid_175 : decode cX11_laid 175 = .ok (.iaload, 1) := by decide +kernel
theorem dX11_laid_176 : decode cX11_laid 176 = .ok (.iload 5, 2) := by decide +kernel
theorem dX11_laid_178 : decode cX11_laid 178 = .ok (.ifCond .ne 7, 3) := by decide +kernel
theorem dX11_laid_181 : decode cX11_laid 181 = .ok (.iconst 3, 1) := by decide +kernel
theorem dX11_laid_182 : decode cX11_laid 182 = .ok (.goto 5, 3) := by decide +kernel
theorem dX11_laid_185 : decode cX11_laid 185 = .ok (.iload 5, 2) := by decide +kernel
theorem dX11_laid_187 : decode cX11_laid 187 = .ok (.if_icmp .ne 7, 3) := by decide +kernel
theorem dX11_laid_190 : decode cX11_laid 190 = .ok (.iconst 1, 1) := by decide +kernel
theorem dX11_laid_191 : decode cX11_laid 191 = .ok (.goto 4, 3) := by decide +kernel
theorem dX11_laid_194 : decode cX11_laid 194 = .ok (.iconst 0, 1) := by decide +kernel
theorem dX11_laid_195 : decode cX11_laid 195 = .ok (.iadd, 1) := by decide +kernel
theorem dX11_laid_196 : decode cX11_laid 196 = .ok (.istore 6, 2) := by decide +kernel
theorem dX11_laid_198 : decode cX11_laid 198 = .ok (.iinc 7 1, 3) := by decide +kernel
theorem dX11_laid_201 : decode cX11_laid 201 = .ok (.goto (-42), 3) := by decide +kernel
theorem dX11_laid_204 : decode cX11_laid 204 = .ok (.iload 6, 2) := by decide +kernel
theorem dX11_laid_206 : decode cX11_laid 206 = .ok (.ireturn, 1) := by decide +kernel
theorem dX11_moved_0 : decode cX11_moved 0 = .ok (.iconst 0, 1) := by decide +kernel
theorem dX11_moved_1 : decode cX11_moved 1 = .ok (.istore_n 3, 1) := by decide +kernel
theorem dX11_moved_2 : decode cX11_moved 2 = .ok (.iconst 0, 1) := by decide +kernel
theorem dX11_moved_3 : decode cX11_moved 3 = .ok (.istore 4, 2) := by decide +kernel
theorem dX11_moved_5 : decode cX11_moved 5 = .ok (.iload 4, 2) := by decide +kernel
theorem dX11_moved_7 : decode cX11_moved 7 = .ok (.iconst 4, 1) := by decide +kernel
theorem dX11_moved_8 : decode cX11_moved 8 = .ok (.if_icmp .ge 65, 3) := by decide +kernel
theorem dX11_moved_11 : decode cX11_moved 11 = .ok (.iload_n 3, 1) := by decide +kernel
theorem dX11_moved_12 : decode cX11_moved 12 = .ok (.aload_n 0, 1) := by decide +kernel
theorem dX11_moved_13 : decode cX11_moved 13 = .ok (.getfield 53, 3) := by decide +kernel
theorem dX11_moved_16 : decode cX11_moved 16 = .ok (.bipush 12, 2) := by decide +kernel
theorem dX11_moved_18 : decode cX11_moved 18 = .ok (.iload_n 2, 1) := by decide +kernel
theorem dX11_moved_19 : decode cX11_moved 19 = .ok (.imul, 1) := by decide +kernel
theorem dX11_moved_20 : decode cX11_moved 20 = .ok (.iload 4, 2) := by decide +kernel
theorem dX11_moved_22 : decode cX11_moved 22 = .ok (.iadd, 1) := by decide +kernel
theorem dX11_moved_23 : decode cX11_moved 23 = .ok (.iaload, 1) := by decide +kernel
theorem dX11_moved_24 : decode cX11_moved 24 = .ok (.iload_n 1, 1) := by decide +kernel
theorem dX11_moved_25 : decode cX11_moved 25 = .ok (.iconst (-1), 1) := by decide +kernel
theorem dX11_moved_26 : decode cX11_moved 26 = .ok (.if_icmp .ne 13, 3) := by decide +kernel
theorem dX11_moved_29 : decode cX11_moved 29 = .ok (.aload_n 0, 1) := by decide +kernel
theorem dX11_moved_30 : decode cX11_moved 30 = .ok (.getfield 19, 3) := by decide +kernel
theorem dX11_moved_33 : decode cX11_moved 33 = .ok (.iload 4, 2) := by decide +kernel
theorem dX11_moved_35 : decode cX11_moved 35 = .ok (.iaload, 1) := by decide +kernel
theorem dX11_moved_36 : decode cX11_moved 36 = .ok (.goto 25, 3) := by decide +kernel
theorem dX11_moved_39 : decode cX11_moved 39 = .ok (.iload_n 1, 1) := by decide +kernel
theorem dX11_moved_40 : decode cX11_moved 40 = .ok (.bipush 8, 2) := by decide +kernel
theorem dX11_moved_42 : decode cX11_moved 42 = .ok (.if_icmp .ne 7, 3) := by decide +kernel
theorem dX11_moved_45 : decode cX11_moved 45 = .ok (.iconst 0, 1) := by decide +kernel
theorem dX11_moved_46 : decode cX11_moved 46 = .ok (.goto 15, 3) := by decide +kernel
theorem dX11_moved_49 : decode cX11_moved 49 = .ok (.aload_n 0, 1) := by decide +kernel
theorem dX11_moved_50 : decode cX11_moved 50 = .ok (.getfield 53, 3) := by decide +kernel
theorem dX11_moved_53 : decode cX11_moved 53 = .ok (.bipush 12, 2) := by decide +kernel
theorem dX11_moved_55 : decode cX11_moved 55 = .ok (.iload_n 1, 1) := by decide +kernel
theorem dX11_moved_56 : decode cX11_moved 56 = .ok (.imul, 1) := by decide +kernel
theorem dX11_moved_57 : decode cX11_moved 57 = .ok (.iload 4, 2) := by decide +kernel
theorem dX11_moved_59 : decode cX11_moved 59 = .ok (.iadd, 1) := by decide +kernel
theorem dX11_moved_60 : decode cX11_moved 60 = .ok (.iaload, 1) := by decide +kernel
theorem dX11_moved_61 : decode cX11_moved 61 = .ok (.isub, 1) := by decide +kernel
theorem dX11_moved_62 : decode cX11_moved 62 = .ok (.invokestatic 279, 3) := by decide +kernel
theorem dX11_moved_65 : decode cX11_moved 65 = .ok (.iadd, 1) := by decide +kernel
theorem dX11_moved_66 : decode cX11_moved 66 = .ok (.istore_n 3, 1) := by decide +kernel
theorem dX11_moved_67 : decode cX11_moved 67 = .ok (.iinc 4 1, 3) := by decide +kernel
theorem dX11_moved_70 : decode cX11_moved 70 = .ok (.goto (-65), 3) := by decide +kernel
theorem dX11_moved_73 : decode cX11_moved 73 = .ok (.iload_n 3, 1) := by decide +kernel
theorem dX11_moved_74 : decode cX11_moved 74 = .ok (.ireturn, 1) := by decide +kernel
theorem dX11_allMoved_0 : decode cX11_allMoved 0 = .ok (.iconst 0, 1) := by decide +kernel
theorem dX11_allMoved_1 : decode cX11_allMoved 1 = .ok (.istore_n 3, 1) := by decide +kernel
theorem dX11_allMoved_2 : decode cX11_allMoved 2 = .ok (.iconst 0, 1) := by decide +kernel
theorem dX11_allMoved_3 : decode cX11_allMoved 3 = .ok (.istore 4, 2) := by decide +kernel
theorem dX11_allMoved_5 : decode cX11_allMoved 5 = .ok (.iload 4, 2) := by decide +kernel
theorem dX11_allMoved_7 : decode cX11_allMoved 7 = .ok (.iload_n 1, 1) := by decide +kernel
theorem dX11_allMoved_8 : decode cX11_allMoved 8 = .ok (.if_icmp .ge 52, 3) := by decide +kernel
theorem dX11_allMoved_11 : decode cX11_allMoved 11 = .ok (.iload_n 3, 1) := by decide +kernel
theorem dX11_allMoved_12 : decode cX11_allMoved 12 = .ok (.aload_n 0, 1) := by decide +kernel
theorem dX11_allMoved_13 : decode cX11_allMoved 13 = .ok (.iload 4, 2) := by decide +kernel
theorem dX11_allMoved_15 : decode cX11_allMoved 15 = .ok (.ifCond .ne 7, 3) := by decide +kernel
theorem dX11_allMoved_18 : decode cX11_allMoved 18 = .ok (.iconst (-1), 1) := by decide +kernel
theorem dX11_allMoved_19 : decode cX11_allMoved 19 = .ok (.goto 23, 3) := by decide +kernel
theorem dX11_allMoved_22 : decode cX11_allMoved 22 = .ok (.iload 4, 2) := by decide +kernel
theorem dX11_allMoved_24 : decode cX11_allMoved 24 = .ok (.iload_n 2, 1) := by decide +kernel
theorem dX11_allMoved_25 : decode cX11_allMoved 25 = .ok (.if_icmp .ne 8, 3) := by decide +kernel
theorem dX11_allMoved_28 : decode cX11_allMoved 28 = .ok (.bipush 8, 2) := by decide +kernel
theorem dX11_allMoved_30 : decode cX11_allMoved 30 = .ok (.goto 12, 3) := by decide +kernel
theorem dX11_allMoved_33 : decode cX11_allMoved 33 = .ok (.aload_n 0, 1) := by decide +kernel
theorem dX11_allMoved_34 : decode cX11_allMoved 34 = .ok (.getfield 68, 3) := by decide +kernel
theorem dX11_allMoved_37 : decode cX11_allMoved 37 = .ok (.iload 4, 2) := by decide +kernel
theorem dX11_allMoved_39 : decode cX11_allMoved 39 = .ok (.iconst 1, 1) := by decide +kernel
theorem dX11_allMoved_40 : decode cX11_allMoved 40 = .ok (.isub, 1) := by decide +kernel
theorem dX11_allMoved_41 : decode cX11_allMoved 41 = .ok (.iaload, 1) := by decide +kernel
theorem dX11_allMoved_42 : decode cX11_allMoved 42 = .ok (.aload_n 0, 1) := by decide +kernel
theorem dX11_allMoved_43 : decode cX11_allMoved 43 = .ok (.getfield 68, 3) := by decide +kernel
theorem dX11_allMoved_46 : decode cX11_allMoved 46 = .ok (.iload 4, 2) := by decide +kernel
theorem dX11_allMoved_48 : decode cX11_allMoved 48 = .ok (.iaload, 1) := by decide +kernel
theorem dX11_allMoved_49 : decode cX11_allMoved 49 = .ok (.invokevirtual 316, 3) := by decide +kernel
theorem dX11_allMoved_52 : decode cX11_allMoved 52 = .ok (.iadd, 1) := by decide +kernel
theorem dX11_allMoved_53 : decode cX11_allMoved 53 = .ok (.istore_n 3, 1) := by decide +kernel
theorem dX11_allMoved_54 : decode cX11_allMoved 54 = .ok (.iinc 4 1, 3) := by decide +kernel
theorem dX11_allMoved_57 : decode cX11_allMoved 57 = .ok (.goto (-52), 3) := by decide +kernel
theorem dX11_allMoved_60 : decode cX11_allMoved 60 = .ok (.iload_n 3, 1) := by decide +kernel
theorem dX11_allMoved_61 : decode cX11_allMoved 61 = .ok (.ireturn, 1) := by decide +kernel
theorem dX11_countsUp_0 : decode cX11_countsUp 0 = .ok (.iload_n 1, 1) := by decide +kernel
theorem dX11_countsUp_1 : decode cX11_countsUp 1 = .ok (.iconst 2, 1) := by decide +kernel
theorem dX11_countsUp_2 : decode cX11_countsUp 2 = .ok (.isub, 1) := by decide +kernel
theorem dX11_countsUp_3 : decode cX11_countsUp 3 = .ok (.istore_n 2, 1) := by decide +kernel
theorem dX11_countsUp_4 : decode cX11_countsUp 4 = .ok (.iload_n 2, 1) := by decide +kernel
theorem dX11_countsUp_5 : decode cX11_countsUp 5 = .ok (.ifCond .lt 26, 3) := by decide +kernel
theorem dX11_countsUp_8 : decode cX11_countsUp 8 = .ok (.aload_n 0, 1) := by decide +kernel
theorem dX11_countsUp_9 : decode cX11_countsUp 9 = .ok (.getfield 68, 3) := by decide +kernel
theorem dX11_countsUp_12 : decode cX11_countsUp 12 = .ok (.iload_n 2, 1) := by decide +kernel
theorem dX11_countsUp_13 : decode cX11_countsUp 13 = .ok (.iaload, 1) := by decide +kernel
theorem dX11_countsUp_14 : decode cX11_countsUp 14 = .ok (.aload_n 0, 1) := by decide +kernel
theorem dX11_countsUp_15 : decode cX11_countsUp 15 = .ok (.getfield 68, 3) := by decide +kernel
theorem dX11_countsUp_18 : decode cX11_countsUp 18 = .ok (.iload_n 2, 1) := by decide +kernel
theorem dX11_countsUp_19 : decode cX11_countsUp 19 = .ok (.iconst 1, 1) := by decide +kernel
theorem dX11_countsUp_20 : decode cX11_countsUp 20 = .ok (.iadd, 1) := by decide +kernel
theorem dX11_countsUp_21 : decode cX11_countsUp 21 = .ok (.iaload, 1) := by decide +kernel
theorem dX11_countsUp_22 : decode cX11_countsUp 22 = .ok (.if_icmp .le 9, 3) := by decide +kernel
theorem dX11_countsUp_25 : decode cX11_countsUp 25 = .ok (.iinc 2 (-1), 3) := by decide +kernel
theorem dX11_countsUp_28 : decode cX11_countsUp 28 = .ok (.goto (-24), 3) := by decide +kernel
theorem dX11_countsUp_31 : decode cX11_countsUp 31 = .ok (.iload_n 2, 1) := by decide +kernel
theorem dX11_countsUp_32 : decode cX11_countsUp 32 = .ok (.ifCond .ge 5, 3) := by decide +kernel
theorem dX11_countsUp_35 : decode cX11_countsUp 35 = .ok (.iconst 0, 1) := by decide +kernel
theorem dX11_countsUp_36 : decode cX11_countsUp 36 = .ok (.ireturn, 1) := by decide +kernel
theorem dX11_countsUp_37 : decode cX11_countsUp 37 = .ok (.iload_n 1, 1) := by decide +kernel
theorem dX11_countsUp_38 : decode cX11_countsUp 38 = .ok (.iconst 1, 1) := by decide +kernel
theorem dX11_countsUp_39 : decode cX11_countsUp 39 = .ok (.isub, 1) := by decide +kernel
theorem dX11_countsUp_40 : decode cX11_countsUp 40 = .ok (.istore_n 3, 1) := by decide +kernel
theorem dX11_countsUp_41 : decode cX11_countsUp 41 = .ok (.aload_n 0, 1) := by decide +kernel
theorem dX11_countsUp_42 : decode cX11_countsUp 42 = .ok (.getfield 68, 3) := by decide +kernel
theorem dX11_countsUp_45 : decode cX11_countsUp 45 = .ok (.iload_n 3, 1) := by decide +kernel
theorem dX11_countsUp_46 : decode cX11_countsUp 46 = .ok (.iaload, 1) := by decide +kernel
theorem dX11_countsUp_47 : decode cX11_countsUp 47 = .ok (.aload_n 0, 1) := by decide +kernel
theorem dX11_countsUp_48 : decode cX11_countsUp 48 = .ok (.getfield 68, 3) := by decide +kernel
theorem dX11_countsUp_51 : decode cX11_countsUp 51 = .ok (.iload_n 2, 1) := by decide +kernel
theorem dX11_countsUp_52 : decode cX11_countsUp 52 = .ok (.iaload, 1) := by decide +kernel
theorem dX11_countsUp_53 : decode cX11_countsUp 53 = .ok (.if_icmp .ge 9, 3) := by decide +kernel
theorem dX11_countsUp_56 : decode cX11_countsUp 56 = .ok (.iinc 3 (-1), 3) := by decide +kernel
theorem dX11_countsUp_59 : decode cX11_countsUp 59 = .ok (.goto (-18), 3) := by decide +kernel
theorem dX11_countsUp_62 : decode cX11_countsUp 62 = .ok (.aload_n 0, 1) := by decide +kernel
theorem dX11_countsUp_63 : decode cX11_countsUp 63 = .ok (.getfield 68, 3) := by decide +kernel
theorem dX11_countsUp_66 : decode cX11_countsUp 66 = .ok (.iload_n 2, 1) := by decide +kernel
theorem dX11_countsUp_67 : decode cX11_countsUp 67 = .ok (.iaload, 1) := by decide +kernel
theorem dX11_countsUp_68 : decode cX11_countsUp 68 = .ok (.istore 4, 2) := by decide +kernel
theorem dX11_countsUp_70 : decode cX11_countsUp 70 = .ok (.aload_n 0, 1) := by decide +kernel
theorem dX11_countsUp_71 : decode cX11_countsUp 71 = .ok (.getfield 68, 3) := by decide +kernel
theorem dX11_countsUp_74 : decode cX11_countsUp 74 = .ok (.iload_n 2, 1) := by decide +kernel
theorem dX11_countsUp_75 : decode cX11_countsUp 75 = .ok (.aload_n 0, 1) := by decide +kernel
theorem dX11_countsUp_76 : decode cX11_countsUp 76 = .ok (.getfield 68, 3) := by decide +kernel
theorem dX11_countsUp_79 : decode cX11_countsUp 79 = .ok (.iload_n 3, 1) := by decide +kernel
theorem dX11_countsUp_80 : decode cX11_countsUp 80 = .ok (.iaload, 1) := by decide +kernel
theorem dX11_countsUp_81 : decode cX11_countsUp 81 = .ok (.iastore, 1) := by decide +kernel
theorem dX11_countsUp_82 : decode cX11_countsUp 82 = .ok (.aload_n 0, 1) := by decide +kernel
theorem dX11_countsUp_83 : decode cX11_countsUp 83 = .ok (.getfield 68, 3) := by decide +kernel
theorem dX11_countsUp_86 : decode cX11_countsUp 86 = .ok (.iload_n 3, 1) := by decide +kernel
theorem dX11_countsUp_87 : decode cX11_countsUp 87 = .ok (.iload 4, 2) := by decide +kernel
theorem dX11_countsUp_89 : decode cX11_countsUp 89 = .ok (.iastore, 1) := by decide +kernel
theorem dX11_countsUp_90 : decode cX11_countsUp 90 = .ok (.iload_n 2, 1) := by decide +kernel
theorem dX11_countsUp_91 : decode cX11_countsUp 91 = .ok (.iconst 1, 1) := by decide +kernel
theorem dX11_countsUp_92 : decode cX11_countsUp 92 = .ok (.iadd, 1) := by decide +kernel
theorem dX11_countsUp_93 : decode cX11_countsUp 93 = .ok (.istore 5, 2) := by decide +kernel
theorem dX11_countsUp_95 : decode cX11_countsUp 95 = .ok (.iload_n 1, 1) := by decide +kernel
theorem dX11_countsUp_96 : decode cX11_countsUp 96 = .ok (.iconst 1, 1) := by decide +kernel
theorem dX11_countsUp_97 : decode cX11_countsUp 97 = .ok (.isub, 1) := by decide +kernel
theorem dX11_countsUp_98 : decode cX11_countsUp 98 = .ok (.istore 6, 2) := by decide +kernel
theorem dX11_countsUp_100 : decode cX11_countsUp 100 = .ok (.iload 5, 2) := by decide +kernel
theorem dX11_countsUp_102 : decode cX11_countsUp 102 = .ok (.iload 6, 2) := by decide +kernel
theorem dX11_countsUp_104 : decode cX11_countsUp 104 = .ok (.if_icmp .ge 44, 3) := by decide +kernel
theorem dX11_countsUp_107 : decode cX11_countsUp 107 = .ok (.aload_n 0, 1) := by decide +kernel
theorem dX11_countsUp_108 : decode cX11_countsUp 108 = .ok (.getfield 68, 3) := by decide +kernel
theorem dX11_countsUp_111 : decode cX11_countsUp 111 = .ok (.iload 5, 2) := by decide +kernel
theorem dX11_countsUp_113 : decode cX11_countsUp 113 = .ok (.iaload, 1) := by decide +kernel
theorem dX11_countsUp_114 : decode cX11_countsUp 114 = .ok (.istore 7, 2) := by decide +kernel
theorem dX11_countsUp_116 : decode cX11_countsUp 116 = .ok (.aload_n 0, 1) := by decide +kernel
theorem dX11_countsUp_117 : decode cX11_countsUp 117 = .ok (.getfield 68, 3) := by decide +kernel
theorem dX11_countsUp_120 : decode cX11_countsUp 120 = .ok (.iload 5, 2) := by decide +kernel
theorem dX11_countsUp_122 : decode cX11_countsUp 122 = .ok (.aload_n 0, 1) := by decide +kernel
theorem dX11_countsUp_123 : decode cX11_countsUp 123 = .ok (.getfield 68, 3) := by decide +kernel
theorem dX11_countsUp_126 : decode cX11_countsUp 126 = .ok (.iload 6, 2) := by decide +kernel
theorem dX11_countsUp_128 : decode cX11_countsUp 128 = .ok (.iaload, 1) := by decide +kernel
theorem dX11_countsUp_129 : decode cX11_countsUp 129 = .ok (.iastore, 1) := by decide +kernel
theorem dX11_countsUp_130 : decode cX11_countsUp 130 = .ok (.aload_n 0, 1) := by decide +kernel
theorem dX11_countsUp_131 : decode cX11_countsUp 131 = .ok (.getfield 68, 3) := by decide +kernel
theorem dX11_countsUp_134 : decode cX11_countsUp 134 = .ok (.iload 6, 2) := by decide +kernel
theorem dX11_countsUp_136 : decode cX11_countsUp 136 = .ok (.iload 7, 2) := by decide +kernel
theorem dX11_countsUp_138 : decode cX11_countsUp 138 = .ok (.iastore, 1) := by decide +kernel
theorem dX11_countsUp_139 : decode cX11_countsUp 139 = .ok (.iinc 5 1, 3) := by decide +kernel
theorem dX11_countsUp_142 : decode cX11_countsUp 142 = .ok (.iinc 6 (-1), 3) := by decide +kernel
theorem dX11_countsUp_145 : decode cX11_countsUp 145 = .ok (.goto (-45), 3) := by decide +kernel
theorem dX11_countsUp_148 : decode cX11_countsUp 148 = .ok (.iconst 1, 1) := by decide +kernel
theorem dX11_countsUp_149 : decode cX11_countsUp 149 = .ok (.ireturn, 1) := by decide +kernel
theorem dX11_evening_0 : decode cX11_evening 0 = .ok (.aload_n 0, 1) := by decide +kernel
theorem dX11_evening_1 : decode cX11_evening 1 = .ok (.iconst 0, 1) := by decide +kernel
theorem dX11_evening_2 : decode cX11_evening 2 = .ok (.putfield 113, 3) := by decide +kernel
theorem dX11_evening_5 : decode cX11_evening 5 = .ok (.aload_n 0, 1) := by decide +kernel
theorem dX11_evening_6 : decode cX11_evening 6 = .ok (.iload_n 1, 1) := by decide +kernel
theorem dX11_evening_7 : decode cX11_evening 7 = .ok (.ifCond .le 17, 3) := by decide +kernel
theorem dX11_evening_10 : decode cX11_evening 10 = .ok (.iload_n 1, 1) := by decide +kernel
theorem dX11_evening_11 : decode cX11_evening 11 = .ok (.iconst 1, 1) := by decide +kernel
theorem dX11_evening_12 : decode cX11_evening 12 = .ok (.aload_n 0, 1) := by decide +kernel
theorem dX11_evening_13 : decode cX11_evening 13 = .ok (.getfield 226, 3) := by decide +kernel
theorem dX11_evening_16 : decode cX11_evening 16 = .ok (.ishl, 1) := by decide +kernel
theorem dX11_evening_17 : decode cX11_evening 17 = .ok (.if_icmp .ge 7, 3) := by decide +kernel
theorem dX11_evening_20 : decode cX11_evening 20 = .ok (.iconst 1, 1) := by decide +kernel
theorem dX11_evening_21 : decode cX11_evening 21 = .ok (.goto 4, 3) := by decide +kernel
theorem dX11_evening_24 : decode cX11_evening 24 = .ok (.iconst 0, 1) := by decide +kernel
theorem dX11_evening_25 : decode cX11_evening 25 = .ok (.iconst 1, 1) := by decide +kernel
theorem dX11_evening_26 : decode cX11_evening 26 = .ok (.invokevirtual 209, 3) := by decide +kernel
theorem dX11_evening_29 : decode cX11_evening 29 = .ok (.ifCond .ne 5, 3) := by decide +kernel
theorem dX11_evening_32 : decode cX11_evening 32 = .ok (.iconst 0, 1) := by decide +kernel
theorem dX11_evening_33 : decode cX11_evening 33 = .ok (.ireturn, 1) := by decide +kernel
theorem dX11_evening_34 : decode cX11_evening 34 = .ok (.iconst 0, 1) := by decide +kernel
theorem dX11_evening_35 : decode cX11_evening 35 = .ok (.istore_n 2, 1) := by decide +kernel
theorem dX11_evening_36 : decode cX11_evening 36 = .ok (.iconst 0, 1) := by decide +kernel
theorem dX11_evening_37 : decode cX11_evening 37 = .ok (.istore_n 3, 1) := by decide +kernel
theorem dX11_evening_38 : decode cX11_evening 38 = .ok (.iload_n 3, 1) := by decide +kernel
theorem dX11_evening_39 : decode cX11_evening 39 = .ok (.aload_n 0, 1) := by decide +kernel
theorem dX11_evening_40 : decode cX11_evening 40 = .ok (.getfield 226, 3) := by decide +kernel
theorem dX11_evening_43 : decode cX11_evening 43 = .ok (.if_icmp .ge 30, 3) := by decide +kernel
theorem dX11_evening_46 : decode cX11_evening 46 = .ok (.iload_n 1, 1) := by decide +kernel
theorem dX11_evening_47 : decode cX11_evening 47 = .ok (.iload_n 3, 1) := by decide +kernel
theorem dX11_evening_48 : decode cX11_evening 48 = .ok (.ishr, 1) := by decide +kernel
theorem dX11_evening_49 : decode cX11_evening 49 = .ok (.iconst 1, 1) := by decide +kernel
theorem dX11_evening_50 : decode cX11_evening 50 = .ok (.iand, 1) := by decide +kernel
theorem dX11_evening_51 : decode cX11_evening 51 = .ok (.ifCond .ne 6, 3) := by decide +kernel
theorem dX11_evening_54 : decode cX11_evening 54 = .ok (.goto 13, 3) := by decide +kernel
theorem dX11_evening_57 : decode cX11_evening 57 = .ok (.aload_n 0, 1) := by decide +kernel
theorem dX11_evening_58 : decode cX11_evening 58 = .ok (.getfield 68, 3) := by decide +kernel
theorem dX11_evening_61 : decode cX11_evening 61 = .ok (.iload_n 2, 1) := by decide +kernel
theorem dX11_evening_62 : decode cX11_evening 62 = .ok (.iload_n 3, 1) := by decide +kernel
theorem dX11_evening_63 : decode cX11_evening 63 = .ok (.iastore, 1) := by decide +kernel
theorem dX11_evening_64 : decode cX11_evening 64 = .ok (.iinc 2 1, 3) := by decide +kernel
theorem dX11_evening_67 : decode cX11_evening 67 = .ok (.iinc 3 1, 3) := by decide +kernel
theorem dX11_evening_70 : decode cX11_evening 70 = .ok (.goto (-32), 3) := by decide +kernel
theorem dX11_evening_73 : decode cX11_evening 73 = .ok (.iconst (-1), 1) := by decide +kernel
theorem dX11_evening_74 : decode cX11_evening 74 = .ok (.istore_n 3, 1) := by decide +kernel
theorem dX11_evening_75 : decode cX11_evening 75 = .ok (.iconst 1, 1) := by decide +kernel
theorem dX11_evening_76 : decode cX11_evening 76 = .ok (.istore 4, 2) := by decide +kernel
theorem dX11_evening_78 : decode cX11_evening 78 = .ok (.iload 4, 2) := by decide +kernel
theorem dX11_evening_80 : decode cX11_evening 80 = .ok (.ifCond .eq 72, 3) := by decide +kernel
theorem dX11_evening_83 : decode cX11_evening 83 = .ok (.iconst 0, 1) := by decide +kernel
theorem dX11_evening_84 : decode cX11_evening 84 = .ok (.istore 5, 2) := by decide +kernel
theorem dX11_evening_86 : decode cX11_evening 86 = .ok (.iload 5, 2) := by decide +kernel
theorem dX11_evening_88 : decode cX11_evening 88 = .ok (.iload_n 2, 1) := by decide +kernel
theorem dX11_evening_89 : decode cX11_evening 89 = .ok (.if_icmp .ge 53, 3) := by decide +kernel
theorem dX11_evening_92 : decode cX11_evening 92 = .ok (.aload_n 0, 1) := by decide +kernel
theorem dX11_evening_93 : decode cX11_evening 93 = .ok (.iload_n 2, 1) := by decide +kernel
theorem dX11_evening_94 : decode cX11_evening 94 = .ok (.iload 5, 2) := by decide +kernel
theorem dX11_evening_96 : decode cX11_evening 96 = .ok (.invokevirtual 319, 3) := by decide +kernel
theorem dX11_evening_99 : decode cX11_evening 99 = .ok (.istore 6, 2) := by decide +kernel
theorem dX11_evening_101 : decode cX11_evening 101 = .ok (.iload_n 3, 1) := by decide +kernel
theorem dX11_evening_102 : decode cX11_evening 102 = .ok (.iconst (-1), 1) := by decide +kernel
theorem dX11_evening_103 : decode cX11_evening 103 = .ok (.if_icmp .eq 12, 3) := by decide +kernel
theorem dX11_evening_106 : decode cX11_evening 106 = .ok (.iload 6, 2) := by decide +kernel
theorem dX11_evening_108 : decode cX11_evening 108 = .ok (.iload_n 3, 1) := by decide +kernel
theorem dX11_evening_109 : decode cX11_evening 109 = .ok (.if_icmp .lt 6, 3) := by decide +kernel
theorem dX11_evening_112 : decode cX11_evening 112 = .ok (.goto 24, 3) := by decide +kernel
theorem dX11_evening_115 : decode cX11_evening 115 = .ok (.iload 6, 2) := by decide +kernel
theorem dX11_evening_117 : decode cX11_evening 117 = .ok (.istore_n 3, 1) := by decide +kernel
theorem dX11_evening_118 : decode cX11_evening 118 = .ok (.aload_n 0, 1) := by decide +kernel
theorem dX11_evening_119 : decode cX11_evening 119 = .ok (.iload 5, 2) := by decide +kernel
theorem dX11_evening_121 : decode cX11_evening 121 = .ok (.putfield 322, 3) := by decide +kernel
theorem dX11_evening_124 : decode cX11_evening 124 = .ok (.aload_n 0, 1) := by decide +kernel
theorem dX11_evening_125 : decode cX11_evening 125 = .ok (.aload_n 0, 1) := by decide +kernel
theorem dX11_evening_126 : decode cX11_evening 126 = .ok (.getfield 68, 3) := by decide +kernel
theorem dX11_evening_129 : decode cX11_evening 129 = .ok (.aload_n 0, 1) := by decide +kernel
theorem dX11_evening_130 : decode cX11_evening 130 = .ok (.getfield 71, 3) := by decide +kernel
theorem dX11_evening_133 : decode cX11_evening 133 = .ok (.invokevirtual 222, 3) := by decide +kernel
theorem dX11_evening_136 : decode cX11_evening 136 = .ok (.iinc 5 1, 3) := by decide +kernel
theorem dX11_evening_139 : decode cX11_evening 139 = .ok (.goto (-53), 3) := by decide +kernel
theorem dX11_evening_142 : decode cX11_evening 142 = .ok (.aload_n 0, 1) := by decide +kernel
theorem dX11_evening_143 : decode cX11_evening 143 = .ok (.iload_n 2, 1) := by decide +kernel
theorem dX11_evening_144 : decode cX11_evening 144 = .ok (.invokevirtual 325, 3) := by decide +kernel
theorem dX11_evening_147 : decode cX11_evening 147 = .ok (.istore 4, 2) := by decide +kernel
theorem dX11_evening_149 : decode cX11_evening 149 = .ok (.goto (-71), 3) := by decide +kernel
theorem dX11_evening_152 : decode cX11_evening 152 = .ok (.aload_n 0, 1) := by decide +kernel
theorem dX11_evening_153 : decode cX11_evening 153 = .ok (.iload_n 2, 1) := by decide +kernel
theorem dX11_evening_154 : decode cX11_evening 154 = .ok (.putfield 74, 3) := by decide +kernel
theorem dX11_evening_157 : decode cX11_evening 157 = .ok (.iload_n 3, 1) := by decide +kernel
theorem dX11_evening_158 : decode cX11_evening 158 = .ok (.ireturn, 1) := by decide +kernel
theorem dX11_drawing_0 : decode cX11_drawing 0 = .ok (.aload_n 0, 1) := by decide +kernel
theorem dX11_drawing_1 : decode cX11_drawing 1 = .ok (.iconst 0, 1) := by decide +kernel
theorem dX11_drawing_2 : decode cX11_drawing 2 = .ok (.putfield 113, 3) := by decide +kernel
theorem dX11_drawing_5 : decode cX11_drawing 5 = .ok (.aload_n 0, 1) := by decide +kernel
theorem dX11_drawing_6 : decode cX11_drawing 6 = .ok (.aload_n 0, 1) := by decide +kernel
theorem dX11_drawing_7 : decode cX11_drawing 7 = .ok (.getfield 74, 3) := by decide +kernel
theorem dX11_drawing_10 : decode cX11_drawing 10 = .ok (.iconst (-1), 1) := by decide +kernel
theorem dX11_drawing_11 : decode cX11_drawing 11 = .ok (.if_icmp .eq 20, 3) := by decide +kernel
theorem dX11_drawing_14 : decode cX11_drawing 14 = .ok (.iload_n 1, 1) := by decide +kernel
theorem dX11_drawing_15 : decode cX11_drawing 15 = .ok (.iconst (-1), 1) := by decide +kernel
theorem dX11_drawing_16 : decode cX11_drawing 16 = .ok (.if_icmp .lt 15, 3) := by decide +kernel
theorem dX11_drawing_19 : decode cX11_drawing 19 = .ok (.iload_n 1, 1) := by decide +kernel
theorem dX11_drawing_20 : decode cX11_drawing 20 = .ok (.aload_n 0, 1) := by decide +kernel
theorem dX11_drawing_21 : decode cX11_drawing 21 = .ok (.getfield 74, 3) := by decide +kernel
theorem dX11_drawing_24 : decode cX11_drawing 24 = .ok (.if_icmp .ge 7, 3) := by decide +kernel
theorem dX11_drawing_27 : decode cX11_drawing 27 = .ok (.iconst 1, 1) := by decide +kernel
theorem dX11_drawing_28 : decode cX11_drawing 28 = .ok (.goto 4, 3) := by decide +kernel
theorem dX11_drawing_31 : decode cX11_drawing 31 = .ok (.iconst 0, 1) := by decide +kernel
theorem dX11_drawing_32 : decode cX11_drawing 32 = .ok (.iconst 1, 1) := by decide +kernel
theorem dX11_drawing_33 : decode cX11_drawing 33 = .ok (.invokevirtual 209, 3) := by decide +kernel
theorem dX11_drawing_36 : decode cX11_drawing 36 = .ok (.ifCond .ne 5, 3) := by decide +kernel
theorem dX11_drawing_39 : decode cX11_drawing 39 = .ok (.iconst 0, 1) := by decide +kernel
theorem dX11_drawing_40 : decode cX11_drawing 40 = .ok (.ireturn, 1) := by decide +kernel
theorem dX11_drawing_41 : decode cX11_drawing 41 = .ok (.iload_n 1, 1) := by decide +kernel
theorem dX11_drawing_42 : decode cX11_drawing 42 = .ok (.iconst (-1), 1) := by decide +kernel
theorem dX11_drawing_43 : decode cX11_drawing 43 = .ok (.if_icmp .ne 10, 3) := by decide +kernel
theorem dX11_drawing_46 : decode cX11_drawing 46 = .ok (.aload_n 0, 1) := by decide +kernel
theorem dX11_drawing_47 : decode cX11_drawing 47 = .ok (.getfield 322, 3) := by decide +kernel
theorem dX11_drawing_50 : decode cX11_drawing 50 = .ok (.goto 9, 3) := by decide +kernel
theorem dX11_drawing_53 : decode cX11_drawing 53 = .ok (.aload_n 0, 1) := by decide +kernel
theorem dX11_drawing_54 : decode cX11_drawing 54 = .ok (.getfield 71, 3) := by decide +kernel
theorem dX11_drawing_57 : decode cX11_drawing 57 = .ok (.iload_n 1, 1) := by decide +kernel
theorem dX11_drawing_58 : decode cX11_drawing 58 = .ok (.iaload, 1) := by decide +kernel
theorem dX11_drawing_59 : decode cX11_drawing 59 = .ok (.ireturn, 1) := by decide +kernel
theorem dX11_puts_0 : decode cX11_puts 0 = .ok (.aload_n 0, 1) := by decide +kernel
theorem dX11_puts_1 : decode cX11_puts 1 = .ok (.getfield 80, 3) := by decide +kernel
theorem dX11_puts_4 : decode cX11_puts 4 = .ok (.aload_n 0, 1) := by decide +kernel
theorem dX11_puts_5 : decode cX11_puts 5 = .ok (.getfield 328, 3) := by decide +kernel
theorem dX11_puts_8 : decode cX11_puts 8 = .ok (.iload_n 1, 1) := by decide +kernel
theorem dX11_puts_9 : decode cX11_puts 9 = .ok (.iastore, 1) := by decide +kernel
theorem dX11_puts_10 : decode cX11_puts 10 = .ok (.aload_n 0, 1) := by decide +kernel
theorem dX11_puts_11 : decode cX11_puts 11 = .ok (.dup, 1) := by decide +kernel
theorem dX11_puts_12 : decode cX11_puts 12 = .ok (.getfield 328, 3) := by decide +kernel
theorem dX11_puts_15 : decode cX11_puts 15 = .ok (.iconst 1, 1) := by decide +kernel
theorem dX11_puts_16 : decode cX11_puts 16 = .ok (.iadd, 1) := by decide +kernel
theorem dX11_puts_17 : decode cX11_puts 17 = .ok (.putfield 328, 3) := by decide +kernel
theorem dX11_puts_20 : decode cX11_puts 20 = .ok (.return_, 1) := by decide +kernel
theorem dX11_isSign_0 : decode cX11_isSign 0 = .ok (.aload_n 0, 1) := by decide +kernel
theorem dX11_isSign_1 : decode cX11_isSign 1 = .ok (.getfield 146, 3) := by decide +kernel
theorem dX11_isSign_4 : decode cX11_isSign 4 = .ok (.iconst 3, 1) := by decide +kernel
theorem dX11_isSign_5 : decode cX11_isSign 5 = .ok (.if_icmp .ne 15, 3) := by decide +kernel
theorem dX11_isSign_8 : decode cX11_isSign 8 = .ok (.aload_n 0, 1) := by decide +kernel
theorem dX11_isSign_9 : decode cX11_isSign 9 = .ok (.getfield 143, 3) := by decide +kernel
theorem dX11_isSign_12 : decode cX11_isSign 12 = .ok (.iload_n 1, 1) := by decide +kernel
theorem dX11_isSign_13 : decode cX11_isSign 13 = .ok (.if_icmp .ne 7, 3) := by decide +kernel
theorem dX11_isSign_16 : decode cX11_isSign 16 = .ok (.iconst 1, 1) := by decide +kernel
theorem dX11_isSign_17 : decode cX11_isSign 17 = .ok (.goto 4, 3) := by decide +kernel
theorem dX11_isSign_20 : decode cX11_isSign 20 = .ok (.iconst 0, 1) := by decide +kernel
theorem dX11_isSign_21 : decode cX11_isSign 21 = .ok (.ireturn, 1) := by decide +kernel
theorem dX11_opens_0 : decode cX11_opens 0 = .ok (.aload_n 0, 1) := by decide +kernel
theorem dX11_opens_1 : decode cX11_opens 1 = .ok (.aload_n 0, 1) := by decide +kernel
theorem dX11_opens_2 : decode cX11_opens 2 = .ok (.bipush 40, 2) := by decide +kernel
theorem dX11_opens_4 : decode cX11_opens 4 = .ok (.invokevirtual 331, 3) := by decide +kernel
theorem dX11_opens_7 : decode cX11_opens 7 = .ok (.invokevirtual 192, 3) := by decide +kernel
theorem dX11_opens_10 : decode cX11_opens 10 = .ok (.aload_n 0, 1) := by decide +kernel
theorem dX11_opens_11 : decode cX11_opens 11 = .ok (.getfield 83, 3) := by decide +kernel
theorem dX11_opens_14 : decode cX11_opens 14 = .ok (.aload_n 0, 1) := by decide +kernel
theorem dX11_opens_15 : decode cX11_opens 15 = .ok (.getfield 334, 3) := by decide +kernel
theorem dX11_opens_18 : decode cX11_opens 18 = .ok (.iload_n 1, 1) := by decide +kernel
theorem dX11_opens_19 : decode cX11_opens 19 = .ok (.iastore, 1) := by decide +kernel
theorem dX11_opens_20 : decode cX11_opens 20 = .ok (.aload_n 0, 1) := by decide +kernel
theorem dX11_opens_21 : decode cX11_opens 21 = .ok (.getfield 86, 3) := by decide +kernel
theorem dX11_opens_24 : decode cX11_opens 24 = .ok (.aload_n 0, 1) := by decide +kernel
theorem dX11_opens_25 : decode cX11_opens 25 = .ok (.getfield 334, 3) := by decide +kernel
theorem dX11_opens_28 : decode cX11_opens 28 = .ok (.iload_n 2, 1) := by decide +kernel
theorem dX11_opens_29 : decode cX11_opens 29 = .ok (.iastore, 1) := by decide +kernel
theorem dX11_opens_30 : decode cX11_opens 30 = .ok (.aload_n 0, 1) := by decide +kernel
theorem dX11_opens_31 : decode cX11_opens 31 = .ok (.dup, 1) := by decide +kernel
theorem dX11_opens_32 : decode cX11_opens 32 = .ok (.getfield 334, 3) := by decide +kernel
theorem dX11_opens_35 : decode cX11_opens 35 = .ok (.iconst 1, 1) := by decide +kernel
theorem dX11_opens_36 : decode cX11_opens 36 = .ok (.iadd, 1) := by decide +kernel
theorem dX11_opens_37 : decode cX11_opens 37 = .ok (.putfield 334, 3) := by decide +kernel
theorem dX11_opens_40 : decode cX11_opens 40 = .ok (.return_, 1) := by decide +kernel
theorem dX11_test_0 : decode cX11_test 0 = .ok (.iconst 0, 1) := by decide +kernel
theorem dX11_test_1 : decode cX11_test 1 = .ok (.istore_n 1, 1) := by decide +kernel
theorem dX11_test_2 : decode cX11_test 2 = .ok (.aload_n 0, 1) := by decide +kernel
theorem dX11_test_3 : decode cX11_test 3 = .ok (.invokevirtual 172, 3) := by decide +kernel
theorem dX11_test_6 : decode cX11_test 6 = .ok (.ifCond .eq 39, 3) := by decide +kernel
theorem dX11_test_9 : decode cX11_test 9 = .ok (.aload_n 0, 1) := by decide +kernel
theorem dX11_test_10 : decode cX11_test 10 = .ok (.bipush 14, 2) := by decide +kernel
theorem dX11_test_12 : decode cX11_test 12 = .ok (.invokevirtual 189, 3) := by decide +kernel
theorem dX11_test_15 : decode cX11_test 15 = .ok (.ifCond .eq 30, 3) := by decide +kernel
theorem dX11_test_18 : decode cX11_test 18 = .ok (.iload_n 1, 1) := by decide +kernel
theorem dX11_test_19 : decode cX11_test 19 = .ok (.iconst 4, 1) := by decide +kernel
theorem dX11_test_20 : decode cX11_test 20 = .ok (.if_icmp .ne 8, 3) := by decide +kernel
theorem dX11_test_23 : decode cX11_test 23 = .ok (.aload_n 0, 1) := by decide +kernel
theorem dX11_test_24 : decode cX11_test 24 = .ok (.iconst 2, 1) := by decide +kernel
theorem dX11_test_25 : decode cX11_test 25 = .ok (.invokevirtual 179, 3) := by decide +kernel
theorem dX11_test_28 : decode cX11_test 28 = .ok (.iinc 1 1, 3) := by decide +kernel
theorem dX11_test_31 : decode cX11_test 31 = .ok (.aload_n 0, 1) := by decide +kernel
theorem dX11_test_32 : decode cX11_test 32 = .ok (.invokevirtual 172, 3) := by decide +kernel
theorem dX11_test_35 : decode cX11_test 35 = .ok (.ifCond .eq (-33), 3) := by decide +kernel
theorem dX11_test_38 : decode cX11_test 38 = .ok (.aload_n 0, 1) := by decide +kernel
theorem dX11_test_39 : decode cX11_test 39 = .ok (.invokevirtual 176, 3) := by decide +kernel
theorem dX11_test_42 : decode cX11_test 42 = .ok (.goto (-40), 3) := by decide +kernel
theorem dX11_test_45 : decode cX11_test 45 = .ok (.aload_n 0, 1) := by decide +kernel
theorem dX11_test_46 : decode cX11_test 46 = .ok (.invokevirtual 172, 3) := by decide +kernel
theorem dX11_test_49 : decode cX11_test 49 = .ok (.ifCond .ne 4, 3) := by decide +kernel
theorem dX11_test_52 : decode cX11_test 52 = .ok (.return_, 1) := by decide +kernel
theorem dX11_test_53 : decode cX11_test 53 = .ok (.iconst (-1), 1) := by decide +kernel
theorem dX11_test_54 : decode cX11_test 54 = .ok (.istore_n 2, 1) := by decide +kernel
theorem dX11_test_55 : decode cX11_test 55 = .ok (.bipush 15, 2) := by decide +kernel
theorem dX11_test_57 : decode cX11_test 57 = .ok (.istore_n 3, 1) := by decide +kernel
theorem dX11_test_58 : decode cX11_test 58 = .ok (.iload_n 3, 1) := by decide +kernel
theorem dX11_test_59 : decode cX11_test 59 = .ok (.bipush 18, 2) := by decide +kernel
theorem dX11_test_61 : decode cX11_test 61 = .ok (.if_icmp .gt 19, 3) := by decide +kernel
theorem dX11_test_64 : decode cX11_test 64 = .ok (.aload_n 0, 1) := by decide +kernel
theorem dX11_test_65 : decode cX11_test 65 = .ok (.iload_n 3, 1) := by decide +kernel
theorem dX11_test_66 : decode cX11_test 66 = .ok (.invokevirtual 189, 3) := by decide +kernel
theorem dX11_test_69 : decode cX11_test 69 = .ok (.ifCond .eq 5, 3) := by decide +kernel
theorem dX11_test_72 : decode cX11_test 72 = .ok (.iload_n 3, 1) := by decide +kernel
theorem dX11_test_73 : decode cX11_test 73 = .ok (.istore_n 2, 1) := by decide +kernel
theorem dX11_test_74 : decode cX11_test 74 = .ok (.iinc 3 1, 3) := by decide +kernel
theorem dX11_test_77 : decode cX11_test 77 = .ok (.goto (-19), 3) := by decide +kernel
theorem dX11_test_80 : decode cX11_test 80 = .ok (.aload_n 0, 1) := by decide +kernel
theorem dX11_test_81 : decode cX11_test 81 = .ok (.iload_n 2, 1) := by decide +kernel
theorem dX11_test_82 : decode cX11_test 82 = .ok (.iconst (-1), 1) := by decide +kernel
theorem dX11_test_83 : decode cX11_test 83 = .ok (.if_icmp .eq 7, 3) := by decide +kernel
theorem dX11_test_86 : decode cX11_test 86 = .ok (.iconst 1, 1) := by decide +kernel
theorem dX11_test_87 : decode cX11_test 87 = .ok (.goto 4, 3) := by decide +kernel
theorem dX11_test_90 : decode cX11_test 90 = .ok (.iconst 0, 1) := by decide +kernel
theorem dX11_test_91 : decode cX11_test 91 = .ok (.invokevirtual 192, 3) := by decide +kernel
theorem dX11_test_94 : decode cX11_test 94 = .ok (.aload_n 0, 1) := by decide +kernel
theorem dX11_test_95 : decode cX11_test 95 = .ok (.iload_n 1, 1) := by decide +kernel
theorem dX11_test_96 : decode cX11_test 96 = .ok (.iconst 2, 1) := by decide +kernel
theorem dX11_test_97 : decode cX11_test 97 = .ok (.irem, 1) := by decide +kernel
theorem dX11_test_98 : decode cX11_test 98 = .ok (.invokevirtual 337, 3) := by decide +kernel
theorem dX11_test_101 : decode cX11_test 101 = .ok (.aload_n 0, 1) := by decide +kernel
theorem dX11_test_102 : decode cX11_test 102 = .ok (.iload_n 2, 1) := by decide +kernel
theorem dX11_test_103 : decode cX11_test 103 = .ok (.invokevirtual 337, 3) := by decide +kernel
theorem dX11_test_106 : decode cX11_test 106 = .ok (.aload_n 0, 1) := by decide +kernel
theorem dX11_test_107 : decode cX11_test 107 = .ok (.iload_n 2, 1) := by decide +kernel
theorem dX11_test_108 : decode cX11_test 108 = .ok (.bipush 18, 2) := by decide +kernel
theorem dX11_test_110 : decode cX11_test 110 = .ok (.if_icmp .ne 12, 3) := by decide +kernel
theorem dX11_test_113 : decode cX11_test 113 = .ok (.aload_n 0, 1) := by decide +kernel
theorem dX11_test_114 : decode cX11_test 114 = .ok (.iconst 0, 1) := by decide +kernel
theorem dX11_test_115 : decode cX11_test 115 = .ok (.iconst 3, 1) := by decide +kernel
theorem dX11_test_116 : decode cX11_test 116 = .ok (.invokevirtual 182, 3) := by decide +kernel
theorem dX11_test_119 : decode cX11_test 119 = .ok (.goto 4, 3) := by decide +kernel
theorem dX11_test_122 : decode cX11_test 122 = .ok (.iconst 0, 1) := by decide +kernel
theorem dX11_test_123 : decode cX11_test 123 = .ok (.invokevirtual 337, 3) := by decide +kernel
theorem dX11_test_126 : decode cX11_test 126 = .ok (.return_, 1) := by decide +kernel
theorem dX11_closes_0 : decode cX11_closes 0 = .ok (.aload_n 0, 1) := by decide +kernel
theorem dX11_closes_1 : decode cX11_closes 1 = .ok (.invokevirtual 176, 3) := by decide +kernel
theorem dX11_closes_4 : decode cX11_closes 4 = .ok (.aload_n 0, 1) := by decide +kernel
theorem dX11_closes_5 : decode cX11_closes 5 = .ok (.dup, 1) := by decide +kernel
theorem dX11_closes_6 : decode cX11_closes 6 = .ok (.getfield 334, 3) := by decide +kernel
theorem dX11_closes_9 : decode cX11_closes 9 = .ok (.iconst 1, 1) := by decide +kernel
theorem dX11_closes_10 : decode cX11_closes 10 = .ok (.isub, 1) := by decide +kernel
theorem dX11_closes_11 : decode cX11_closes 11 = .ok (.putfield 334, 3) := by decide +kernel
theorem dX11_closes_14 : decode cX11_closes 14 = .ok (.aload_n 0, 1) := by decide +kernel
theorem dX11_closes_15 : decode cX11_closes 15 = .ok (.getfield 86, 3) := by decide +kernel
theorem dX11_closes_18 : decode cX11_closes 18 = .ok (.aload_n 0, 1) := by decide +kernel
theorem dX11_closes_19 : decode cX11_closes 19 = .ok (.getfield 334, 3) := by decide +kernel
theorem dX11_closes_22 : decode cX11_closes 22 = .ok (.iaload, 1) := by decide +kernel
theorem dX11_closes_23 : decode cX11_closes 23 = .ok (.istore_n 1, 1) := by decide +kernel
theorem dX11_closes_24 : decode cX11_closes 24 = .ok (.aload_n 0, 1) := by decide +kernel
theorem dX11_closes_25 : decode cX11_closes 25 = .ok (.getfield 83, 3) := by decide +kernel
theorem dX11_closes_28 : decode cX11_closes 28 = .ok (.aload_n 0, 1) := by decide +kernel
theorem dX11_closes_29 : decode cX11_closes 29 = .ok (.getfield 334, 3) := by decide +kernel
theorem dX11_closes_32 : decode cX11_closes 32 = .ok (.iaload, 1) := by decide +kernel
theorem dX11_closes_33 : decode cX11_closes 33 = .ok (.bipush 11, 2) := by decide +kernel
theorem dX11_closes_35 : decode cX11_closes 35 = .ok (.if_icmp .ne 29, 3) := by decide +kernel
theorem dX11_closes_38 : decode cX11_closes 38 = .ok (.aload_n 0, 1) := by decide +kernel
theorem dX11_closes_39 : decode cX11_closes 39 = .ok (.bipush 100, 2) := by decide +kernel
theorem dX11_closes_41 : decode cX11_closes 41 = .ok (.invokevirtual 337, 3) := by decide +kernel
theorem dX11_closes_44 : decode cX11_closes 44 = .ok (.aload_n 0, 1) := by decide +kernel
theorem dX11_closes_45 : decode cX11_closes 45 = .ok (.iload_n 1, 1) := by decide +kernel
theorem dX11_closes_46 : decode cX11_closes 46 = .ok (.invokevirtual 337, 3) := by decide +kernel
theorem dX11_closes_49 : decode cX11_closes 49 = .ok (.aload_n 0, 1) := by decide +kernel
theorem dX11_closes_50 : decode cX11_closes 50 = .ok (.getfield 80, 3) := by decide +kernel
theorem dX11_closes_53 : decode cX11_closes 53 = .ok (.iload_n 1, 1) := by decide +kernel
theorem dX11_closes_54 : decode cX11_closes 54 = .ok (.iconst 1, 1) := by decide +kernel
theorem dX11_closes_55 : decode cX11_closes 55 = .ok (.isub, 1) := by decide +kernel
theorem dX11_closes_56 : decode cX11_closes 56 = .ok (.aload_n 0, 1) := by decide +kernel
theorem dX11_closes_57 : decode cX11_closes 57 = .ok (.getfield 328, 3) := by decide +kernel
theorem dX11_closes_60 : decode cX11_closes 60 = .ok (.iastore, 1) := by decide +kernel
theorem dX11_closes_61 : decode cX11_closes 61 = .ok (.goto 76, 3) := by decide +kernel
theorem dX11_closes_64 : decode cX11_closes 64 = .ok (.aload_n 0, 1) := by decide +kernel
theorem dX11_closes_65 : decode cX11_closes 65 = .ok (.getfield 83, 3) := by decide +kernel
theorem dX11_closes_68 : decode cX11_closes 68 = .ok (.aload_n 0, 1) := by decide +kernel
theorem dX11_closes_69 : decode cX11_closes 69 = .ok (.getfield 334, 3) := by decide +kernel
theorem dX11_closes_72 : decode cX11_closes 72 = .ok (.iaload, 1) := by decide +kernel
theorem dX11_closes_73 : decode cX11_closes 73 = .ok (.bipush 12, 2) := by decide +kernel
theorem dX11_closes_75 : decode cX11_closes 75 = .ok (.if_icmp .ne 52, 3) := by decide +kernel
theorem dX11_closes_78 : decode cX11_closes 78 = .ok (.aload_n 0, 1) := by decide +kernel
theorem dX11_closes_79 : decode cX11_closes 79 = .ok (.bipush 13, 2) := by decide +kernel
theorem dX11_closes_81 : decode cX11_closes 81 = .ok (.invokevirtual 189, 3) := by decide +kernel
theorem dX11_closes_84 : decode cX11_closes 84 = .ok (.ifCond .eq 43, 3) := by decide +kernel
theorem dX11_closes_87 : decode cX11_closes 87 = .ok (.aload_n 0, 1) := by decide +kernel
theorem dX11_closes_88 : decode cX11_closes 88 = .ok (.invokevirtual 176, 3) := by decide +kernel
theorem dX11_closes_91 : decode cX11_closes 91 = .ok (.aload_n 0, 1) := by decide +kernel
theorem dX11_closes_92 : decode cX11_closes 92 = .ok (.bipush 101, 2) := by decide +kernel
theorem dX11_closes_94 : decode cX11_closes 94 = .ok (.invokevirtual 337, 3) := by decide +kernel
theorem dX11_closes_97 : decode cX11_closes 97 = .ok (.aload_n 0, 1) := by decide +kernel
theorem dX11_closes_98 : decode cX11_closes 98 = .ok (.iconst 0, 1) := by decide +kernel
theorem dX11_closes_99 : decode cX11_closes 99 = .ok (.invokevirtual 337, 3) := by decide +kernel
theorem dX11_closes_102 : decode cX11_closes 102 = .ok (.aload_n 0, 1) := by decide +kernel
theorem dX11_closes_103 : decode cX11_closes 103 = .ok (.getfield 80, 3) := by decide +kernel
theorem dX11_closes_106 : decode cX11_closes 106 = .ok (.iload_n 1, 1) := by decide +kernel
theorem dX11_closes_107 : decode cX11_closes 107 = .ok (.aload_n 0, 1) := by decide +kernel
theorem dX11_closes_108 : decode cX11_closes 108 = .ok (.getfield 328, 3) := by decide +kernel
theorem dX11_closes_111 : decode cX11_closes 111 = .ok (.iastore, 1) := by decide +kernel
theorem dX11_closes_112 : decode cX11_closes 112 = .ok (.aload_n 0, 1) := by decide +kernel
theorem dX11_closes_113 : decode cX11_closes 113 = .ok (.bipush 13, 2) := by decide +kernel
theorem dX11_closes_115 : decode cX11_closes 115 = .ok (.aload_n 0, 1) := by decide +kernel
theorem dX11_closes_116 : decode cX11_closes 116 = .ok (.getfield 328, 3) := by decide +kernel
theorem dX11_closes_119 : decode cX11_closes 119 = .ok (.iconst 1, 1) := by decide +kernel
theorem dX11_closes_120 : decode cX11_closes 120 = .ok (.isub, 1) := by decide +kernel
theorem dX11_closes_121 : decode cX11_closes 121 = .ok (.invokevirtual 340, 3) := by decide +kernel
theorem dX11_closes_124 : decode cX11_closes 124 = .ok (.goto 13, 3) := by decide +kernel
theorem dX11_closes_127 : decode cX11_closes 127 = .ok (.aload_n 0, 1) := by decide +kernel
theorem dX11_closes_128 : decode cX11_closes 128 = .ok (.getfield 80, 3) := by decide +kernel
theorem dX11_closes_131 : decode cX11_closes 131 = .ok (.iload_n 1, 1) := by decide +kernel
theorem dX11_closes_132 : decode cX11_closes 132 = .ok (.aload_n 0, 1) := by decide +kernel
theorem dX11_closes_133 : decode cX11_closes 133 = .ok (.getfield 328, 3) := by decide +kernel
theorem dX11_closes_136 : decode cX11_closes 136 = .ok (.iastore, 1) := by decide +kernel
theorem dX11_closes_137 : decode cX11_closes 137 = .ok (.return_, 1) := by decide +kernel
theorem dX11_act_0 : decode cX11_act 0 = .ok (.iconst (-1), 1) := by decide +kernel
theorem dX11_act_1 : decode cX11_act 1 = .ok (.istore_n 1, 1) := by decide +kernel
theorem dX11_act_2 : decode cX11_act 2 = .ok (.bipush 6, 2) := by decide +kernel
theorem dX11_act_4 : decode cX11_act 4 = .ok (.istore_n 2, 1) := by decide +kernel
theorem dX11_act_5 : decode cX11_act 5 = .ok (.iload_n 2, 1) := by decide +kernel
theorem dX11_act_6 : decode cX11_act 6 = .ok (.bipush 12, 2) := by decide +kernel
theorem dX11_act_8 : decode cX11_act 8 = .ok (.if_icmp .gt 19, 3) := by decide +kernel
theorem dX11_act_11 : decode cX11_act 11 = .ok (.aload_n 0, 1) := by decide +kernel
theorem dX11_act_12 : decode cX11_act 12 = .ok (.iload_n 2, 1) := by decide +kernel
theorem dX11_act_13 : decode cX11_act 13 = .ok (.invokevirtual 189, 3) := by decide +kernel
theorem dX11_act_16 : decode cX11_act 16 = .ok (.ifCond .eq 5, 3) := by decide +kernel
theorem dX11_act_19 : decode cX11_act 19 = .ok (.iload_n 2, 1) := by decide +kernel
theorem dX11_act_20 : decode cX11_act 20 = .ok (.istore_n 1, 1) := by decide +kernel
theorem dX11_act_21 : decode cX11_act 21 = .ok (.iinc 2 1, 3) := by decide +kernel
theorem dX11_act_24 : decode cX11_act 24 = .ok (.goto (-19), 3) := by decide +kernel
theorem dX11_act_27 : decode cX11_act 27 = .ok (.iload_n 1, 1) := by decide +kernel
theorem dX11_act_28 : decode cX11_act 28 = .ok (.iconst (-1), 1) := by decide +kernel
theorem dX11_act_29 : decode cX11_act 29 = .ok (.if_icmp .ne 11, 3) := by decide +kernel
theorem dX11_act_32 : decode cX11_act 32 = .ok (.aload_n 0, 1) := by decide +kernel
theorem dX11_act_33 : decode cX11_act 33 = .ok (.iconst 1, 1) := by decide +kernel
theorem dX11_act_34 : decode cX11_act 34 = .ok (.invokevirtual 179, 3) := by decide +kernel
theorem dX11_act_37 : decode cX11_act 37 = .ok (.goto 22, 3) := by decide +kernel
theorem dX11_act_40 : decode cX11_act 40 = .ok (.iload_n 1, 1) := by decide +kernel
theorem dX11_act_41 : decode cX11_act 41 = .ok (.bipush 11, 2) := by decide +kernel
theorem dX11_act_43 : decode cX11_act 43 = .ok (.if_icmp .lt 16, 3) := by decide +kernel
theorem dX11_act_46 : decode cX11_act 46 = .ok (.aload_n 0, 1) := by decide +kernel
theorem dX11_act_47 : decode cX11_act 47 = .ok (.getfield 334, 3) := by decide +kernel
theorem dX11_act_50 : decode cX11_act 50 = .ok (.iconst 5, 1) := by decide +kernel
theorem dX11_act_51 : decode cX11_act 51 = .ok (.if_icmp .ne 8, 3) := by decide +kernel
theorem dX11_act_54 : decode cX11_act 54 = .ok (.aload_n 0, 1) := by decide +kernel
theorem dX11_act_55 : decode cX11_act 55 = .ok (.iconst 2, 1) := by decide +kernel
theorem dX11_act_56 : decode cX11_act 56 = .ok (.invokevirtual 179, 3) := by decide +kernel
theorem dX11_act_59 : decode cX11_act 59 = .ok (.aload_n 0, 1) := by decide +kernel
theorem dX11_act_60 : decode cX11_act 60 = .ok (.invokevirtual 172, 3) := by decide +kernel
theorem dX11_act_63 : decode cX11_act 63 = .ok (.ifCond .ne 4, 3) := by decide +kernel
theorem dX11_act_66 : decode cX11_act 66 = .ok (.return_, 1) := by decide +kernel
theorem dX11_act_67 : decode cX11_act 67 = .ok (.aload_n 0, 1) := by decide +kernel
theorem dX11_act_68 : decode cX11_act 68 = .ok (.invokevirtual 176, 3) := by decide +kernel
theorem dX11_act_71 : decode cX11_act 71 = .ok (.aload_n 0, 1) := by decide +kernel
theorem dX11_act_72 : decode cX11_act 72 = .ok (.iload_n 1, 1) := by decide +kernel
theorem dX11_act_73 : decode cX11_act 73 = .ok (.invokevirtual 337, 3) := by decide +kernel
theorem dX11_act_76 : decode cX11_act 76 = .ok (.iload_n 1, 1) := by decide +kernel
theorem dX11_act_77 : decode cX11_act 77 = .ok (.bipush 6, 2) := by decide +kernel
theorem dX11_act_79 : decode cX11_act 79 = .ok (.if_icmp .eq 9, 3) := by decide +kernel
theorem dX11_act_82 : decode cX11_act 82 = .ok (.iload_n 1, 1) := by decide +kernel
theorem dX11_act_83 : decode cX11_act 83 = .ok (.bipush 7, 2) := by decide +kernel
theorem dX11_act_85 : decode cX11_act 85 = .ok (.if_icmp .ne 18, 3) := by decide +kernel
theorem dX11_act_88 : decode cX11_act 88 = .ok (.aload_n 0, 1) := by decide +kernel
theorem dX11_act_89 : decode cX11_act 89 = .ok (.aload_n 0, 1) := by decide +kernel
theorem dX11_act_90 : decode cX11_act 90 = .ok (.iconst 1, 1) := by decide +kernel
theorem dX11_act_91 : decode cX11_act 91 = .ok (.sipush 200, 3) := by decide +kernel
theorem dX11_act_94 : decode cX11_act 94 = .ok (.invokevirtual 182, 3) := by decide +kernel
theorem dX11_act_97 : decode cX11_act 97 = .ok (.invokevirtual 337, 3) := by decide +kernel
theorem dX11_act_100 : decode cX11_act 100 = .ok (.goto 125, 3) := by decide +kernel
theorem dX11_act_103 : decode cX11_act 103 = .ok (.iload_n 1, 1) := by decide +kernel
theorem dX11_act_104 : decode cX11_act 104 = .ok (.bipush 8, 2) := by decide +kernel
theorem dX11_act_106 : decode cX11_act 106 = .ok (.if_icmp .eq 9, 3) := by decide +kernel
theorem dX11_act_109 : decode cX11_act 109 = .ok (.iload_n 1, 1) := by decide +kernel
theorem dX11_act_110 : decode cX11_act 110 = .ok (.bipush 9, 2) := by decide +kernel
theorem dX11_act_112 : decode cX11_act 112 = .ok (.if_icmp .ne 37, 3) := by decide +kernel
theorem dX11_act_115 : decode cX11_act 115 = .ok (.aload_n 0, 1) := by decide +kernel
theorem dX11_act_116 : decode cX11_act 116 = .ok (.aload_n 0, 1) := by decide +kernel
theorem dX11_act_117 : decode cX11_act 117 = .ok (.iconst 0, 1) := by decide +kernel
theorem dX11_act_118 : decode cX11_act 118 = .ok (.iconst 3, 1) := by decide +kernel
theorem dX11_act_119 : decode cX11_act 119 = .ok (.invokevirtual 182, 3) := by decide +kernel
theorem dX11_act_122 : decode cX11_act 122 = .ok (.invokevirtual 337, 3) := by decide +kernel
theorem dX11_act_125 : decode cX11_act 125 = .ok (.aload_n 0, 1) := by decide +kernel
theorem dX11_act_126 : decode cX11_act 126 = .ok (.aload_n 0, 1) := by decide +kernel
theorem dX11_act_127 : decode cX11_act 127 = .ok (.iload_n 1, 1) := by decide +kernel
theorem dX11_act_128 : decode cX11_act 128 = .ok (.bipush 8, 2) := by decide +kernel
theorem dX11_act_130 : decode cX11_act 130 = .ok (.if_icmp .ne 8, 3) := by decide +kernel
theorem dX11_act_133 : decode cX11_act 133 = .ok (.bipush 9, 2) := by decide +kernel
theorem dX11_act_135 : decode cX11_act 135 = .ok (.goto 5, 3) := by decide +kernel
theorem dX11_act_138 : decode cX11_act 138 = .ok (.bipush 90, 2) := by decide +kernel
theorem dX11_act_140 : decode cX11_act 140 = .ok (.invokevirtual 202, 3) := by decide +kernel
theorem dX11_act_143 : decode cX11_act 143 = .ok (.invokevirtual 337, 3) := by decide +kernel
theorem dX11_act_146 : decode cX11_act 146 = .ok (.goto 79, 3) := by decide +kernel
theorem dX11_act_149 : decode cX11_act 149 = .ok (.iload_n 1, 1) := by decide +kernel
theorem dX11_act_150 : decode cX11_act 150 = .ok (.bipush 11, 2) := by decide +kernel
theorem dX11_act_152 : decode cX11_act 152 = .ok (.if_icmp .ne 39, 3) := by decide +kernel
theorem dX11_act_155 : decode cX11_act 155 = .ok (.aload_n 0, 1) := by decide +kernel
theorem dX11_act_156 : decode cX11_act 156 = .ok (.aload_n 0, 1) := by decide +kernel
theorem dX11_act_157 : decode cX11_act 157 = .ok (.iconst 0, 1) := by decide +kernel
theorem dX11_act_158 : decode cX11_act 158 = .ok (.bipush 20, 2) := by decide +kernel
theorem dX11_act_160 : decode cX11_act 160 = .ok (.invokevirtual 182, 3) := by decide +kernel
theorem dX11_act_163 : decode cX11_act 163 = .ok (.invokevirtual 337, 3) := by decide +kernel
theorem dX11_act_166 : decode cX11_act 166 = .ok (.aload_n 0, 1) := by decide +kernel
theorem dX11_act_167 : decode cX11_act 167 = .ok (.iconst 0, 1) := by decide +kernel
theorem dX11_act_168 : decode cX11_act 168 = .ok (.invokevirtual 337, 3) := by decide +kernel
theorem dX11_act_171 : decode cX11_act 171 = .ok (.aload_n 0, 1) := by decide +kernel
theorem dX11_act_172 : decode cX11_act 172 = .ok (.invokevirtual 172, 3) := by decide +kernel
theorem dX11_act_175 : decode cX11_act 175 = .ok (.ifCond .eq 50, 3) := by decide +kernel
theorem dX11_act_178 : decode cX11_act 178 = .ok (.aload_n 0, 1) := by decide +kernel
theorem dX11_act_179 : decode cX11_act 179 = .ok (.bipush 11, 2) := by decide +kernel
theorem dX11_act_181 : decode cX11_act 181 = .ok (.aload_n 0, 1) := by decide +kernel
theorem dX11_act_182 : decode cX11_act 182 = .ok (.getfield 328, 3) := by decide +kernel
theorem dX11_act_185 : decode cX11_act 185 = .ok (.invokevirtual 340, 3) := by decide +kernel
theorem dX11_act_188 : decode cX11_act 188 = .ok (.goto 37, 3) := by decide +kernel
theorem dX11_act_191 : decode cX11_act 191 = .ok (.iload_n 1, 1) := by decide +kernel
theorem dX11_act_192 : decode cX11_act 192 = .ok (.bipush 12, 2) := by decide +kernel
theorem dX11_act_194 : decode cX11_act 194 = .ok (.if_icmp .ne 31, 3) := by decide +kernel
theorem dX11_act_197 : decode cX11_act 197 = .ok (.aload_n 0, 1) := by decide +kernel
theorem dX11_act_198 : decode cX11_act 198 = .ok (.invokevirtual 344, 3) := by decide +kernel
theorem dX11_act_201 : decode cX11_act 201 = .ok (.aload_n 0, 1) := by decide +kernel
theorem dX11_act_202 : decode cX11_act 202 = .ok (.iconst 0, 1) := by decide +kernel
theorem dX11_act_203 : decode cX11_act 203 = .ok (.invokevirtual 337, 3) := by decide +kernel
theorem dX11_act_206 : decode cX11_act 206 = .ok (.aload_n 0, 1) := by decide +kernel
theorem dX11_act_207 : decode cX11_act 207 = .ok (.invokevirtual 172, 3) := by decide +kernel
theorem dX11_act_210 : decode cX11_act 210 = .ok (.ifCond .eq 15, 3) := by decide +kernel
theorem dX11_act_213 : decode cX11_act 213 = .ok (.aload_n 0, 1) := by decide +kernel
theorem dX11_act_214 : decode cX11_act 214 = .ok (.bipush 12, 2) := by decide +kernel
theorem dX11_act_216 : decode cX11_act 216 = .ok (.aload_n 0, 1) := by decide +kernel
theorem dX11_act_217 : decode cX11_act 217 = .ok (.getfield 328, 3) := by decide +kernel
theorem dX11_act_220 : decode cX11_act 220 = .ok (.iconst 1, 1) := by decide +kernel
theorem dX11_act_221 : decode cX11_act 221 = .ok (.isub, 1) := by decide +kernel
theorem dX11_act_222 : decode cX11_act 222 = .ok (.invokevirtual 340, 3) := by decide +kernel
theorem dX11_act_225 : decode cX11_act 225 = .ok (.return_, 1) := by decide +kernel
theorem dX11_score_0 : decode cX11_score 0 = .ok (.aload_n 0, 1) := by decide +kernel
theorem dX11_score_1 : decode cX11_score 1 = .ok (.iconst 0, 1) := by decide +kernel
theorem dX11_score_2 : decode cX11_score 2 = .ok (.putfield 113, 3) := by decide +kernel
theorem dX11_score_5 : decode cX11_score 5 = .ok (.aload_n 0, 1) := by decide +kernel
theorem dX11_score_6 : decode cX11_score 6 = .ok (.iload_n 1, 1) := by decide +kernel
theorem dX11_score_7 : decode cX11_score 7 = .ok (.ifCond .lt 15, 3) := by decide +kernel
theorem dX11_score_10 : decode cX11_score 10 = .ok (.iload_n 1, 1) := by decide +kernel
theorem dX11_score_11 : decode cX11_score 11 = .ok (.aload_n 0, 1) := by decide +kernel
theorem dX11_score_12 : decode cX11_score 12 = .ok (.getfield 116, 3) := by decide +kernel
theorem dX11_score_15 : decode cX11_score 15 = .ok (.if_icmp .gt 7, 3) := by decide +kernel
theorem dX11_score_18 : decode cX11_score 18 = .ok (.iconst 1, 1) := by decide +kernel
theorem dX11_score_19 : decode cX11_score 19 = .ok (.goto 4, 3) := by decide +kernel
theorem dX11_score_22 : decode cX11_score 22 = .ok (.iconst 0, 1) := by decide +kernel
theorem dX11_score_23 : decode cX11_score 23 = .ok (.iconst 1, 1) := by decide +kernel
theorem dX11_score_24 : decode cX11_score 24 = .ok (.invokevirtual 209, 3) := by decide +kernel
theorem dX11_score_27 : decode cX11_score 27 = .ok (.ifCond .ne 5, 3) := by decide +kernel
theorem dX11_score_30 : decode cX11_score 30 = .ok (.iconst 0, 1) := by decide +kernel
theorem dX11_score_31 : decode cX11_score 31 = .ok (.ireturn, 1) := by decide +kernel
theorem dX11_score_32 : decode cX11_score 32 = .ok (.aload_n 0, 1) := by decide +kernel
theorem dX11_score_33 : decode cX11_score 33 = .ok (.iconst 0, 1) := by decide +kernel
theorem dX11_score_34 : decode cX11_score 34 = .ok (.putfield 116, 3) := by decide +kernel
theorem dX11_score_37 : decode cX11_score 37 = .ok (.aload_n 0, 1) := by decide +kernel
theorem dX11_score_38 : decode cX11_score 38 = .ok (.iconst (-1), 1) := by decide +kernel
theorem dX11_score_39 : decode cX11_score 39 = .ok (.putfield 28, 3) := by decide +kernel
theorem dX11_score_42 : decode cX11_score 42 = .ok (.aload_n 0, 1) := by decide +kernel
theorem dX11_score_43 : decode cX11_score 43 = .ok (.iconst 0, 1) := by decide +kernel
theorem dX11_score_44 : decode cX11_score 44 = .ok (.putfield 169, 3) := by decide +kernel
theorem dX11_score_47 : decode cX11_score 47 = .ok (.aload_n 0, 1) := by decide +kernel
theorem dX11_score_48 : decode cX11_score 48 = .ok (.iload_n 1, 1) := by decide +kernel
theorem dX11_score_49 : decode cX11_score 49 = .ok (.putfield 123, 3) := by decide +kernel
theorem dX11_score_52 : decode cX11_score 52 = .ok (.aload_n 0, 1) := by decide +kernel
theorem dX11_score_53 : decode cX11_score 53 = .ok (.iconst 0, 1) := by decide +kernel
theorem dX11_score_54 : decode cX11_score 54 = .ok (.putfield 126, 3) := by decide +kernel
theorem dX11_score_57 : decode cX11_score 57 = .ok (.aload_n 0, 1) := by decide +kernel
theorem dX11_score_58 : decode cX11_score 58 = .ok (.iconst 0, 1) := by decide +kernel
theorem dX11_score_59 : decode cX11_score 59 = .ok (.putfield 328, 3) := by decide +kernel
theorem dX11_score_62 : decode cX11_score 62 = .ok (.aload_n 0, 1) := by decide +kernel
theorem dX11_score_63 : decode cX11_score 63 = .ok (.iconst 0, 1) := by decide +kernel
theorem dX11_score_64 : decode cX11_score 64 = .ok (.putfield 334, 3) := by decide +kernel
theorem dX11_score_67 : decode cX11_score 67 = .ok (.aload_n 0, 1) := by decide +kernel
theorem dX11_score_68 : decode cX11_score 68 = .ok (.invokevirtual 176, 3) := by decide +kernel
theorem dX11_score_71 : decode cX11_score 71 = .ok (.aload_n 0, 1) := by decide +kernel
theorem dX11_score_72 : decode cX11_score 72 = .ok (.invokevirtual 172, 3) := by decide +kernel
theorem dX11_score_75 : decode cX11_score 75 = .ok (.ifCond .eq 40, 3) := by decide +kernel
theorem dX11_score_78 : decode cX11_score 78 = .ok (.aload_n 0, 1) := by decide +kernel
theorem dX11_score_79 : decode cX11_score 79 = .ok (.getfield 146, 3) := by decide +kernel
theorem dX11_score_82 : decode cX11_score 82 = .ok (.ifCond .eq 33, 3) := by decide +kernel
theorem dX11_score_85 : decode cX11_score 85 = .ok (.aload_n 0, 1) := by decide +kernel
theorem dX11_score_86 : decode cX11_score 86 = .ok (.bipush 41, 2) := by decide +kernel
theorem dX11_score_88 : decode cX11_score 88 = .ok (.invokevirtual 331, 3) := by decide +kernel
theorem dX11_score_91 : decode cX11_score 91 = .ok (.ifCond .eq 17, 3) := by decide +kernel
theorem dX11_score_94 : decode cX11_score 94 = .ok (.aload_n 0, 1) := by decide +kernel
theorem dX11_score_95 : decode cX11_score 95 = .ok (.getfield 334, 3) := by decide +kernel
theorem dX11_score_98 : decode cX11_score 98 = .ok (.ifCond .le 10, 3) := by decide +kernel
theorem dX11_score_101 : decode cX11_score 101 = .ok (.aload_n 0, 1) := by decide +kernel
theorem dX11_score_102 : decode cX11_score 102 = .ok (.invokevirtual 347, 3) := by decide +kernel
theorem dX11_score_105 : decode cX11_score 105 = .ok (.goto (-34), 3) := by decide +kernel
theorem dX11_score_108 : decode cX11_score 108 = .ok (.aload_n 0, 1) := by decide +kernel
theorem dX11_score_109 : decode cX11_score 109 = .ok (.invokevirtual 350, 3) := by decide +kernel
theorem dX11_score_112 : decode cX11_score 112 = .ok (.goto (-41), 3) := by decide +kernel
theorem dX11_score_115 : decode cX11_score 115 = .ok (.aload_n 0, 1) := by decide +kernel
theorem dX11_score_116 : decode cX11_score 116 = .ok (.getfield 334, 3) := by decide +kernel
theorem dX11_score_119 : decode cX11_score 119 = .ok (.ifCond .le 8, 3) := by decide +kernel
theorem dX11_score_122 : decode cX11_score 122 = .ok (.aload_n 0, 1) := by decide +kernel
theorem dX11_score_123 : decode cX11_score 123 = .ok (.iconst 1, 1) := by decide +kernel
theorem dX11_score_124 : decode cX11_score 124 = .ok (.invokevirtual 179, 3) := by decide +kernel
theorem dX11_score_127 : decode cX11_score 127 = .ok (.aload_n 0, 1) := by decide +kernel
theorem dX11_score_128 : decode cX11_score 128 = .ok (.invokevirtual 172, 3) := by decide +kernel
theorem dX11_score_131 : decode cX11_score 131 = .ok (.ifCond .ne 18, 3) := by decide +kernel
theorem dX11_score_134 : decode cX11_score 134 = .ok (.aload_n 0, 1) := by decide +kernel
theorem dX11_score_135 : decode cX11_score 135 = .ok (.getfield 32, 3) := by decide +kernel
theorem dX11_score_138 : decode cX11_score 138 = .ok (.iconst 0, 1) := by decide +kernel
theorem dX11_score_139 : decode cX11_score 139 = .ok (.dup2, 1) := by decide +kernel
theorem dX11_score_140 : decode cX11_score 140 = .ok (.iaload, 1) := by decide +kernel
theorem dX11_score_141 : decode cX11_score 141 = .ok (.iconst 1, 1) := by decide +kernel
theorem dX11_score_142 : decode cX11_score 142 = .ok (.iadd, 1) := by decide +kernel
theorem dX11_score_143 : decode cX11_score 143 = .ok (.iastore, 1) := by decide +kernel
theorem dX11_score_144 : decode cX11_score 144 = .ok (.aload_n 0, 1) := by decide +kernel
theorem dX11_score_145 : decode cX11_score 145 = .ok (.getfield 169, 3) := by decide +kernel
theorem dX11_score_148 : decode cX11_score 148 = .ok (.ireturn, 1) := by decide +kernel
theorem dX11_score_149 : decode cX11_score 149 = .ok (.aload_n 0, 1) := by decide +kernel
theorem dX11_score_150 : decode cX11_score 150 = .ok (.iconst 0, 1) := by decide +kernel
theorem dX11_score_151 : decode cX11_score 151 = .ok (.invokevirtual 337, 3) := by decide +kernel
theorem dX11_score_154 : decode cX11_score 154 = .ok (.aload_n 0, 1) := by decide +kernel
theorem dX11_score_155 : decode cX11_score 155 = .ok (.aload_n 0, 1) := by decide +kernel
theorem dX11_score_156 : decode cX11_score 156 = .ok (.getfield 80, 3) := by decide +kernel
theorem dX11_score_159 : decode cX11_score 159 = .ok (.aload_n 0, 1) := by decide +kernel
theorem dX11_score_160 : decode cX11_score 160 = .ok (.getfield 77, 3) := by decide +kernel
theorem dX11_score_163 : decode cX11_score 163 = .ok (.invokevirtual 222, 3) := by decide +kernel
theorem dX11_score_166 : decode cX11_score 166 = .ok (.iconst 0, 1) := by decide +kernel
theorem dX11_score_167 : decode cX11_score 167 = .ok (.ireturn, 1) := by decide +kernel
theorem dX11_penGoing_0 : decode cX11_penGoing 0 = .ok (.aload_n 0, 1) := by decide +kernel
theorem dX11_penGoing_1 : decode cX11_penGoing 1 = .ok (.getfield 353, 3) := by decide +kernel
theorem dX11_penGoing_4 : decode cX11_penGoing 4 = .ok (.ifCond .eq 9, 3) := by decide +kernel
theorem dX11_penGoing_7 : decode cX11_penGoing 7 = .ok (.iconst 1, 1) := by decide +kernel
theorem dX11_penGoing_8 : decode cX11_penGoing 8 = .ok (.iload_n 1, 1) := by decide +kernel
theorem dX11_penGoing_9 : decode cX11_penGoing 9 = .ok (.isub, 1) := by decide +kernel
theorem dX11_penGoing_10 : decode cX11_penGoing 10 = .ok (.goto 4, 3) := by decide +kernel
theorem dX11_penGoing_13 : decode cX11_penGoing 13 = .ok (.iload_n 1, 1) := by decide +kernel
theorem dX11_penGoing_14 : decode cX11_penGoing 14 = .ok (.istore_n 2, 1) := by decide +kernel
theorem dX11_penGoing_15 : decode cX11_penGoing 15 = .ok (.aload_n 0, 1) := by decide +kernel
theorem dX11_penGoing_16 : decode cX11_penGoing 16 = .ok (.aload_n 0, 1) := by decide +kernel
theorem dX11_penGoing_17 : decode cX11_penGoing 17 = .ok (.getfield 95, 3) := by decide +kernel
theorem dX11_penGoing_20 : decode cX11_penGoing 20 = .ok (.iconst 0, 1) := by decide +kernel
theorem dX11_penGoing_21 : decode cX11_penGoing 21 = .ok (.aload_n 0, 1) := by decide +kernel
theorem dX11_penGoing_22 : decode cX11_penGoing 22 = .ok (.getfield 356, 3) := by decide +kernel
theorem dX11_penGoing_25 : decode cX11_penGoing 25 = .ok (.iload_n 2, 1) := by decide +kernel
theorem dX11_penGoing_26 : decode cX11_penGoing 26 = .ok (.invokevirtual 256, 3) := by decide +kernel
theorem dX11_penGoing_29 : decode cX11_penGoing 29 = .ok (.istore_n 3, 1) := by decide +kernel
theorem dX11_penGoing_30 : decode cX11_penGoing 30 = .ok (.iconst 0, 1) := by decide +kernel
theorem dX11_penGoing_31 : decode cX11_penGoing 31 = .ok (.istore 4, 2) := by decide +kernel
theorem dX11_penGoing_33 : decode cX11_penGoing 33 = .ok (.iload 4, 2) := by decide +kernel
theorem dX11_penGoing_35 : decode cX11_penGoing 35 = .ok (.aload_n 0, 1) := by decide +kernel
theorem dX11_penGoing_36 : decode cX11_penGoing 36 = .ok (.getfield 219, 3) := by decide +kernel
theorem dX11_penGoing_39 : decode cX11_penGoing 39 = .ok (.if_icmp .ge 45, 3) := by decide +kernel
theorem dX11_penGoing_42 : decode cX11_penGoing 42 = .ok (.iload_n 3, 1) := by decide +kernel
theorem dX11_penGoing_43 : decode cX11_penGoing 43 = .ok (.aload_n 0, 1) := by decide +kernel
theorem dX11_penGoing_44 : decode cX11_penGoing 44 = .ok (.getfield 22, 3) := by decide +kernel
theorem dX11_penGoing_47 : decode cX11_penGoing 47 = .ok (.iconst 3, 1) := by decide +kernel
theorem dX11_penGoing_48 : decode cX11_penGoing 48 = .ok (.iload 4, 2) := by decide +kernel
theorem dX11_penGoing_50 : decode cX11_penGoing 50 = .ok (.imul, 1) := by decide +kernel
theorem dX11_penGoing_51 : decode cX11_penGoing 51 = .ok (.iaload, 1) := by decide +kernel
theorem dX11_penGoing_52 : decode cX11_penGoing 52 = .ok (.aload_n 0, 1) := by decide +kernel
theorem dX11_penGoing_53 : decode cX11_penGoing 53 = .ok (.getfield 356, 3) := by decide +kernel
theorem dX11_penGoing_56 : decode cX11_penGoing 56 = .ok (.if_icmp .gt 19, 3) := by decide +kernel
theorem dX11_penGoing_59 : decode cX11_penGoing 59 = .ok (.aload_n 0, 1) := by decide +kernel
theorem dX11_penGoing_60 : decode cX11_penGoing 60 = .ok (.getfield 22, 3) := by decide +kernel
theorem dX11_penGoing_63 : decode cX11_penGoing 63 = .ok (.iconst 3, 1) := by decide +kernel
theorem dX11_penGoing_64 : decode cX11_penGoing 64 = .ok (.iload 4, 2) := by decide +kernel
theorem dX11_penGoing_66 : decode cX11_penGoing 66 = .ok (.imul, 1) := by decide +kernel
theorem dX11_penGoing_67 : decode cX11_penGoing 67 = .ok (.iconst 1, 1) := by decide +kernel
theorem dX11_penGoing_68 : decode cX11_penGoing 68 = .ok (.iadd, 1) := by decide +kernel
theorem dX11_penGoing_69 : decode cX11_penGoing 69 = .ok (.iload_n 2, 1) := by decide +kernel
theorem dX11_penGoing_70 : decode cX11_penGoing 70 = .ok (.iadd, 1) := by decide +kernel
theorem dX11_penGoing_71 : decode cX11_penGoing 71 = .ok (.iaload, 1) := by decide +kernel
theorem dX11_penGoing_72 : decode cX11_penGoing 72 = .ok (.goto 4, 3) := by decide +kernel
theorem dX11_penGoing_75 : decode cX11_penGoing 75 = .ok (.iconst 0, 1) := by decide +kernel
theorem dX11_penGoing_76 : decode cX11_penGoing 76 = .ok (.iadd, 1) := by decide +kernel
theorem dX11_penGoing_77 : decode cX11_penGoing 77 = .ok (.istore_n 3, 1) := by decide +kernel
theorem dX11_penGoing_78 : decode cX11_penGoing 78 = .ok (.iinc 4 1, 3) := by decide +kernel
theorem dX11_penGoing_81 : decode cX11_penGoing 81 = .ok (.goto (-48), 3) := by decide +kernel
theorem dX11_penGoing_84 : decode cX11_penGoing 84 = .ok (.iload_n 3, 1) := by decide +kernel
theorem dX11_penGoing_85 : decode cX11_penGoing 85 = .ok (.ireturn, 1) := by decide +kernel
theorem dX11_cellGoing_0 : decode cX11_cellGoing 0 = .ok (.aload_n 0, 1) := by decide +kernel
theorem dX11_cellGoing_1 : decode cX11_cellGoing 1 = .ok (.iconst 0, 1) := by decide +kernel
theorem dX11_cellGoing_2 : decode cX11_cellGoing 2 = .ok (.invokevirtual 359, 3) := by decide +kernel
theorem dX11_cellGoing_5 : decode cX11_cellGoing 5 = .ok (.aload_n 0, 1) := by decide +kernel
theorem dX11_cellGoing_6 : decode cX11_cellGoing 6 = .ok (.iconst 1, 1) := by decide +kernel
theorem dX11_cellGoing_7 : decode cX11_cellGoing 7 = .ok (.invokevirtual 359, 3) := by decide +kernel
theorem dX11_cellGoing_10 : decode cX11_cellGoing 10 = .ok (.invokestatic 272, 3) := by decide +kernel
theorem dX11_cellGoing_13 : decode cX11_cellGoing 13 = .ok (.ireturn, 1) := by decide +kernel
theorem dX11_holds_0 : decode cX11_holds 0 = .ok (.iload_n 1, 1) := by decide +kernel
theorem dX11_holds_1 : decode cX11_holds 1 = .ok (.tableswitch 73 15 17 #[27, 45, 59], 27) := by decide +kernel
theorem dX11_holds_28 : decode cX11_holds 28 = .ok (.aload_n 0, 1) := by decide +kernel
theorem dX11_holds_29 : decode cX11_holds 29 = .ok (.getfield 92, 3) := by decide +kernel
theorem dX11_holds_32 : decode cX11_holds 32 = .ok (.aload_n 0, 1) := by decide +kernel
theorem dX11_holds_33 : decode cX11_holds 33 = .ok (.invokevirtual 362, 3) := by decide +kernel
theorem dX11_holds_36 : decode cX11_holds 36 = .ok (.iaload, 1) := by decide +kernel
theorem dX11_holds_37 : decode cX11_holds 37 = .ok (.ifCond .le 7, 3) := by decide +kernel
theorem dX11_holds_40 : decode cX11_holds 40 = .ok (.iconst 1, 1) := by decide +kernel
theorem dX11_holds_41 : decode cX11_holds 41 = .ok (.goto 4, 3) := by decide +kernel
theorem dX11_holds_44 : decode cX11_holds 44 = .ok (.iconst 0, 1) := by decide +kernel
theorem dX11_holds_45 : decode cX11_holds 45 = .ok (.ireturn, 1) := by decide +kernel
theorem dX11_holds_46 : decode cX11_holds 46 = .ok (.aload_n 0, 1) := by decide +kernel
theorem dX11_holds_47 : decode cX11_holds 47 = .ok (.iconst 0, 1) := by decide +kernel
theorem dX11_holds_48 : decode cX11_holds 48 = .ok (.invokevirtual 359, 3) := by decide +kernel
theorem dX11_holds_51 : decode cX11_holds 51 = .ok (.ifCond .le 7, 3) := by decide +kernel
theorem dX11_holds_54 : decode cX11_holds 54 = .ok (.iconst 1, 1) := by decide +kernel
theorem dX11_holds_55 : decode cX11_holds 55 = .ok (.goto 4, 3) := by decide +kernel
theorem dX11_holds_58 : decode cX11_holds 58 = .ok (.iconst 0, 1) := by decide +kernel
theorem dX11_holds_59 : decode cX11_holds 59 = .ok (.ireturn, 1) := by decide +kernel
theorem dX11_holds_60 : decode cX11_holds 60 = .ok (.aload_n 0, 1) := by decide +kernel
theorem dX11_holds_61 : decode cX11_holds 61 = .ok (.iconst 1, 1) := by decide +kernel
theorem dX11_holds_62 : decode cX11_holds 62 = .ok (.invokevirtual 359, 3) := by decide +kernel
theorem dX11_holds_65 : decode cX11_holds 65 = .ok (.ifCond .le 7, 3) := by decide +kernel
theorem dX11_holds_68 : decode cX11_holds 68 = .ok (.iconst 1, 1) := by decide +kernel
theorem dX11_holds_69 : decode cX11_holds 69 = .ok (.goto 4, 3) := by decide +kernel
theorem dX11_holds_72 : decode cX11_holds 72 = .ok (.iconst 0, 1) := by decide +kernel
theorem dX11_holds_73 : decode cX11_holds 73 = .ok (.ireturn, 1) := by decide +kernel
theorem dX11_holds_74 : decode cX11_holds 74 = .ok (.aload_n 0, 1) := by decide +kernel
theorem dX11_holds_75 : decode cX11_holds 75 = .ok (.aload_n 0, 1) := by decide +kernel
theorem dX11_holds_76 : decode cX11_holds 76 = .ok (.getfield 95, 3) := by decide +kernel
theorem dX11_holds_79 : decode cX11_holds 79 = .ok (.iconst 0, 1) := by decide +kernel
theorem dX11_holds_80 : decode cX11_holds 80 = .ok (.iload_n 2, 1) := by decide +kernel
theorem dX11_holds_81 : decode cX11_holds 81 = .ok (.aload_n 0, 1) := by decide +kernel
theorem dX11_holds_82 : decode cX11_holds 82 = .ok (.getfield 356, 3) := by decide +kernel
theorem dX11_holds_85 : decode cX11_holds 85 = .ok (.invokevirtual 252, 3) := by decide +kernel
theorem dX11_holds_88 : decode cX11_holds 88 = .ok (.ifCond .eq 7, 3) := by decide +kernel
theorem dX11_holds_91 : decode cX11_holds 91 = .ok (.iconst 1, 1) := by decide +kernel
theorem dX11_holds_92 : decode cX11_holds 92 = .ok (.goto 4, 3) := by decide +kernel
theorem dX11_holds_95 : decode cX11_holds 95 = .ok (.iconst 0, 1) := by decide +kernel
theorem dX11_holds_96 : decode cX11_holds 96 = .ok (.ireturn, 1) := by decide +kernel
theorem dX11_draws_0 : decode cX11_draws 0 = .ok (.iconst 0, 1) := by decide +kernel
theorem dX11_draws_1 : decode cX11_draws 1 = .ok (.istore_n 2, 1) := by decide +kernel
theorem dX11_draws_2 : decode cX11_draws 2 = .ok (.iload_n 2, 1) := by decide +kernel
theorem dX11_draws_3 : decode cX11_draws 3 = .ok (.iload_n 1, 1) := by decide +kernel
theorem dX11_draws_4 : decode cX11_draws 4 = .ok (.if_icmp .ge 58, 3) := by decide +kernel
theorem dX11_draws_7 : decode cX11_draws 7 = .ok (.aload_n 0, 1) := by decide +kernel
theorem dX11_draws_8 : decode cX11_draws 8 = .ok (.getfield 366, 3) := by decide +kernel
theorem dX11_draws_11 : decode cX11_draws 11 = .ok (.ifCond .ne 51, 3) := by decide +kernel
theorem dX11_draws_14 : decode cX11_draws 14 = .ok (.aload_n 0, 1) := by decide +kernel
theorem dX11_draws_15 : decode cX11_draws 15 = .ok (.getfield 92, 3) := by decide +kernel
theorem dX11_draws_18 : decode cX11_draws 18 = .ok (.aload_n 0, 1) := by decide +kernel
theorem dX11_draws_19 : decode cX11_draws 19 = .ok (.invokevirtual 362, 3) := by decide +kernel
theorem dX11_draws_22 : decode cX11_draws 22 = .ok (.dup2, 1) := by decide +kernel
theorem dX11_draws_23 : decode cX11_draws 23 = .ok (.iaload, 1) := by decide +kernel
theorem dX11_draws_24 : decode cX11_draws 24 = .ok (.iconst 1, 1) := by decide +kernel
theorem dX11_draws_25 : decode cX11_draws 25 = .ok (.iadd, 1) := by decide +kernel
theorem dX11_draws_26 : decode cX11_draws 26 = .ok (.iastore, 1) := by decide +kernel
theorem dX11_draws_27 : decode cX11_draws 27 = .ok (.aload_n 0, 1) := by decide +kernel
theorem dX11_draws_28 : decode cX11_draws 28 = .ok (.dup, 1) := by decide +kernel
theorem dX11_draws_29 : decode cX11_draws 29 = .ok (.getfield 356, 3) := by decide +kernel
theorem dX11_draws_32 : decode cX11_draws 32 = .ok (.iconst 1, 1) := by decide +kernel
theorem dX11_draws_33 : decode cX11_draws 33 = .ok (.iadd, 1) := by decide +kernel
theorem dX11_draws_34 : decode cX11_draws 34 = .ok (.putfield 356, 3) := by decide +kernel
theorem dX11_draws_37 : decode cX11_draws 37 = .ok (.aload_n 0, 1) := by decide +kernel
theorem dX11_draws_38 : decode cX11_draws 38 = .ok (.aload_n 0, 1) := by decide +kernel
theorem dX11_draws_39 : decode cX11_draws 39 = .ok (.getfield 356, 3) := by decide +kernel
theorem dX11_draws_42 : decode cX11_draws 42 = .ok (.sipush 10000, 3) := by decide +kernel
theorem dX11_draws_45 : decode cX11_draws 45 = .ok (.if_icmp .lt 7, 3) := by decide +kernel
theorem dX11_draws_48 : decode cX11_draws 48 = .ok (.iconst 1, 1) := by decide +kernel
theorem dX11_draws_49 : decode cX11_draws 49 = .ok (.goto 4, 3) := by decide +kernel
theorem dX11_draws_52 : decode cX11_draws 52 = .ok (.iconst 0, 1) := by decide +kernel
theorem dX11_draws_53 : decode cX11_draws 53 = .ok (.putfield 366, 3) := by decide +kernel
theorem dX11_draws_56 : decode cX11_draws 56 = .ok (.iinc 2 1, 3) := by decide +kernel
theorem dX11_draws_59 : decode cX11_draws 59 = .ok (.goto (-57), 3) := by decide +kernel
theorem dX11_draws_62 : decode cX11_draws 62 = .ok (.return_, 1) := by decide +kernel
theorem dX11_between_0 : decode cX11_between 0 = .ok (.iload_n 0, 1) := by decide +kernel
theorem dX11_between_1 : decode cX11_between 1 = .ok (.ifCond .ge 7, 3) := by decide +kernel
theorem dX11_between_4 : decode cX11_between 4 = .ok (.iconst 0, 1) := by decide +kernel
theorem dX11_between_5 : decode cX11_between 5 = .ok (.goto 13, 3) := by decide +kernel
theorem dX11_between_8 : decode cX11_between 8 = .ok (.iload_n 0, 1) := by decide +kernel
theorem dX11_between_9 : decode cX11_between 9 = .ok (.iload_n 1, 1) := by decide +kernel
theorem dX11_between_10 : decode cX11_between 10 = .ok (.if_icmp .le 7, 3) := by decide +kernel
theorem dX11_between_13 : decode cX11_between 13 = .ok (.iload_n 1, 1) := by decide +kernel
theorem dX11_between_14 : decode cX11_between 14 = .ok (.goto 4, 3) := by decide +kernel
theorem dX11_between_17 : decode cX11_between 17 = .ok (.iload_n 0, 1) := by decide +kernel
theorem dX11_between_18 : decode cX11_between 18 = .ok (.ireturn, 1) := by decide +kernel
theorem dX11_performs_0 : decode cX11_performs 0 = .ok (.iconst 0, 1) := by decide +kernel
theorem dX11_performs_1 : decode cX11_performs 1 = .ok (.istore_n 1, 1) := by decide +kernel
theorem dX11_performs_2 : decode cX11_performs 2 = .ok (.iload_n 1, 1) := by decide +kernel
theorem dX11_performs_3 : decode cX11_performs 3 = .ok (.sipush 729, 3) := by decide +kernel
theorem dX11_performs_6 : decode cX11_performs 6 = .ok (.if_icmp .ge 16, 3) := by decide +kernel
theorem dX11_performs_9 : decode cX11_performs 9 = .ok (.aload_n 0, 1) := by decide +kernel
theorem dX11_performs_10 : decode cX11_performs 10 = .ok (.getfield 92, 3) := by decide +kernel
theorem dX11_performs_13 : decode cX11_performs 13 = .ok (.iload_n 1, 1) := by decide +kernel
theorem dX11_performs_14 : decode cX11_performs 14 = .ok (.iconst 0, 1) := by decide +kernel
theorem dX11_performs_15 : decode cX11_performs 15 = .ok (.iastore, 1) := by decide +kernel
theorem dX11_performs_16 : decode cX11_performs 16 = .ok (.iinc 1 1, 3) := by decide +kernel
theorem dX11_performs_19 : decode cX11_performs 19 = .ok (.goto (-17), 3) := by decide +kernel
theorem dX11_performs_22 : decode cX11_performs 22 = .ok (.aload_n 0, 1) := by decide +kernel
theorem dX11_performs_23 : decode cX11_performs 23 = .ok (.aload_n 0, 1) := by decide +kernel
theorem dX11_performs_24 : decode cX11_performs 24 = .ok (.getfield 19, 3) := by decide +kernel
theorem dX11_performs_27 : decode cX11_performs 27 = .ok (.aload_n 0, 1) := by decide +kernel
theorem dX11_performs_28 : decode cX11_performs 28 = .ok (.getfield 95, 3) := by decide +kernel
theorem dX11_performs_31 : decode cX11_performs 31 = .ok (.invokevirtual 222, 3) := by decide +kernel
theorem dX11_performs_34 : decode cX11_performs 34 = .ok (.aload_n 0, 1) := by decide +kernel
theorem dX11_performs_35 : decode cX11_performs 35 = .ok (.iconst 0, 1) := by decide +kernel
theorem dX11_performs_36 : decode cX11_performs 36 = .ok (.putfield 369, 3) := by decide +kernel
theorem dX11_performs_39 : decode cX11_performs 39 = .ok (.aload_n 0, 1) := by decide +kernel
theorem dX11_performs_40 : decode cX11_performs 40 = .ok (.iconst 0, 1) := by decide +kernel
theorem dX11_performs_41 : decode cX11_performs 41 = .ok (.putfield 356, 3) := by decide +kernel
theorem dX11_performs_44 : decode cX11_performs 44 = .ok (.aload_n 0, 1) := by decide +kernel
theorem dX11_performs_45 : decode cX11_performs 45 = .ok (.iconst 0, 1) := by decide +kernel
theorem dX11_performs_46 : decode cX11_performs 46 = .ok (.putfield 353, 3) := by decide +kernel
theorem dX11_performs_49 : decode cX11_performs 49 = .ok (.aload_n 0, 1) := by decide +kernel
theorem dX11_performs_50 : decode cX11_performs 50 = .ok (.iconst 0, 1) := by decide +kernel
theorem dX11_performs_51 : decode cX11_performs 51 = .ok (.putfield 366, 3) := by decide +kernel
theorem dX11_performs_54 : decode cX11_performs 54 = .ok (.iconst 0, 1) := by decide +kernel
theorem dX11_performs_55 : decode cX11_performs 55 = .ok (.istore_n 1, 1) := by decide +kernel
theorem dX11_performs_56 : decode cX11_performs 56 = .ok (.iconst 0, 1) := by decide +kernel
theorem dX11_performs_57 : decode cX11_performs 57 = .ok (.istore_n 2, 1) := by decide +kernel
theorem dX11_performs_58 : decode cX11_performs 58 = .ok (.aload_n 0, 1) := by decide +kernel
theorem dX11_performs_59 : decode cX11_performs 59 = .ok (.getfield 77, 3) := by decide +kernel
theorem dX11_performs_62 : decode cX11_performs 62 = .ok (.iload_n 2, 1) := by decide +kernel
theorem dX11_performs_63 : decode cX11_performs 63 = .ok (.iaload, 1) := by decide +kernel
theorem dX11_performs_64 : decode cX11_performs 64 = .ok (.ifCond .eq 454, 3) := by decide +kernel
theorem dX11_performs_67 : decode cX11_performs 67 = .ok (.aload_n 0, 1) := by decide +kernel
theorem dX11_performs_68 : decode cX11_performs 68 = .ok (.getfield 366, 3) := by decide +kernel
theorem dX11_performs_71 : decode cX11_performs 71 = .ok (.ifCond .ne 447, 3) := by decide +kernel
theorem dX11_performs_74 : decode cX11_performs 74 = .ok (.aload_n 0, 1) := by decide +kernel
theorem dX11_performs_75 : decode cX11_performs 75 = .ok (.getfield 77, 3) := by decide +kernel
theorem dX11_performs_78 : decode cX11_performs 78 = .ok (.iload_n 2, 1) := by decide +kernel
theorem dX11_performs_79 : decode cX11_performs 79 = .ok (.iaload, 1) := by decide +kernel
theorem dX11_performs_80 : decode cX11_performs 80 = .ok (.istore_n 3, 1) := by decide +kernel
theorem dX11_performs_81 : decode cX11_performs 81 = .ok (.iload_n 3, 1) := by decide +kernel
theorem dX11_performs_82 : decode cX11_performs 82 = .ok (.bipush 100, 2) := by decide +kernel
theorem dX11_performs_84 : decode cX11_performs 84 = .ok (.if_icmp .ne 63, 3) := by decide +kernel
theorem dX11_performs_87 : decode cX11_performs 87 = .ok (.aload_n 0, 1) := by decide +kernel
theorem dX11_performs_88 : decode cX11_performs 88 = .ok (.getfield 89, 3) := by decide +kernel
theorem dX11_performs_91 : decode cX11_performs 91 = .ok (.iload_n 1, 1) := by decide +kernel
theorem dX11_performs_92 : decode cX11_performs 92 = .ok (.iconst 1, 1) := by decide +kernel
theorem dX11_performs_93 : decode cX11_performs 93 = .ok (.isub, 1) := by decide +kernel
theorem dX11_performs_94 : decode cX11_performs 94 = .ok (.dup2, 1) := by decide +kernel
theorem dX11_performs_95 : decode cX11_performs 95 = .ok (.iaload, 1) := by decide +kernel
theorem dX11_performs_96 : decode cX11_performs 96 = .ok (.iconst 1, 1) := by decide +kernel
theorem dX11_performs_97 : decode cX11_performs 97 = .ok (.isub, 1) := by decide +kernel
theorem dX11_performs_98 : decode cX11_performs 98 = .ok (.iastore, 1) := by decide +kernel
theorem dX11_performs_99 : decode cX11_performs 99 = .ok (.aload_n 0, 1) := by decide +kernel
theorem dX11_performs_100 : decode cX11_performs 100 = .ok (.getfield 89, 3) := by decide +kernel
theorem dX11_performs_103 : decode cX11_performs 103 = .ok (.iload_n 1, 1) := by decide +kernel
theorem dX11_performs_104 : decode cX11_performs 104 = .ok (.iconst 1, 1) := by decide +kernel
theorem dX11_performs_105 : decode cX11_performs 105 = .ok (.isub, 1) := by decide +kernel
theorem dX11_performs_106 : decode cX11_performs 106 = .ok (.iaload, 1) := by decide +kernel
theorem dX11_performs_107 : decode cX11_performs 107 = .ok (.ifCond .le 14, 3) := by decide +kernel
theorem dX11_performs_110 : decode cX11_performs 110 = .ok (.aload_n 0, 1) := by decide +kernel
theorem dX11_performs_111 : decode cX11_performs 111 = .ok (.getfield 77, 3) := by decide +kernel
theorem dX11_performs_114 : decode cX11_performs 114 = .ok (.iload_n 2, 1) := by decide +kernel
theorem dX11_performs_115 : decode cX11_performs 115 = .ok (.iconst 1, 1) := by decide +kernel
theorem dX11_performs_116 : decode cX11_performs 116 = .ok (.iadd, 1) := by decide +kernel
theorem dX11_performs_117 : decode cX11_performs 117 = .ok (.iaload, 1) := by decide +kernel
theorem dX11_performs_118 : decode cX11_performs 118 = .ok (.goto 6, 3) := by decide +kernel
theorem dX11_performs_121 : decode cX11_performs 121 = .ok (.iload_n 2, 1) := by decide +kernel
theorem dX11_performs_122 : decode cX11_performs 122 = .ok (.iconst 2, 1) := by decide +kernel
theorem dX11_performs_123 : decode cX11_performs 123 = .ok (.iadd, 1) := by decide +kernel
theorem dX11_performs_124 : decode cX11_performs 124 = .ok (.istore_n 2, 1) := by decide +kernel
theorem dX11_performs_125 : decode cX11_performs 125 = .ok (.iload_n 1, 1) := by decide +kernel
theorem dX11_performs_126 : decode cX11_performs 126 = .ok (.aload_n 0, 1) := by decide +kernel
theorem dX11_performs_127 : decode cX11_performs 127 = .ok (.getfield 89, 3) := by decide +kernel
theorem dX11_performs_130 : decode cX11_performs 130 = .ok (.iload_n 1, 1) := by decide +kernel
theorem dX11_performs_131 : decode cX11_performs 131 = .ok (.iconst 1, 1) := by decide +kernel
theorem dX11_performs_132 : decode cX11_performs 132 = .ok (.isub, 1) := by decide +kernel
theorem dX11_performs_133 : decode cX11_performs 133 = .ok (.iaload, 1) := by decide +kernel
theorem dX11_performs_134 : decode cX11_performs 134 = .ok (.ifCond .le 7, 3) := by decide +kernel
theorem dX11_performs_137 : decode cX11_performs 137 = .ok (.iconst 0, 1) := by decide +kernel
theorem dX11_performs_138 : decode cX11_performs 138 = .ok (.goto 4, 3) := by decide +kernel
theorem dX11_performs_141 : decode cX11_performs 141 = .ok (.iconst 1, 1) := by decide +kernel
theorem dX11_performs_142 : decode cX11_performs 142 = .ok (.isub, 1) := by decide +kernel
theorem dX11_performs_143 : decode cX11_performs 143 = .ok (.istore_n 1, 1) := by decide +kernel
theorem dX11_performs_144 : decode cX11_performs 144 = .ok (.goto (-86), 3) := by decide +kernel
theorem dX11_performs_147 : decode cX11_performs 147 = .ok (.iload_n 3, 1) := by decide +kernel
theorem dX11_performs_148 : decode cX11_performs 148 = .ok (.bipush 101, 2) := by decide +kernel
theorem dX11_performs_150 : decode cX11_performs 150 = .ok (.if_icmp .ne 15, 3) := by decide +kernel
theorem dX11_performs_153 : decode cX11_performs 153 = .ok (.aload_n 0, 1) := by decide +kernel
theorem dX11_performs_154 : decode cX11_performs 154 = .ok (.getfield 77, 3) := by decide +kernel
theorem dX11_performs_157 : decode cX11_performs 157 = .ok (.iload_n 2, 1) := by decide +kernel
theorem dX11_performs_158 : decode cX11_performs 158 = .ok (.iconst 1, 1) := by decide +kernel
theorem dX11_performs_159 : decode cX11_performs 159 = .ok (.iadd, 1) := by decide +kernel
theorem dX11_performs_160 : decode cX11_performs 160 = .ok (.iaload, 1) := by decide +kernel
theorem dX11_performs_161 : decode cX11_performs 161 = .ok (.istore_n 2, 1) := by decide +kernel
theorem dX11_performs_162 : decode cX11_performs 162 = .ok (.goto (-104), 3) := by decide +kernel
theorem dX11_performs_165 : decode cX11_performs 165 = .ok (.aload_n 0, 1) := by decide +kernel
theorem dX11_performs_166 : decode cX11_performs 166 = .ok (.aload_n 0, 1) := by decide +kernel
theorem dX11_performs_167 : decode cX11_performs 167 = .ok (.getfield 369, 3) := by decide +kernel
theorem dX11_performs_170 : decode cX11_performs 170 = .ok (.sipush 1000, 3) := by decide +kernel
theorem dX11_performs_173 : decode cX11_performs 173 = .ok (.if_icmp .ne 7, 3) := by decide +kernel
theorem dX11_performs_176 : decode cX11_performs 176 = .ok (.iconst 1, 1) := by decide +kernel
theorem dX11_performs_177 : decode cX11_performs 177 = .ok (.goto 4, 3) := by decide +kernel
theorem dX11_performs_180 : decode cX11_performs 180 = .ok (.iconst 0, 1) := by decide +kernel
theorem dX11_performs_181 : decode cX11_performs 181 = .ok (.putfield 366, 3) := by decide +kernel
theorem dX11_performs_184 : decode cX11_performs 184 = .ok (.aload_n 0, 1) := by decide +kernel
theorem dX11_performs_185 : decode cX11_performs 185 = .ok (.getfield 366, 3) := by decide +kernel
theorem dX11_performs_188 : decode cX11_performs 188 = .ok (.ifCond .eq 6, 3) := by decide +kernel
theorem dX11_performs_191 : decode cX11_performs 191 = .ok (.goto (-133), 3) := by decide +kernel
theorem dX11_performs_194 : decode cX11_performs 194 = .ok (.aload_n 0, 1) := by decide +kernel
theorem dX11_performs_195 : decode cX11_performs 195 = .ok (.dup, 1) := by decide +kernel
theorem dX11_performs_196 : decode cX11_performs 196 = .ok (.getfield 369, 3) := by decide +kernel
theorem dX11_performs_199 : decode cX11_performs 199 = .ok (.iconst 1, 1) := by decide +kernel
theorem dX11_performs_200 : decode cX11_performs 200 = .ok (.iadd, 1) := by decide +kernel
theorem dX11_performs_201 : decode cX11_performs 201 = .ok (.putfield 369, 3) := by decide +kernel
theorem dX11_performs_204 : decode cX11_performs 204 = .ok (.iload_n 3, 1) := by decide +kernel
theorem dX11_performs_205 : decode cX11_performs 205 = .ok (.bipush 6, 2) := by decide +kernel
theorem dX11_performs_207 : decode cX11_performs 207 = .ok (.if_icmp .ne 21, 3) := by decide +kernel
theorem dX11_performs_210 : decode cX11_performs 210 = .ok (.aload_n 0, 1) := by decide +kernel
theorem dX11_performs_211 : decode cX11_performs 211 = .ok (.aload_n 0, 1) := by decide +kernel
theorem dX11_performs_212 : decode cX11_performs 212 = .ok (.getfield 77, 3) := by decide +kernel
theorem dX11_performs_215 : decode cX11_performs 215 = .ok (.iload_n 2, 1) := by decide +kernel
theorem dX11_performs_216 : decode cX11_performs 216 = .ok (.iconst 1, 1) := by decide +kernel
theorem dX11_performs_217 : decode cX11_performs 217 = .ok (.iadd, 1) := by decide +kernel
theorem dX11_performs_218 : decode cX11_performs 218 = .ok (.iaload, 1) := by decide +kernel
theorem dX11_performs_219 : decode cX11_performs 219 = .ok (.invokevirtual 372, 3) := by decide +kernel
theorem dX11_performs_222 : decode cX11_performs 222 = .ok (.iinc 2 2, 3) := by decide +kernel
theorem dX11_performs_225 : decode cX11_performs 225 = .ok (.goto 290, 3) := by decide +kernel
theorem dX11_performs_228 : decode cX11_performs 228 = .ok (.iload_n 3, 1) := by decide +kernel
theorem dX11_performs_229 : decode cX11_performs 229 = .ok (.bipush 7, 2) := by decide +kernel
theorem dX11_performs_231 : decode cX11_performs 231 = .ok (.if_icmp .ne 45, 3) := by decide +kernel
theorem dX11_performs_234 : decode cX11_performs 234 = .ok (.aload_n 0, 1) := by decide +kernel
theorem dX11_performs_235 : decode cX11_performs 235 = .ok (.dup, 1) := by decide +kernel
theorem dX11_performs_236 : decode cX11_performs 236 = .ok (.getfield 356, 3) := by decide +kernel
theorem dX11_performs_239 : decode cX11_performs 239 = .ok (.aload_n 0, 1) := by decide +kernel
theorem dX11_performs_240 : decode cX11_performs 240 = .ok (.getfield 77, 3) := by decide +kernel
theorem dX11_performs_243 : decode cX11_performs 243 = .ok (.iload_n 2, 1) := by decide +kernel
theorem dX11_performs_244 : decode cX11_performs 244 = .ok (.iconst 1, 1) := by decide +kernel
theorem dX11_performs_245 : decode cX11_performs 245 = .ok (.iadd, 1) := by decide +kernel
theorem dX11_performs_246 : decode cX11_performs 246 = .ok (.iaload, 1) := by decide +kernel
theorem dX11_performs_247 : decode cX11_performs 247 = .ok (.iadd, 1) := by decide +kernel
theorem dX11_performs_248 : decode cX11_performs 248 = .ok (.putfield 356, 3) := by decide +kernel
theorem dX11_performs_251 : decode cX11_performs 251 = .ok (.aload_n 0, 1) := by decide +kernel
theorem dX11_performs_252 : decode cX11_performs 252 = .ok (.aload_n 0, 1) := by decide +kernel
theorem dX11_performs_253 : decode cX11_performs 253 = .ok (.getfield 356, 3) := by decide +kernel
theorem dX11_performs_256 : decode cX11_performs 256 = .ok (.sipush 10000, 3) := by decide +kernel
theorem dX11_performs_259 : decode cX11_performs 259 = .ok (.if_icmp .lt 7, 3) := by decide +kernel
theorem dX11_performs_262 : decode cX11_performs 262 = .ok (.iconst 1, 1) := by decide +kernel
theorem dX11_performs_263 : decode cX11_performs 263 = .ok (.goto 4, 3) := by decide +kernel
theorem dX11_performs_266 : decode cX11_performs 266 = .ok (.iconst 0, 1) := by decide +kernel
theorem dX11_performs_267 : decode cX11_performs 267 = .ok (.putfield 366, 3) := by decide +kernel
theorem dX11_performs_270 : decode cX11_performs 270 = .ok (.iinc 2 2, 3) := by decide +kernel
theorem dX11_performs_273 : decode cX11_performs 273 = .ok (.goto 242, 3) := by decide +kernel
theorem dX11_performs_276 : decode cX11_performs 276 = .ok (.iload_n 3, 1) := by decide +kernel
theorem dX11_performs_277 : decode cX11_performs 277 = .ok (.bipush 8, 2) := by decide +kernel
theorem dX11_performs_279 : decode cX11_performs 279 = .ok (.if_icmp .eq 9, 3) := by decide +kernel
theorem dX11_performs_282 : decode cX11_performs 282 = .ok (.iload_n 3, 1) := by decide +kernel
theorem dX11_performs_283 : decode cX11_performs 283 = .ok (.bipush 9, 2) := by decide +kernel
theorem dX11_performs_285 : decode cX11_performs 285 = .ok (.if_icmp .ne 78, 3) := by decide +kernel
theorem dX11_performs_288 : decode cX11_performs 288 = .ok (.iload_n 3, 1) := by decide +kernel
theorem dX11_performs_289 : decode cX11_performs 289 = .ok (.bipush 8, 2) := by decide +kernel
theorem dX11_performs_291 : decode cX11_performs 291 = .ok (.if_icmp .ne 14, 3) := by decide +kernel
theorem dX11_performs_294 : decode cX11_performs 294 = .ok (.aload_n 0, 1) := by decide +kernel
theorem dX11_performs_295 : decode cX11_performs 295 = .ok (.getfield 77, 3) := by decide +kernel
theorem dX11_performs_298 : decode cX11_performs 298 = .ok (.iload_n 2, 1) := by decide +kernel
theorem dX11_performs_299 : decode cX11_performs 299 = .ok (.iconst 1, 1) := by decide +kernel
theorem dX11_performs_300 : decode cX11_performs 300 = .ok (.iadd, 1) := by decide +kernel
theorem dX11_performs_301 : decode cX11_performs 301 = .ok (.iaload, 1) := by decide +kernel
theorem dX11_performs_302 : decode cX11_performs 302 = .ok (.goto 14, 3) := by decide +kernel
theorem dX11_performs_305 : decode cX11_performs 305 = .ok (.bipush 8, 2) := by decide +kernel
theorem dX11_performs_307 : decode cX11_performs 307 = .ok (.aload_n 0, 1) := by decide +kernel
theorem dX11_performs_308 : decode cX11_performs 308 = .ok (.getfield 77, 3) := by decide +kernel
theorem dX11_performs_311 : decode cX11_performs 311 = .ok (.iload_n 2, 1) := by decide +kernel
theorem dX11_performs_312 : decode cX11_performs 312 = .ok (.iconst 1, 1) := by decide +kernel
theorem dX11_performs_313 : decode cX11_performs 313 = .ok (.iadd, 1) := by decide +kernel
theorem dX11_performs_314 : decode cX11_performs 314 = .ok (.iaload, 1) := by decide +kernel
theorem dX11_performs_315 : decode cX11_performs 315 = .ok (.iadd, 1) := by decide +kernel
theorem dX11_performs_316 : decode cX11_performs 316 = .ok (.istore 4, 2) := by decide +kernel
theorem dX11_performs_318 : decode cX11_performs 318 = .ok (.aload_n 0, 1) := by decide +kernel
theorem dX11_performs_319 : decode cX11_performs 319 = .ok (.getfield 95, 3) := by decide +kernel
theorem dX11_performs_322 : decode cX11_performs 322 = .ok (.iload 4, 2) := by decide +kernel
theorem dX11_performs_324 : decode cX11_performs 324 = .ok (.aload_n 0, 1) := by decide +kernel
theorem dX11_performs_325 : decode cX11_performs 325 = .ok (.getfield 95, 3) := by decide +kernel
theorem dX11_performs_328 : decode cX11_performs 328 = .ok (.iload 4, 2) := by decide +kernel
theorem dX11_performs_330 : decode cX11_performs 330 = .ok (.iaload, 1) := by decide +kernel
theorem dX11_performs_331 : decode cX11_performs 331 = .ok (.aload_n 0, 1) := by decide +kernel
theorem dX11_performs_332 : decode cX11_performs 332 = .ok (.getfield 77, 3) := by decide +kernel
theorem dX11_performs_335 : decode cX11_performs 335 = .ok (.iload_n 2, 1) := by decide +kernel
theorem dX11_performs_336 : decode cX11_performs 336 = .ok (.iconst 2, 1) := by decide +kernel
theorem dX11_performs_337 : decode cX11_performs 337 = .ok (.iadd, 1) := by decide +kernel
theorem dX11_performs_338 : decode cX11_performs 338 = .ok (.iaload, 1) := by decide +kernel
theorem dX11_performs_339 : decode cX11_performs 339 = .ok (.iadd, 1) := by decide +kernel
theorem dX11_performs_340 : decode cX11_performs 340 = .ok (.iload_n 3, 1) := by decide +kernel
theorem dX11_performs_341 : decode cX11_performs 341 = .ok (.bipush 8, 2) := by decide +kernel
theorem dX11_performs_343 : decode cX11_performs 343 = .ok (.if_icmp .ne 8, 3) := by decide +kernel
theorem dX11_performs_346 : decode cX11_performs 346 = .ok (.bipush 9, 2) := by decide +kernel
theorem dX11_performs_348 : decode cX11_performs 348 = .ok (.goto 5, 3) := by decide +kernel
theorem dX11_performs_351 : decode cX11_performs 351 = .ok (.bipush 90, 2) := by decide +kernel
theorem dX11_performs_353 : decode cX11_performs 353 = .ok (.invokestatic 375, 3) := by decide +kernel
theorem dX11_performs_356 : decode cX11_performs 356 = .ok (.iastore, 1) := by decide +kernel
theorem dX11_performs_357 : decode cX11_performs 357 = .ok (.iinc 2 3, 3) := by decide +kernel
theorem dX11_performs_360 : decode cX11_performs 360 = .ok (.goto 155, 3) := by decide +kernel
theorem dX11_performs_363 : decode cX11_performs 363 = .ok (.iload_n 3, 1) := by decide +kernel
theorem dX11_performs_364 : decode cX11_performs 364 = .ok (.bipush 10, 2) := by decide +kernel
theorem dX11_performs_366 : decode cX11_performs 366 = .ok (.if_icmp .ne 25, 3) := by decide +kernel
theorem dX11_performs_369 : decode cX11_performs 369 = .ok (.aload_n 0, 1) := by decide +kernel
theorem dX11_performs_370 : decode cX11_performs 370 = .ok (.aload_n 0, 1) := by decide +kernel
theorem dX11_performs_371 : decode cX11_performs 371 = .ok (.getfield 353, 3) := by decide +kernel
theorem dX11_performs_374 : decode cX11_performs 374 = .ok (.ifCond .ne 7, 3) := by decide +kernel
theorem dX11_performs_377 : decode cX11_performs 377 = .ok (.iconst 1, 1) := by decide +kernel
theorem dX11_performs_378 : decode cX11_performs 378 = .ok (.goto 4, 3) := by decide +kernel
theorem dX11_performs_381 : decode cX11_performs 381 = .ok (.iconst 0, 1) := by decide +kernel
theorem dX11_performs_382 : decode cX11_performs 382 = .ok (.putfield 353, 3) := by decide +kernel
theorem dX11_performs_385 : decode cX11_performs 385 = .ok (.iinc 2 1, 3) := by decide +kernel
theorem dX11_performs_388 : decode cX11_performs 388 = .ok (.goto 127, 3) := by decide +kernel
theorem dX11_performs_391 : decode cX11_performs 391 = .ok (.iload_n 3, 1) := by decide +kernel
theorem dX11_performs_392 : decode cX11_performs 392 = .ok (.bipush 11, 2) := by decide +kernel
theorem dX11_performs_394 : decode cX11_performs 394 = .ok (.if_icmp .ne 66, 3) := by decide +kernel
theorem dX11_performs_397 : decode cX11_performs 397 = .ok (.aload_n 0, 1) := by decide +kernel
theorem dX11_performs_398 : decode cX11_performs 398 = .ok (.getfield 77, 3) := by decide +kernel
theorem dX11_performs_401 : decode cX11_performs 401 = .ok (.iload_n 2, 1) := by decide +kernel
theorem dX11_performs_402 : decode cX11_performs 402 = .ok (.iconst 1, 1) := by decide +kernel
theorem dX11_performs_403 : decode cX11_performs 403 = .ok (.iadd, 1) := by decide +kernel
theorem dX11_performs_404 : decode cX11_performs 404 = .ok (.iaload, 1) := by decide +kernel
theorem dX11_performs_405 : decode cX11_performs 405 = .ok (.ifCond .le 7, 3) := by decide +kernel
theorem dX11_performs_408 : decode cX11_performs 408 = .ok (.iconst 1, 1) := by decide +kernel
theorem dX11_performs_409 : decode cX11_performs 409 = .ok (.goto 4, 3) := by decide +kernel
theorem dX11_performs_412 : decode cX11_performs 412 = .ok (.iconst 0, 1) := by decide +kernel
theorem dX11_performs_413 : decode cX11_performs 413 = .ok (.istore 4, 2) := by decide +kernel
theorem dX11_performs_415 : decode cX11_performs 415 = .ok (.iload 4, 2) := by decide +kernel
theorem dX11_performs_417 : decode cX11_performs 417 = .ok (.ifCond .eq 20, 3) := by decide +kernel
theorem dX11_performs_420 : decode cX11_performs 420 = .ok (.aload_n 0, 1) := by decide +kernel
theorem dX11_performs_421 : decode cX11_performs 421 = .ok (.getfield 89, 3) := by decide +kernel
theorem dX11_performs_424 : decode cX11_performs 424 = .ok (.iload_n 1, 1) := by decide +kernel
theorem dX11_performs_425 : decode cX11_performs 425 = .ok (.aload_n 0, 1) := by decide +kernel
theorem dX11_performs_426 : decode cX11_performs 426 = .ok (.getfield 77, 3) := by decide +kernel
theorem dX11_performs_429 : decode cX11_performs 429 = .ok (.iload_n 2, 1) := by decide +kernel
theorem dX11_performs_430 : decode cX11_performs 430 = .ok (.iconst 1, 1) := by decide +kernel
theorem dX11_performs_431 : decode cX11_performs 431 = .ok (.iadd, 1) := by decide +kernel
theorem dX11_performs_432 : decode cX11_performs 432 = .ok (.iaload, 1) := by decide +kernel
theorem dX11_performs_433 : decode cX11_performs 433 = .ok (.iastore, 1) := by decide +kernel
theorem dX11_performs_434 : decode cX11_performs 434 = .ok (.iinc 1 1, 3) := by decide +kernel
theorem dX11_performs_437 : decode cX11_performs 437 = .ok (.iload 4, 2) := by decide +kernel
theorem dX11_performs_439 : decode cX11_performs 439 = .ok (.ifCond .eq 9, 3) := by decide +kernel
theorem dX11_performs_442 : decode cX11_performs 442 = .ok (.iload_n 2, 1) := by decide +kernel
theorem dX11_performs_443 : decode cX11_performs 443 = .ok (.iconst 3, 1) := by decide +kernel
theorem dX11_performs_444 : decode cX11_performs 444 = .ok (.iadd, 1) := by decide +kernel
theorem dX11_performs_445 : decode cX11_performs 445 = .ok (.goto 11, 3) := by decide +kernel
theorem dX11_performs_448 : decode cX11_performs 448 = .ok (.aload_n 0, 1) := by decide +kernel
theorem dX11_performs_449 : decode cX11_performs 449 = .ok (.getfield 77, 3) := by decide +kernel
theorem dX11_performs_452 : decode cX11_performs 452 = .ok (.iload_n 2, 1) := by decide +kernel
theorem dX11_performs_453 : decode cX11_performs 453 = .ok (.iconst 2, 1) := by decide +kernel
theorem dX11_performs_454 : decode cX11_performs 454 = .ok (.iadd, 1) := by decide +kernel
theorem dX11_performs_455 : decode cX11_performs 455 = .ok (.iaload, 1) := by decide +kernel
theorem dX11_performs_456 : decode cX11_performs 456 = .ok (.istore_n 2, 1) := by decide +kernel
theorem dX11_performs_457 : decode cX11_performs 457 = .ok (.goto 58, 3) := by decide +kernel
theorem dX11_performs_460 : decode cX11_performs 460 = .ok (.aload_n 0, 1) := by decide +kernel
theorem dX11_performs_461 : decode cX11_performs 461 = .ok (.aload_n 0, 1) := by decide +kernel
theorem dX11_performs_462 : decode cX11_performs 462 = .ok (.getfield 77, 3) := by decide +kernel
theorem dX11_performs_465 : decode cX11_performs 465 = .ok (.iload_n 2, 1) := by decide +kernel
theorem dX11_performs_466 : decode cX11_performs 466 = .ok (.iconst 2, 1) := by decide +kernel
theorem dX11_performs_467 : decode cX11_performs 467 = .ok (.iadd, 1) := by decide +kernel
theorem dX11_performs_468 : decode cX11_performs 468 = .ok (.iaload, 1) := by decide +kernel
theorem dX11_performs_469 : decode cX11_performs 469 = .ok (.aload_n 0, 1) := by decide +kernel
theorem dX11_performs_470 : decode cX11_performs 470 = .ok (.getfield 77, 3) := by decide +kernel
theorem dX11_performs_473 : decode cX11_performs 473 = .ok (.iload_n 2, 1) := by decide +kernel
theorem dX11_performs_474 : decode cX11_performs 474 = .ok (.iconst 3, 1) := by decide +kernel
theorem dX11_performs_475 : decode cX11_performs 475 = .ok (.iadd, 1) := by decide +kernel
theorem dX11_performs_476 : decode cX11_performs 476 = .ok (.iaload, 1) := by decide +kernel
theorem dX11_performs_477 : decode cX11_performs 477 = .ok (.invokevirtual 378, 3) := by decide +kernel
theorem dX11_performs_480 : decode cX11_performs 480 = .ok (.aload_n 0, 1) := by decide +kernel
theorem dX11_performs_481 : decode cX11_performs 481 = .ok (.getfield 77, 3) := by decide +kernel
theorem dX11_performs_484 : decode cX11_performs 484 = .ok (.iload_n 2, 1) := by decide +kernel
theorem dX11_performs_485 : decode cX11_performs 485 = .ok (.iconst 1, 1) := by decide +kernel
theorem dX11_performs_486 : decode cX11_performs 486 = .ok (.iadd, 1) := by decide +kernel
theorem dX11_performs_487 : decode cX11_performs 487 = .ok (.iaload, 1) := by decide +kernel
theorem dX11_performs_488 : decode cX11_performs 488 = .ok (.iconst 1, 1) := by decide +kernel
theorem dX11_performs_489 : decode cX11_performs 489 = .ok (.if_icmp .ne 7, 3) := by decide +kernel
theorem dX11_performs_492 : decode cX11_performs 492 = .ok (.iconst 1, 1) := by decide +kernel
theorem dX11_performs_493 : decode cX11_performs 493 = .ok (.goto 4, 3) := by decide +kernel
theorem dX11_performs_496 : decode cX11_performs 496 = .ok (.iconst 0, 1) := by decide +kernel
theorem dX11_performs_497 : decode cX11_performs 497 = .ok (.if_icmp .eq 9, 3) := by decide +kernel
theorem dX11_performs_500 : decode cX11_performs 500 = .ok (.iload_n 2, 1) := by decide +kernel
theorem dX11_performs_501 : decode cX11_performs 501 = .ok (.iconst 5, 1) := by decide +kernel
theorem dX11_performs_502 : decode cX11_performs 502 = .ok (.iadd, 1) := by decide +kernel
theorem dX11_performs_503 : decode cX11_performs 503 = .ok (.goto 11, 3) := by decide +kernel
theorem dX11_performs_506 : decode cX11_performs 506 = .ok (.aload_n 0, 1) := by decide +kernel
theorem dX11_performs_507 : decode cX11_performs 507 = .ok (.getfield 77, 3) := by decide +kernel
theorem dX11_performs_510 : decode cX11_performs 510 = .ok (.iload_n 2, 1) := by decide +kernel
theorem dX11_performs_511 : decode cX11_performs 511 = .ok (.iconst 4, 1) := by decide +kernel
theorem dX11_performs_512 : decode cX11_performs 512 = .ok (.iadd, 1) := by decide +kernel
theorem dX11_performs_513 : decode cX11_performs 513 = .ok (.iaload, 1) := by decide +kernel
theorem dX11_performs_514 : decode cX11_performs 514 = .ok (.istore_n 2, 1) := by decide +kernel
theorem dX11_performs_515 : decode cX11_performs 515 = .ok (.goto (-457), 3) := by decide +kernel
theorem dX11_performs_518 : decode cX11_performs 518 = .ok (.return_, 1) := by decide +kernel
theorem dX11_performed_0 : decode cX11_performed 0 = .ok (.aload_n 0, 1) := by decide +kernel
theorem dX11_performed_1 : decode cX11_performed 1 = .ok (.iconst 0, 1) := by decide +kernel
theorem dX11_performed_2 : decode cX11_performed 2 = .ok (.putfield 113, 3) := by decide +kernel
theorem dX11_performed_5 : decode cX11_performed 5 = .ok (.aload_n 0, 1) := by decide +kernel
theorem dX11_performed_6 : decode cX11_performed 6 = .ok (.iload_n 1, 1) := by decide +kernel
theorem dX11_performed_7 : decode cX11_performed 7 = .ok (.iconst 0, 1) := by decide +kernel
theorem dX11_performed_8 : decode cX11_performed 8 = .ok (.iconst 3, 1) := by decide +kernel
theorem dX11_performed_9 : decode cX11_performed 9 = .ok (.invokestatic 238, 3) := by decide +kernel
theorem dX11_performed_12 : decode cX11_performed 12 = .ok (.iconst 1, 1) := by decide +kernel
theorem dX11_performed_13 : decode cX11_performed 13 = .ok (.invokevirtual 209, 3) := by decide +kernel
theorem dX11_performed_16 : decode cX11_performed 16 = .ok (.ifCond .ne 5, 3) := by decide +kernel
theorem dX11_performed_19 : decode cX11_performed 19 = .ok (.iconst 0, 1) := by decide +kernel
theorem dX11_performed_20 : decode cX11_performed 20 = .ok (.ireturn, 1) := by decide +kernel
theorem dX11_performed_21 : decode cX11_performed 21 = .ok (.aload_n 0, 1) := by decide +kernel
theorem dX11_performed_22 : decode cX11_performed 22 = .ok (.invokevirtual 381, 3) := by decide +kernel
theorem dX11_performed_25 : decode cX11_performed 25 = .ok (.aload_n 0, 1) := by decide +kernel
theorem dX11_performed_26 : decode cX11_performed 26 = .ok (.getfield 366, 3) := by decide +kernel
theorem dX11_performed_29 : decode cX11_performed 29 = .ok (.ifCond .eq 6, 3) := by decide +kernel
theorem dX11_performed_32 : decode cX11_performed 32 = .ok (.bipush (-2), 2) := by decide +kernel
theorem dX11_performed_34 : decode cX11_performed 34 = .ok (.ireturn, 1) := by decide +kernel
theorem dX11_performed_35 : decode cX11_performed 35 = .ok (.iconst 0, 1) := by decide +kernel
theorem dX11_performed_36 : decode cX11_performed 36 = .ok (.istore_n 2, 1) := by decide +kernel
theorem dX11_performed_37 : decode cX11_performed 37 = .ok (.iconst 0, 1) := by decide +kernel
theorem dX11_performed_38 : decode cX11_performed 38 = .ok (.istore_n 3, 1) := by decide +kernel
theorem dX11_performed_39 : decode cX11_performed 39 = .ok (.iload_n 3, 1) := by decide +kernel
theorem dX11_performed_40 : decode cX11_performed 40 = .ok (.sipush 729, 3) := by decide +kernel
theorem dX11_performed_43 : decode cX11_performed 43 = .ok (.if_icmp .ge 26, 3) := by decide +kernel
theorem dX11_performed_46 : decode cX11_performed 46 = .ok (.iload_n 2, 1) := by decide +kernel
theorem dX11_performed_47 : decode cX11_performed 47 = .ok (.aload_n 0, 1) := by decide +kernel
theorem dX11_performed_48 : decode cX11_performed 48 = .ok (.getfield 92, 3) := by decide +kernel
theorem dX11_performed_51 : decode cX11_performed 51 = .ok (.iload_n 3, 1) := by decide +kernel
theorem dX11_performed_52 : decode cX11_performed 52 = .ok (.iaload, 1) := by decide +kernel
theorem dX11_performed_53 : decode cX11_performed 53 = .ok (.ifCond .le 7, 3) := by decide +kernel
theorem dX11_performed_56 : decode cX11_performed 56 = .ok (.iconst 1, 1) := by decide +kernel
theorem dX11_performed_57 : decode cX11_performed 57 = .ok (.goto 4, 3) := by decide +kernel
theorem dX11_performed_60 : decode cX11_performed 60 = .ok (.iconst 0, 1) := by decide +kernel
theorem dX11_performed_61 : decode cX11_performed 61 = .ok (.iadd, 1) := by decide +kernel
theorem dX11_performed_62 : decode cX11_performed 62 = .ok (.istore_n 2, 1) := by decide +kernel
theorem dX11_performed_63 : decode cX11_performed 63 = .ok (.iinc 3 1, 3) := by decide +kernel
theorem dX11_performed_66 : decode cX11_performed 66 = .ok (.goto (-27), 3) := by decide +kernel
theorem dX11_performed_69 : decode cX11_performed 69 = .ok (.iload_n 1, 1) := by decide +kernel
theorem dX11_performed_70 : decode cX11_performed 70 = .ok (.ifCond .ne 10, 3) := by decide +kernel
theorem dX11_performed_73 : decode cX11_performed 73 = .ok (.aload_n 0, 1) := by decide +kernel
theorem dX11_performed_74 : decode cX11_performed 74 = .ok (.getfield 369, 3) := by decide +kernel
theorem dX11_performed_77 : decode cX11_performed 77 = .ok (.goto 28, 3) := by decide +kernel
theorem dX11_performed_80 : decode cX11_performed 80 = .ok (.iload_n 1, 1) := by decide +kernel
theorem dX11_performed_81 : decode cX11_performed 81 = .ok (.iconst 1, 1) := by decide +kernel
theorem dX11_performed_82 : decode cX11_performed 82 = .ok (.if_icmp .ne 7, 3) := by decide +kernel
theorem dX11_performed_85 : decode cX11_performed 85 = .ok (.iload_n 2, 1) := by decide +kernel
theorem dX11_performed_86 : decode cX11_performed 86 = .ok (.goto 19, 3) := by decide +kernel
theorem dX11_performed_89 : decode cX11_performed 89 = .ok (.iload_n 1, 1) := by decide +kernel
theorem dX11_performed_90 : decode cX11_performed 90 = .ok (.iconst 2, 1) := by decide +kernel
theorem dX11_performed_91 : decode cX11_performed 91 = .ok (.if_icmp .ne 10, 3) := by decide +kernel
theorem dX11_performed_94 : decode cX11_performed 94 = .ok (.aload_n 0, 1) := by decide +kernel
theorem dX11_performed_95 : decode cX11_performed 95 = .ok (.getfield 356, 3) := by decide +kernel
theorem dX11_performed_98 : decode cX11_performed 98 = .ok (.goto 7, 3) := by decide +kernel
theorem dX11_performed_101 : decode cX11_performed 101 = .ok (.aload_n 0, 1) := by decide +kernel
theorem dX11_performed_102 : decode cX11_performed 102 = .ok (.invokevirtual 362, 3) := by decide +kernel
theorem dX11_performed_105 : decode cX11_performed 105 = .ok (.ireturn, 1) := by decide +kernel
theorem dX11_marks_0 : decode cX11_marks 0 = .ok (.aload_n 0, 1) := by decide +kernel
theorem dX11_marks_1 : decode cX11_marks 1 = .ok (.iconst 0, 1) := by decide +kernel
theorem dX11_marks_2 : decode cX11_marks 2 = .ok (.putfield 113, 3) := by decide +kernel
theorem dX11_marks_5 : decode cX11_marks 5 = .ok (.aload_n 0, 1) := by decide +kernel
theorem dX11_marks_6 : decode cX11_marks 6 = .ok (.iload_n 1, 1) := by decide +kernel
theorem dX11_marks_7 : decode cX11_marks 7 = .ok (.iconst 0, 1) := by decide +kernel
theorem dX11_marks_8 : decode cX11_marks 8 = .ok (.sipush 728, 3) := by decide +kernel
theorem dX11_marks_11 : decode cX11_marks 11 = .ok (.invokestatic 238, 3) := by decide +kernel
theorem dX11_marks_14 : decode cX11_marks 14 = .ok (.iconst 1, 1) := by decide +kernel
theorem dX11_marks_15 : decode cX11_marks 15 = .ok (.invokevirtual 209, 3) := by decide +kernel
theorem dX11_marks_18 : decode cX11_marks 18 = .ok (.ifCond .ne 5, 3) := by decide +kernel
theorem dX11_marks_21 : decode cX11_marks 21 = .ok (.iconst 0, 1) := by decide +kernel
theorem dX11_marks_22 : decode cX11_marks 22 = .ok (.ireturn, 1) := by decide +kernel
theorem dX11_marks_23 : decode cX11_marks 23 = .ok (.aload_n 0, 1) := by decide +kernel
theorem dX11_marks_24 : decode cX11_marks 24 = .ok (.invokevirtual 381, 3) := by decide +kernel
theorem dX11_marks_27 : decode cX11_marks 27 = .ok (.aload_n 0, 1) := by decide +kernel
theorem dX11_marks_28 : decode cX11_marks 28 = .ok (.getfield 366, 3) := by decide +kernel
theorem dX11_marks_31 : decode cX11_marks 31 = .ok (.ifCond .eq 8, 3) := by decide +kernel
theorem dX11_marks_34 : decode cX11_marks 34 = .ok (.bipush (-2), 2) := by decide +kernel
theorem dX11_marks_36 : decode cX11_marks 36 = .ok (.goto 9, 3) := by decide +kernel
theorem dX11_marks_39 : decode cX11_marks 39 = .ok (.aload_n 0, 1) := by decide +kernel
theorem dX11_marks_40 : decode cX11_marks 40 = .ok (.getfield 92, 3) := by decide +kernel
theorem dX11_marks_43 : decode cX11_marks 43 = .ok (.iload_n 1, 1) := by decide +kernel
theorem dX11_marks_44 : decode cX11_marks 44 = .ok (.iaload, 1) := by decide +kernel
theorem dX11_marks_45 : decode cX11_marks 45 = .ok (.ireturn, 1) := by decide +kernel
theorem dX11_image_0 : decode cX11_image 0 = .ok (.aload_n 0, 1) := by decide +kernel
theorem dX11_image_1 : decode cX11_image 1 = .ok (.iconst 0, 1) := by decide +kernel
theorem dX11_image_2 : decode cX11_image 2 = .ok (.putfield 113, 3) := by decide +kernel
theorem dX11_image_5 : decode cX11_image 5 = .ok (.aload_n 0, 1) := by decide +kernel
theorem dX11_image_6 : decode cX11_image 6 = .ok (.iconst 1, 1) := by decide +kernel
theorem dX11_image_7 : decode cX11_image 7 = .ok (.putfield 235, 3) := by decide +kernel
theorem dX11_image_10 : decode cX11_image 10 = .ok (.aload_n 0, 1) := by decide +kernel
theorem dX11_image_11 : decode cX11_image 11 = .ok (.getfield 98, 3) := by decide +kernel
theorem dX11_image_14 : decode cX11_image 14 = .ok (.iconst 0, 1) := by decide +kernel
theorem dX11_image_15 : decode cX11_image 15 = .ok (.aload_n 0, 1) := by decide +kernel
theorem dX11_image_16 : decode cX11_image 16 = .ok (.getfield 226, 3) := by decide +kernel
theorem dX11_image_19 : decode cX11_image 19 = .ok (.iastore, 1) := by decide +kernel
theorem dX11_image_20 : decode cX11_image 20 = .ok (.aload_n 0, 1) := by decide +kernel
theorem dX11_image_21 : decode cX11_image 21 = .ok (.getfield 98, 3) := by decide +kernel
theorem dX11_image_24 : decode cX11_image 24 = .ok (.iconst 1, 1) := by decide +kernel
theorem dX11_image_25 : decode cX11_image 25 = .ok (.aload_n 0, 1) := by decide +kernel
theorem dX11_image_26 : decode cX11_image 26 = .ok (.getfield 229, 3) := by decide +kernel
theorem dX11_image_29 : decode cX11_image 29 = .ok (.iastore, 1) := by decide +kernel
theorem dX11_image_30 : decode cX11_image 30 = .ok (.aload_n 0, 1) := by decide +kernel
theorem dX11_image_31 : decode cX11_image 31 = .ok (.getfield 98, 3) := by decide +kernel
theorem dX11_image_34 : decode cX11_image 34 = .ok (.iconst 2, 1) := by decide +kernel
theorem dX11_image_35 : decode cX11_image 35 = .ok (.aload_n 0, 1) := by decide +kernel
theorem dX11_image_36 : decode cX11_image 36 = .ok (.getfield 232, 3) := by decide +kernel
theorem dX11_image_39 : decode cX11_image 39 = .ok (.iastore, 1) := by decide +kernel
theorem dX11_image_40 : decode cX11_image 40 = .ok (.aload_n 0, 1) := by decide +kernel
theorem dX11_image_41 : decode cX11_image 41 = .ok (.aload_n 0, 1) := by decide +kernel
theorem dX11_image_42 : decode cX11_image 42 = .ok (.getfield 19, 3) := by decide +kernel
theorem dX11_image_45 : decode cX11_image 45 = .ok (.aload_n 0, 1) := by decide +kernel
theorem dX11_image_46 : decode cX11_image 46 = .ok (.getfield 101, 3) := by decide +kernel
theorem dX11_image_49 : decode cX11_image 49 = .ok (.invokevirtual 222, 3) := by decide +kernel
theorem dX11_image_52 : decode cX11_image 52 = .ok (.aload_n 0, 1) := by decide +kernel
theorem dX11_image_53 : decode cX11_image 53 = .ok (.aload_n 0, 1) := by decide +kernel
theorem dX11_image_54 : decode cX11_image 54 = .ok (.getfield 53, 3) := by decide +kernel
theorem dX11_image_57 : decode cX11_image 57 = .ok (.aload_n 0, 1) := by decide +kernel
theorem dX11_image_58 : decode cX11_image 58 = .ok (.getfield 104, 3) := by decide +kernel
theorem dX11_image_61 : decode cX11_image 61 = .ok (.invokevirtual 222, 3) := by decide +kernel
theorem dX11_image_64 : decode cX11_image 64 = .ok (.aload_n 0, 1) := by decide +kernel
theorem dX11_image_65 : decode cX11_image 65 = .ok (.aload_n 0, 1) := by decide +kernel
theorem dX11_image_66 : decode cX11_image 66 = .ok (.getfield 59, 3) := by decide +kernel
theorem dX11_image_69 : decode cX11_image 69 = .ok (.aload_n 0, 1) := by decide +kernel
theorem dX11_image_70 : decode cX11_image 70 = .ok (.getfield 107, 3) := by decide +kernel
theorem dX11_image_73 : decode cX11_image 73 = .ok (.invokevirtual 222, 3) := by decide +kernel
theorem dX11_image_76 : decode cX11_image 76 = .ok (.aload_n 0, 1) := by decide +kernel
theorem dX11_image_77 : decode cX11_image 77 = .ok (.aload_n 0, 1) := by decide +kernel
theorem dX11_image_78 : decode cX11_image 78 = .ok (.getfield 65, 3) := by decide +kernel
theorem dX11_image_81 : decode cX11_image 81 = .ok (.aload_n 0, 1) := by decide +kernel
theorem dX11_image_82 : decode cX11_image 82 = .ok (.getfield 110, 3) := by decide +kernel
theorem dX11_image_85 : decode cX11_image 85 = .ok (.invokevirtual 222, 3) := by decide +kernel
theorem dX11_image_88 : decode cX11_image 88 = .ok (.return_, 1) := by decide +kernel
theorem dX11_restore_0 : decode cX11_restore 0 = .ok (.aload_n 0, 1) := by decide +kernel
theorem dX11_restore_1 : decode cX11_restore 1 = .ok (.iconst 0, 1) := by decide +kernel
theorem dX11_restore_2 : decode cX11_restore 2 = .ok (.putfield 113, 3) := by decide +kernel
theorem dX11_restore_5 : decode cX11_restore 5 = .ok (.aload_n 0, 1) := by decide +kernel
theorem dX11_restore_6 : decode cX11_restore 6 = .ok (.getfield 235, 3) := by decide +kernel
theorem dX11_restore_9 : decode cX11_restore 9 = .ok (.ifCond .ne 5, 3) := by decide +kernel
theorem dX11_restore_12 : decode cX11_restore 12 = .ok (.iconst 0, 1) := by decide +kernel
theorem dX11_restore_13 : decode cX11_restore 13 = .ok (.ireturn, 1) := by decide +kernel
theorem dX11_restore_14 : decode cX11_restore 14 = .ok (.aload_n 0, 1) := by decide +kernel
theorem dX11_restore_15 : decode cX11_restore 15 = .ok (.aload_n 0, 1) := by decide +kernel
theorem dX11_restore_16 : decode cX11_restore 16 = .ok (.getfield 98, 3) := by decide +kernel
theorem dX11_restore_19 : decode cX11_restore 19 = .ok (.iconst 0, 1) := by decide +kernel
theorem dX11_restore_20 : decode cX11_restore 20 = .ok (.iaload, 1) := by decide +kernel
theorem dX11_restore_21 : decode cX11_restore 21 = .ok (.putfield 226, 3) := by decide +kernel
theorem dX11_restore_24 : decode cX11_restore 24 = .ok (.aload_n 0, 1) := by decide +kernel
theorem dX11_restore_25 : decode cX11_restore 25 = .ok (.aload_n 0, 1) := by decide +kernel
theorem dX11_restore_26 : decode cX11_restore 26 = .ok (.getfield 98, 3) := by decide +kernel
theorem dX11_restore_29 : decode cX11_restore 29 = .ok (.iconst 1, 1) := by decide +kernel
theorem dX11_restore_30 : decode cX11_restore 30 = .ok (.iaload, 1) := by decide +kernel
theorem dX11_restore_31 : decode cX11_restore 31 = .ok (.putfield 229, 3) := by decide +kernel
theorem dX11_restore_34 : decode cX11_restore 34 = .ok (.aload_n 0, 1) := by decide +kernel
theorem dX11_restore_35 : decode cX11_restore 35 = .ok (.aload_n 0, 1) := by decide +kernel
theorem dX11_restore_36 : decode cX11_restore 36 = .ok (.getfield 98, 3) := by decide +kernel
theorem dX11_restore_39 : decode cX11_restore 39 = .ok (.iconst 2, 1) := by decide +kernel
theorem dX11_restore_40 : decode cX11_restore 40 = .ok (.iaload, 1) := by decide +kernel
theorem dX11_restore_41 : decode cX11_restore 41 = .ok (.putfield 232, 3) := by decide +kernel
theorem dX11_restore_44 : decode cX11_restore 44 = .ok (.aload_n 0, 1) := by decide +kernel
theorem dX11_restore_45 : decode cX11_restore 45 = .ok (.aload_n 0, 1) := by decide +kernel
theorem dX11_restore_46 : decode cX11_restore 46 = .ok (.getfield 101, 3) := by decide +kernel
theorem dX11_restore_49 : decode cX11_restore 49 = .ok (.aload_n 0, 1) := by decide +kernel
theorem dX11_restore_50 : decode cX11_restore 50 = .ok (.getfield 19, 3) := by decide +kernel
theorem dX11_restore_53 : decode cX11_restore 53 = .ok (.invokevirtual 222, 3) := by decide +kernel
theorem dX11_restore_56 : decode cX11_restore 56 = .ok (.aload_n 0, 1) := by decide +kernel
theorem dX11_restore_57 : decode cX11_restore 57 = .ok (.aload_n 0, 1) := by decide +kernel
theorem dX11_restore_58 : decode cX11_restore 58 = .ok (.getfield 104, 3) := by decide +kernel
theorem dX11_restore_61 : decode cX11_restore 61 = .ok (.aload_n 0, 1) := by decide +kernel
theorem dX11_restore_62 : decode cX11_restore 62 = .ok (.getfield 53, 3) := by decide +kernel
theorem dX11_restore_65 : decode cX11_restore 65 = .ok (.invokevirtual 222, 3) := by decide +kernel
theorem dX11_restore_68 : decode cX11_restore 68 = .ok (.aload_n 0, 1) := by decide +kernel
theorem dX11_restore_69 : decode cX11_restore 69 = .ok (.aload_n 0, 1) := by decide +kernel
theorem dX11_restore_70 : decode cX11_restore 70 = .ok (.getfield 107, 3) := by decide +kernel
theorem dX11_restore_73 : decode cX11_restore 73 = .ok (.aload_n 0, 1) := by decide +kernel
theorem dX11_restore_74 : decode cX11_restore 74 = .ok (.getfield 59, 3) := by decide +kernel
theorem dX11_restore_77 : decode cX11_restore 77 = .ok (.invokevirtual 222, 3) := by decide +kernel
theorem dX11_restore_80 : decode cX11_restore 80 = .ok (.aload_n 0, 1) := by decide +kernel
theorem dX11_restore_81 : decode cX11_restore 81 = .ok (.aload_n 0, 1) := by decide +kernel
theorem dX11_restore_82 : decode cX11_restore 82 = .ok (.getfield 110, 3) := by decide +kernel
theorem dX11_restore_85 : decode cX11_restore 85 = .ok (.aload_n 0, 1) := by decide +kernel
theorem dX11_restore_86 : decode cX11_restore 86 = .ok (.getfield 65, 3) := by decide +kernel
theorem dX11_restore_89 : decode cX11_restore 89 = .ok (.invokevirtual 222, 3) := by decide +kernel
theorem dX11_restore_92 : decode cX11_restore 92 = .ok (.iconst 1, 1) := by decide +kernel
theorem dX11_restore_93 : decode cX11_restore 93 = .ok (.ireturn, 1) := by decide +kernel
