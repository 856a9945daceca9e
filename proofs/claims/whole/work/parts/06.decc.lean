theorem dX10_init_0 : decode cX10_init 0 = .ok (.aload_n 0, 1) := by decide +kernel
theorem dX10_init_1 : decode cX10_init 1 = .ok (.invokespecial 3, 3) := by decide +kernel
theorem dX10_init_4 : decode cX10_init 4 = .ok (.aload_n 0, 1) := by decide +kernel
theorem dX10_init_5 : decode cX10_init 5 = .ok (.new 9, 3) := by decide +kernel
theorem dX10_init_8 : decode cX10_init 8 = .ok (.dup, 1) := by decide +kernel
theorem dX10_init_9 : decode cX10_init 9 = .ok (.invokespecial 11, 3) := by decide +kernel
theorem dX10_init_12 : decode cX10_init 12 = .ok (.putfield 12, 3) := by decide +kernel
theorem dX10_init_15 : decode cX10_init 15 = .ok (.aload_n 0, 1) := by decide +kernel
theorem dX10_init_16 : decode cX10_init 16 = .ok (.new 16, 3) := by decide +kernel
theorem dX10_init_19 : decode cX10_init 19 = .ok (.dup, 1) := by decide +kernel
theorem dX10_init_20 : decode cX10_init 20 = .ok (.invokespecial 18, 3) := by decide +kernel
theorem dX10_init_23 : decode cX10_init 23 = .ok (.putfield 19, 3) := by decide +kernel
theorem dX10_init_26 : decode cX10_init 26 = .ok (.aload_n 0, 1) := by decide +kernel
theorem dX10_init_27 : decode cX10_init 27 = .ok (.new 16, 3) := by decide +kernel
theorem dX10_init_30 : decode cX10_init 30 = .ok (.dup, 1) := by decide +kernel
theorem dX10_init_31 : decode cX10_init 31 = .ok (.invokespecial 18, 3) := by decide +kernel
theorem dX10_init_34 : decode cX10_init 34 = .ok (.putfield 23, 3) := by decide +kernel
theorem dX10_init_37 : decode cX10_init 37 = .ok (.aload_n 0, 1) := by decide +kernel
theorem dX10_init_38 : decode cX10_init 38 = .ok (.new 16, 3) := by decide +kernel
theorem dX10_init_41 : decode cX10_init 41 = .ok (.dup, 1) := by decide +kernel
theorem dX10_init_42 : decode cX10_init 42 = .ok (.invokespecial 18, 3) := by decide +kernel
theorem dX10_init_45 : decode cX10_init 45 = .ok (.putfield 26, 3) := by decide +kernel
theorem dX10_init_48 : decode cX10_init 48 = .ok (.aload_n 0, 1) := by decide +kernel
theorem dX10_init_49 : decode cX10_init 49 = .ok (.new 29, 3) := by decide +kernel
theorem dX10_init_52 : decode cX10_init 52 = .ok (.dup, 1) := by decide +kernel
theorem dX10_init_53 : decode cX10_init 53 = .ok (.invokespecial 31, 3) := by decide +kernel
theorem dX10_init_56 : decode cX10_init 56 = .ok (.putfield 32, 3) := by decide +kernel
theorem dX10_init_59 : decode cX10_init 59 = .ok (.aload_n 0, 1) := by decide +kernel
theorem dX10_init_60 : decode cX10_init 60 = .ok (.new 29, 3) := by decide +kernel
theorem dX10_init_63 : decode cX10_init 63 = .ok (.dup, 1) := by decide +kernel
theorem dX10_init_64 : decode cX10_init 64 = .ok (.invokespecial 31, 3) := by decide +kernel
theorem dX10_init_67 : decode cX10_init 67 = .ok (.putfield 36, 3) := by decide +kernel
theorem dX10_init_70 : decode cX10_init 70 = .ok (.aload_n 0, 1) := by decide +kernel
theorem dX10_init_71 : decode cX10_init 71 = .ok (.iconst 0, 1) := by decide +kernel
theorem dX10_init_72 : decode cX10_init 72 = .ok (.putfield 39, 3) := by decide +kernel
theorem dX10_init_75 : decode cX10_init 75 = .ok (.aload_n 0, 1) := by decide +kernel
theorem dX10_init_76 : decode cX10_init 76 = .ok (.new 43, 3) := by decide +kernel
theorem dX10_init_79 : decode cX10_init 79 = .ok (.dup, 1) := by decide +kernel
theorem dX10_init_80 : decode cX10_init 80 = .ok (.invokespecial 45, 3) := by decide +kernel
theorem dX10_init_83 : decode cX10_init 83 = .ok (.putfield 46, 3) := by decide +kernel
theorem dX10_init_86 : decode cX10_init 86 = .ok (.aload_n 0, 1) := by decide +kernel
theorem dX10_init_87 : decode cX10_init 87 = .ok (.new 43, 3) := by decide +kernel
theorem dX10_init_90 : decode cX10_init 90 = .ok (.dup, 1) := by decide +kernel
theorem dX10_init_91 : decode cX10_init 91 = .ok (.invokespecial 45, 3) := by decide +kernel
theorem dX10_init_94 : decode cX10_init 94 = .ok (.putfield 50, 3) := by decide +kernel
theorem dX10_init_97 : decode cX10_init 97 = .ok (.aload_n 0, 1) := by decide +kernel
theorem dX10_init_98 : decode cX10_init 98 = .ok (.new 53, 3) := by decide +kernel
theorem dX10_init_101 : decode cX10_init 101 = .ok (.dup, 1) := by decide +kernel
theorem dX10_init_102 : decode cX10_init 102 = .ok (.invokespecial 55, 3) := by decide +kernel
theorem dX10_init_105 : decode cX10_init 105 = .ok (.putfield 56, 3) := by decide +kernel
theorem dX10_init_108 : decode cX10_init 108 = .ok (.aload_n 0, 1) := by decide +kernel
theorem dX10_init_109 : decode cX10_init 109 = .ok (.new 60, 3) := by decide +kernel
theorem dX10_init_112 : decode cX10_init 112 = .ok (.dup, 1) := by decide +kernel
theorem dX10_init_113 : decode cX10_init 113 = .ok (.invokespecial 62, 3) := by decide +kernel
theorem dX10_init_116 : decode cX10_init 116 = .ok (.putfield 63, 3) := by decide +kernel
theorem dX10_init_119 : decode cX10_init 119 = .ok (.aload_n 0, 1) := by decide +kernel
theorem dX10_init_120 : decode cX10_init 120 = .ok (.new 67, 3) := by decide +kernel
theorem dX10_init_123 : decode cX10_init 123 = .ok (.dup, 1) := by decide +kernel
theorem dX10_init_124 : decode cX10_init 124 = .ok (.invokespecial 69, 3) := by decide +kernel
theorem dX10_init_127 : decode cX10_init 127 = .ok (.putfield 70, 3) := by decide +kernel
theorem dX10_init_130 : decode cX10_init 130 = .ok (.aload_n 0, 1) := by decide +kernel
theorem dX10_init_131 : decode cX10_init 131 = .ok (.new 74, 3) := by decide +kernel
theorem dX10_init_134 : decode cX10_init 134 = .ok (.dup, 1) := by decide +kernel
theorem dX10_init_135 : decode cX10_init 135 = .ok (.invokespecial 76, 3) := by decide +kernel
theorem dX10_init_138 : decode cX10_init 138 = .ok (.putfield 77, 3) := by decide +kernel
theorem dX10_init_141 : decode cX10_init 141 = .ok (.aload_n 0, 1) := by decide +kernel
theorem dX10_init_142 : decode cX10_init 142 = .ok (.new 81, 3) := by decide +kernel
theorem dX10_init_145 : decode cX10_init 145 = .ok (.dup, 1) := by decide +kernel
theorem dX10_init_146 : decode cX10_init 146 = .ok (.invokespecial 83, 3) := by decide +kernel
theorem dX10_init_149 : decode cX10_init 149 = .ok (.putfield 84, 3) := by decide +kernel
theorem dX10_init_152 : decode cX10_init 152 = .ok (.aload_n 0, 1) := by decide +kernel
theorem dX10_init_153 : decode cX10_init 153 = .ok (.sipush 729, 3) := by decide +kernel
theorem dX10_init_156 : decode cX10_init 156 = .ok (.newarray .int, 2) := by decide +kernel
theorem dX10_init_158 : decode cX10_init 158 = .ok (.putfield 88, 3) := by decide +kernel
theorem dX10_init_161 : decode cX10_init 161 = .ok (.aload_n 0, 1) := by decide +kernel
theorem dX10_init_162 : decode cX10_init 162 = .ok (.iconst 5, 1) := by decide +kernel
theorem dX10_init_163 : decode cX10_init 163 = .ok (.newarray .int, 2) := by decide +kernel
theorem dX10_init_165 : decode cX10_init 165 = .ok (.putfield 92, 3) := by decide +kernel
theorem dX10_init_168 : decode cX10_init 168 = .ok (.aload_n 0, 1) := by decide +kernel
theorem dX10_init_169 : decode cX10_init 169 = .ok (.iconst 0, 1) := by decide +kernel
theorem dX10_init_170 : decode cX10_init 170 = .ok (.putfield 95, 3) := by decide +kernel
theorem dX10_init_173 : decode cX10_init 173 = .ok (.return_, 1) := by decide +kernel
theorem dX10_feed_0 : decode cX10_feed 0 = .ok (.aload_n 0, 1) := by decide +kernel
theorem dX10_feed_1 : decode cX10_feed 1 = .ok (.getfield 12, 3) := by decide +kernel
theorem dX10_feed_4 : decode cX10_feed 4 = .ok (.invokevirtual 99, 3) := by decide +kernel
theorem dX10_feed_7 : decode cX10_feed 7 = .ok (.ifCond .ne 5, 3) := by decide +kernel
theorem dX10_feed_10 : decode cX10_feed 10 = .ok (.iconst (-1), 1) := by decide +kernel
theorem dX10_feed_11 : decode cX10_feed 11 = .ok (.ireturn, 1) := by decide +kernel
theorem dX10_feed_12 : decode cX10_feed 12 = .ok (.aload_n 0, 1) := by decide +kernel
theorem dX10_feed_13 : decode cX10_feed 13 = .ok (.getfield 12, 3) := by decide +kernel
theorem dX10_feed_16 : decode cX10_feed 16 = .ok (.iload_n 1, 1) := by decide +kernel
theorem dX10_feed_17 : decode cX10_feed 17 = .ok (.invokevirtual 103, 3) := by decide +kernel
theorem dX10_feed_20 : decode cX10_feed 20 = .ok (.aload_n 0, 1) := by decide +kernel
theorem dX10_feed_21 : decode cX10_feed 21 = .ok (.getfield 12, 3) := by decide +kernel
theorem dX10_feed_24 : decode cX10_feed 24 = .ok (.iload_n 2, 1) := by decide +kernel
theorem dX10_feed_25 : decode cX10_feed 25 = .ok (.invokevirtual 103, 3) := by decide +kernel
theorem dX10_feed_28 : decode cX10_feed 28 = .ok (.aload_n 0, 1) := by decide +kernel
theorem dX10_feed_29 : decode cX10_feed 29 = .ok (.getfield 12, 3) := by decide +kernel
theorem dX10_feed_32 : decode cX10_feed 32 = .ok (.iload_n 3, 1) := by decide +kernel
theorem dX10_feed_33 : decode cX10_feed 33 = .ok (.invokevirtual 103, 3) := by decide +kernel
theorem dX10_feed_36 : decode cX10_feed 36 = .ok (.aload_n 0, 1) := by decide +kernel
theorem dX10_feed_37 : decode cX10_feed 37 = .ok (.getfield 12, 3) := by decide +kernel
theorem dX10_feed_40 : decode cX10_feed 40 = .ok (.iload 4, 2) := by decide +kernel
theorem dX10_feed_42 : decode cX10_feed 42 = .ok (.invokevirtual 103, 3) := by decide +kernel
theorem dX10_feed_45 : decode cX10_feed 45 = .ok (.aload_n 0, 1) := by decide +kernel
theorem dX10_feed_46 : decode cX10_feed 46 = .ok (.getfield 12, 3) := by decide +kernel
theorem dX10_feed_49 : decode cX10_feed 49 = .ok (.iload 5, 2) := by decide +kernel
theorem dX10_feed_51 : decode cX10_feed 51 = .ok (.invokevirtual 103, 3) := by decide +kernel
theorem dX10_feed_54 : decode cX10_feed 54 = .ok (.aload_n 0, 1) := by decide +kernel
theorem dX10_feed_55 : decode cX10_feed 55 = .ok (.getfield 12, 3) := by decide +kernel
theorem dX10_feed_58 : decode cX10_feed 58 = .ok (.getfield 107, 3) := by decide +kernel
theorem dX10_feed_61 : decode cX10_feed 61 = .ok (.ireturn, 1) := by decide +kernel
theorem dX10_swings_0 : decode cX10_swings 0 = .ok (.aload_n 0, 1) := by decide +kernel
theorem dX10_swings_1 : decode cX10_swings 1 = .ok (.iload_n 1, 1) := by decide +kernel
theorem dX10_swings_2 : decode cX10_swings 2 = .ok (.invokevirtual 110, 3) := by decide +kernel
theorem dX10_swings_5 : decode cX10_swings 5 = .ok (.aload_n 0, 1) := by decide +kernel
theorem dX10_swings_6 : decode cX10_swings 6 = .ok (.getfield 12, 3) := by decide +kernel
theorem dX10_swings_9 : decode cX10_swings 9 = .ok (.iload_n 1, 1) := by decide +kernel
theorem dX10_swings_10 : decode cX10_swings 10 = .ok (.invokevirtual 113, 3) := by decide +kernel
theorem dX10_swings_13 : decode cX10_swings 13 = .ok (.aload_n 0, 1) := by decide +kernel
theorem dX10_swings_14 : decode cX10_swings 14 = .ok (.getfield 12, 3) := by decide +kernel
theorem dX10_swings_17 : decode cX10_swings 17 = .ok (.aload_n 0, 1) := by decide +kernel
theorem dX10_swings_18 : decode cX10_swings 18 = .ok (.getfield 23, 3) := by decide +kernel
theorem dX10_swings_21 : decode cX10_swings 21 = .ok (.invokestatic 116, 3) := by decide +kernel
theorem dX10_swings_24 : decode cX10_swings 24 = .ok (.ifCond .eq 41, 3) := by decide +kernel
theorem dX10_swings_27 : decode cX10_swings 27 = .ok (.aload_n 0, 1) := by decide +kernel
theorem dX10_swings_28 : decode cX10_swings 28 = .ok (.getfield 19, 3) := by decide +kernel
theorem dX10_swings_31 : decode cX10_swings 31 = .ok (.aload_n 0, 1) := by decide +kernel
theorem dX10_swings_32 : decode cX10_swings 32 = .ok (.getfield 23, 3) := by decide +kernel
theorem dX10_swings_35 : decode cX10_swings 35 = .ok (.invokevirtual 122, 3) := by decide +kernel
theorem dX10_swings_38 : decode cX10_swings 38 = .ok (.aload_n 0, 1) := by decide +kernel
theorem dX10_swings_39 : decode cX10_swings 39 = .ok (.getfield 32, 3) := by decide +kernel
theorem dX10_swings_42 : decode cX10_swings 42 = .ok (.invokevirtual 126, 3) := by decide +kernel
theorem dX10_swings_45 : decode cX10_swings 45 = .ok (.aload_n 0, 1) := by decide +kernel
theorem dX10_swings_46 : decode cX10_swings 46 = .ok (.getfield 46, 3) := by decide +kernel
theorem dX10_swings_49 : decode cX10_swings 49 = .ok (.iconst 0, 1) := by decide +kernel
theorem dX10_swings_50 : decode cX10_swings 50 = .ok (.putfield 129, 3) := by decide +kernel
theorem dX10_swings_53 : decode cX10_swings 53 = .ok (.aload_n 0, 1) := by decide +kernel
theorem dX10_swings_54 : decode cX10_swings 54 = .ok (.getfield 77, 3) := by decide +kernel
theorem dX10_swings_57 : decode cX10_swings 57 = .ok (.invokevirtual 132, 3) := by decide +kernel
theorem dX10_swings_60 : decode cX10_swings 60 = .ok (.aload_n 0, 1) := by decide +kernel
theorem dX10_swings_61 : decode cX10_swings 61 = .ok (.iconst 0, 1) := by decide +kernel
theorem dX10_swings_62 : decode cX10_swings 62 = .ok (.putfield 39, 3) := by decide +kernel
theorem dX10_swings_65 : decode cX10_swings 65 = .ok (.aload_n 0, 1) := by decide +kernel
theorem dX10_swings_66 : decode cX10_swings 66 = .ok (.invokevirtual 133, 3) := by decide +kernel
theorem dX10_swings_69 : decode cX10_swings 69 = .ok (.ireturn, 1) := by decide +kernel
theorem dX10_score_0 : decode cX10_score 0 = .ok (.aload_n 0, 1) := by decide +kernel
theorem dX10_score_1 : decode cX10_score 1 = .ok (.iload_n 1, 1) := by decide +kernel
theorem dX10_score_2 : decode cX10_score 2 = .ok (.invokevirtual 110, 3) := by decide +kernel
theorem dX10_score_5 : decode cX10_score 5 = .ok (.aload_n 0, 1) := by decide +kernel
theorem dX10_score_6 : decode cX10_score 6 = .ok (.getfield 12, 3) := by decide +kernel
theorem dX10_score_9 : decode cX10_score 9 = .ok (.iload_n 1, 1) := by decide +kernel
theorem dX10_score_10 : decode cX10_score 10 = .ok (.invokevirtual 113, 3) := by decide +kernel
theorem dX10_score_13 : decode cX10_score 13 = .ok (.aload_n 0, 1) := by decide +kernel
theorem dX10_score_14 : decode cX10_score 14 = .ok (.getfield 50, 3) := by decide +kernel
theorem dX10_score_17 : decode cX10_score 17 = .ok (.aload_n 0, 1) := by decide +kernel
theorem dX10_score_18 : decode cX10_score 18 = .ok (.getfield 12, 3) := by decide +kernel
theorem dX10_score_21 : decode cX10_score 21 = .ok (.invokevirtual 137, 3) := by decide +kernel
theorem dX10_score_24 : decode cX10_score 24 = .ok (.ifCond .eq 21, 3) := by decide +kernel
theorem dX10_score_27 : decode cX10_score 27 = .ok (.aload_n 0, 1) := by decide +kernel
theorem dX10_score_28 : decode cX10_score 28 = .ok (.getfield 46, 3) := by decide +kernel
theorem dX10_score_31 : decode cX10_score 31 = .ok (.astore_n 2, 1) := by decide +kernel
theorem dX10_score_32 : decode cX10_score 32 = .ok (.aload_n 0, 1) := by decide +kernel
theorem dX10_score_33 : decode cX10_score 33 = .ok (.aload_n 0, 1) := by decide +kernel
theorem dX10_score_34 : decode cX10_score 34 = .ok (.getfield 50, 3) := by decide +kernel
theorem dX10_score_37 : decode cX10_score 37 = .ok (.putfield 46, 3) := by decide +kernel
theorem dX10_score_40 : decode cX10_score 40 = .ok (.aload_n 0, 1) := by decide +kernel
theorem dX10_score_41 : decode cX10_score 41 = .ok (.aload_n 2, 1) := by decide +kernel
theorem dX10_score_42 : decode cX10_score 42 = .ok (.putfield 50, 3) := by decide +kernel
theorem dX10_score_45 : decode cX10_score 45 = .ok (.aload_n 0, 1) := by decide +kernel
theorem dX10_score_46 : decode cX10_score 46 = .ok (.invokevirtual 133, 3) := by decide +kernel
theorem dX10_score_49 : decode cX10_score 49 = .ok (.ireturn, 1) := by decide +kernel
theorem dX10_performed_0 : decode cX10_performed 0 = .ok (.iload_n 1, 1) := by decide +kernel
theorem dX10_performed_1 : decode cX10_performed 1 = .ok (.iconst 3, 1) := by decide +kernel
theorem dX10_performed_2 : decode cX10_performed 2 = .ok (.invokestatic 140, 3) := by decide +kernel
theorem dX10_performed_5 : decode cX10_performed 5 = .ok (.aload_n 0, 1) := by decide +kernel
theorem dX10_performed_6 : decode cX10_performed 6 = .ok (.getfield 56, 3) := by decide +kernel
theorem dX10_performed_9 : decode cX10_performed 9 = .ok (.aload_n 0, 1) := by decide +kernel
theorem dX10_performed_10 : decode cX10_performed 10 = .ok (.getfield 46, 3) := by decide +kernel
theorem dX10_performed_13 : decode cX10_performed 13 = .ok (.aload_n 0, 1) := by decide +kernel
theorem dX10_performed_14 : decode cX10_performed 14 = .ok (.getfield 19, 3) := by decide +kernel
theorem dX10_performed_17 : decode cX10_performed 17 = .ok (.aload_n 0, 1) := by decide +kernel
theorem dX10_performed_18 : decode cX10_performed 18 = .ok (.getfield 95, 3) := by decide +kernel
theorem dX10_performed_21 : decode cX10_performed 21 = .ok (.invokevirtual 144, 3) := by decide +kernel
theorem dX10_performed_24 : decode cX10_performed 24 = .ok (.aload_n 0, 1) := by decide +kernel
theorem dX10_performed_25 : decode cX10_performed 25 = .ok (.getfield 56, 3) := by decide +kernel
theorem dX10_performed_28 : decode cX10_performed 28 = .ok (.getfield 148, 3) := by decide +kernel
theorem dX10_performed_31 : decode cX10_performed 31 = .ok (.ifCond .eq 6, 3) := by decide +kernel
theorem dX10_performed_34 : decode cX10_performed 34 = .ok (.bipush (-2), 2) := by decide +kernel
theorem dX10_performed_36 : decode cX10_performed 36 = .ok (.ireturn, 1) := by decide +kernel
theorem dX10_performed_37 : decode cX10_performed 37 = .ok (.iload_n 1, 1) := by decide +kernel
theorem dX10_performed_38 : decode cX10_performed 38 = .ok (.tableswitch 50 0 2 #[26, 34, 42], 26) := by decide +kernel
theorem dX10_performed_64 : decode cX10_performed 64 = .ok (.aload_n 0, 1) := by decide +kernel
theorem dX10_performed_65 : decode cX10_performed 65 = .ok (.getfield 56, 3) := by decide +kernel
theorem dX10_performed_68 : decode cX10_performed 68 = .ok (.getfield 151, 3) := by decide +kernel
theorem dX10_performed_71 : decode cX10_performed 71 = .ok (.ireturn, 1) := by decide +kernel
theorem dX10_performed_72 : decode cX10_performed 72 = .ok (.aload_n 0, 1) := by decide +kernel
theorem dX10_performed_73 : decode cX10_performed 73 = .ok (.getfield 56, 3) := by decide +kernel
theorem dX10_performed_76 : decode cX10_performed 76 = .ok (.getfield 154, 3) := by decide +kernel
theorem dX10_performed_79 : decode cX10_performed 79 = .ok (.ireturn, 1) := by decide +kernel
theorem dX10_performed_80 : decode cX10_performed 80 = .ok (.aload_n 0, 1) := by decide +kernel
theorem dX10_performed_81 : decode cX10_performed 81 = .ok (.getfield 56, 3) := by decide +kernel
theorem dX10_performed_84 : decode cX10_performed 84 = .ok (.getfield 157, 3) := by decide +kernel
theorem dX10_performed_87 : decode cX10_performed 87 = .ok (.ireturn, 1) := by decide +kernel
theorem dX10_performed_88 : decode cX10_performed 88 = .ok (.aload_n 0, 1) := by decide +kernel
theorem dX10_performed_89 : decode cX10_performed 89 = .ok (.getfield 56, 3) := by decide +kernel
theorem dX10_performed_92 : decode cX10_performed 92 = .ok (.invokevirtual 160, 3) := by decide +kernel
theorem dX10_performed_95 : decode cX10_performed 95 = .ok (.ireturn, 1) := by decide +kernel
theorem dX10_marks_0 : decode cX10_marks 0 = .ok (.iload_n 1, 1) := by decide +kernel
theorem dX10_marks_1 : decode cX10_marks 1 = .ok (.invokestatic 163, 3) := by decide +kernel
theorem dX10_marks_4 : decode cX10_marks 4 = .ok (.aload_n 0, 1) := by decide +kernel
theorem dX10_marks_5 : decode cX10_marks 5 = .ok (.getfield 56, 3) := by decide +kernel
theorem dX10_marks_8 : decode cX10_marks 8 = .ok (.aload_n 0, 1) := by decide +kernel
theorem dX10_marks_9 : decode cX10_marks 9 = .ok (.getfield 46, 3) := by decide +kernel
theorem dX10_marks_12 : decode cX10_marks 12 = .ok (.aload_n 0, 1) := by decide +kernel
theorem dX10_marks_13 : decode cX10_marks 13 = .ok (.getfield 19, 3) := by decide +kernel
theorem dX10_marks_16 : decode cX10_marks 16 = .ok (.aload_n 0, 1) := by decide +kernel
theorem dX10_marks_17 : decode cX10_marks 17 = .ok (.getfield 95, 3) := by decide +kernel
theorem dX10_marks_20 : decode cX10_marks 20 = .ok (.invokevirtual 144, 3) := by decide +kernel
theorem dX10_marks_23 : decode cX10_marks 23 = .ok (.aload_n 0, 1) := by decide +kernel
theorem dX10_marks_24 : decode cX10_marks 24 = .ok (.getfield 56, 3) := by decide +kernel
theorem dX10_marks_27 : decode cX10_marks 27 = .ok (.getfield 148, 3) := by decide +kernel
theorem dX10_marks_30 : decode cX10_marks 30 = .ok (.ifCond .eq 8, 3) := by decide +kernel
theorem dX10_marks_33 : decode cX10_marks 33 = .ok (.bipush (-2), 2) := by decide +kernel
theorem dX10_marks_35 : decode cX10_marks 35 = .ok (.goto 12, 3) := by decide +kernel
theorem dX10_marks_38 : decode cX10_marks 38 = .ok (.aload_n 0, 1) := by decide +kernel
theorem dX10_marks_39 : decode cX10_marks 39 = .ok (.getfield 56, 3) := by decide +kernel
theorem dX10_marks_42 : decode cX10_marks 42 = .ok (.getfield 166, 3) := by decide +kernel
theorem dX10_marks_45 : decode cX10_marks 45 = .ok (.iload_n 1, 1) := by decide +kernel
theorem dX10_marks_46 : decode cX10_marks 46 = .ok (.iaload, 1) := by decide +kernel
theorem dX10_marks_47 : decode cX10_marks 47 = .ok (.ireturn, 1) := by decide +kernel
theorem dX10_fault_0 : decode cX10_fault 0 = .ok (.aload_n 0, 1) := by decide +kernel
theorem dX10_fault_1 : decode cX10_fault 1 = .ok (.getfield 12, 3) := by decide +kernel
theorem dX10_fault_4 : decode cX10_fault 4 = .ok (.getfield 169, 3) := by decide +kernel
theorem dX10_fault_7 : decode cX10_fault 7 = .ok (.ireturn, 1) := by decide +kernel
theorem dX10_count_0 : decode cX10_count 0 = .ok (.iload_n 1, 1) := by decide +kernel
theorem dX10_count_1 : decode cX10_count 1 = .ok (.bipush 10, 2) := by decide +kernel
theorem dX10_count_3 : decode cX10_count 3 = .ok (.invokestatic 140, 3) := by decide +kernel
theorem dX10_count_6 : decode cX10_count 6 = .ok (.iload_n 1, 1) := by decide +kernel
theorem dX10_count_7 : decode cX10_count 7 = .ok (.tableswitch 85 0 5 #[37, 45, 53, 61, 69, 77], 37) := by decide +kernel
theorem dX10_count_44 : decode cX10_count 44 = .ok (.aload_n 0, 1) := by decide +kernel
theorem dX10_count_45 : decode cX10_count 45 = .ok (.getfield 19, 3) := by decide +kernel
theorem dX10_count_48 : decode cX10_count 48 = .ok (.getfield 172, 3) := by decide +kernel
theorem dX10_count_51 : decode cX10_count 51 = .ok (.ireturn, 1) := by decide +kernel
theorem dX10_count_52 : decode cX10_count 52 = .ok (.aload_n 0, 1) := by decide +kernel
theorem dX10_count_53 : decode cX10_count 53 = .ok (.getfield 19, 3) := by decide +kernel
theorem dX10_count_56 : decode cX10_count 56 = .ok (.getfield 175, 3) := by decide +kernel
theorem dX10_count_59 : decode cX10_count 59 = .ok (.ireturn, 1) := by decide +kernel
theorem dX10_count_60 : decode cX10_count 60 = .ok (.aload_n 0, 1) := by decide +kernel
theorem dX10_count_61 : decode cX10_count 61 = .ok (.getfield 32, 3) := by decide +kernel
theorem dX10_count_64 : decode cX10_count 64 = .ok (.getfield 178, 3) := by decide +kernel
theorem dX10_count_67 : decode cX10_count 67 = .ok (.ireturn, 1) := by decide +kernel
theorem dX10_count_68 : decode cX10_count 68 = .ok (.aload_n 0, 1) := by decide +kernel
theorem dX10_count_69 : decode cX10_count 69 = .ok (.getfield 32, 3) := by decide +kernel
theorem dX10_count_72 : decode cX10_count 72 = .ok (.getfield 181, 3) := by decide +kernel
theorem dX10_count_75 : decode cX10_count 75 = .ok (.ireturn, 1) := by decide +kernel
theorem dX10_count_76 : decode cX10_count 76 = .ok (.aload_n 0, 1) := by decide +kernel
theorem dX10_count_77 : decode cX10_count 77 = .ok (.getfield 32, 3) := by decide +kernel
theorem dX10_count_80 : decode cX10_count 80 = .ok (.getfield 184, 3) := by decide +kernel
theorem dX10_count_83 : decode cX10_count 83 = .ok (.ireturn, 1) := by decide +kernel
theorem dX10_count_84 : decode cX10_count 84 = .ok (.aload_n 0, 1) := by decide +kernel
theorem dX10_count_85 : decode cX10_count 85 = .ok (.getfield 12, 3) := by decide +kernel
theorem dX10_count_88 : decode cX10_count 88 = .ok (.getfield 107, 3) := by decide +kernel
theorem dX10_count_91 : decode cX10_count 91 = .ok (.ireturn, 1) := by decide +kernel
theorem dX10_count_92 : decode cX10_count 92 = .ok (.aload_n 0, 1) := by decide +kernel
theorem dX10_count_93 : decode cX10_count 93 = .ok (.getfield 92, 3) := by decide +kernel
theorem dX10_count_96 : decode cX10_count 96 = .ok (.iload_n 1, 1) := by decide +kernel
theorem dX10_count_97 : decode cX10_count 97 = .ok (.bipush 6, 2) := by decide +kernel
theorem dX10_count_99 : decode cX10_count 99 = .ok (.isub, 1) := by decide +kernel
theorem dX10_count_100 : decode cX10_count 100 = .ok (.iaload, 1) := by decide +kernel
theorem dX10_count_101 : decode cX10_count 101 = .ok (.ireturn, 1) := by decide +kernel
theorem dX10_pendulum_0 : decode cX10_pendulum 0 = .ok (.iload_n 1, 1) := by decide +kernel
theorem dX10_pendulum_1 : decode cX10_pendulum 1 = .ok (.invokestatic 187, 3) := by decide +kernel
theorem dX10_pendulum_4 : decode cX10_pendulum 4 = .ok (.iload_n 2, 1) := by decide +kernel
theorem dX10_pendulum_5 : decode cX10_pendulum 5 = .ok (.bipush 6, 2) := by decide +kernel
theorem dX10_pendulum_7 : decode cX10_pendulum 7 = .ok (.invokestatic 140, 3) := by decide +kernel
theorem dX10_pendulum_10 : decode cX10_pendulum 10 = .ok (.iload_n 2, 1) := by decide +kernel
theorem dX10_pendulum_11 : decode cX10_pendulum 11 = .ok (.tableswitch 102 0 5 #[37, 47, 57, 70, 82, 92], 37) := by decide +kernel
theorem dX10_pendulum_48 : decode cX10_pendulum 48 = .ok (.aload_n 0, 1) := by decide +kernel
theorem dX10_pendulum_49 : decode cX10_pendulum 49 = .ok (.getfield 19, 3) := by decide +kernel
theorem dX10_pendulum_52 : decode cX10_pendulum 52 = .ok (.getfield 190, 3) := by decide +kernel
theorem dX10_pendulum_55 : decode cX10_pendulum 55 = .ok (.iload_n 1, 1) := by decide +kernel
theorem dX10_pendulum_56 : decode cX10_pendulum 56 = .ok (.iaload, 1) := by decide +kernel
theorem dX10_pendulum_57 : decode cX10_pendulum 57 = .ok (.ireturn, 1) := by decide +kernel
theorem dX10_pendulum_58 : decode cX10_pendulum 58 = .ok (.aload_n 0, 1) := by decide +kernel
theorem dX10_pendulum_59 : decode cX10_pendulum 59 = .ok (.getfield 19, 3) := by decide +kernel
theorem dX10_pendulum_62 : decode cX10_pendulum 62 = .ok (.getfield 193, 3) := by decide +kernel
theorem dX10_pendulum_65 : decode cX10_pendulum 65 = .ok (.iload_n 1, 1) := by decide +kernel
theorem dX10_pendulum_66 : decode cX10_pendulum 66 = .ok (.iaload, 1) := by decide +kernel
theorem dX10_pendulum_67 : decode cX10_pendulum 67 = .ok (.ireturn, 1) := by decide +kernel
theorem dX10_pendulum_68 : decode cX10_pendulum 68 = .ok (.aload_n 0, 1) := by decide +kernel
theorem dX10_pendulum_69 : decode cX10_pendulum 69 = .ok (.getfield 19, 3) := by decide +kernel
theorem dX10_pendulum_72 : decode cX10_pendulum 72 = .ok (.getfield 196, 3) := by decide +kernel
theorem dX10_pendulum_75 : decode cX10_pendulum 75 = .ok (.bipush 8, 2) := by decide +kernel
theorem dX10_pendulum_77 : decode cX10_pendulum 77 = .ok (.iload_n 1, 1) := by decide +kernel
theorem dX10_pendulum_78 : decode cX10_pendulum 78 = .ok (.iadd, 1) := by decide +kernel
theorem dX10_pendulum_79 : decode cX10_pendulum 79 = .ok (.iaload, 1) := by decide +kernel
theorem dX10_pendulum_80 : decode cX10_pendulum 80 = .ok (.ireturn, 1) := by decide +kernel
theorem dX10_pendulum_81 : decode cX10_pendulum 81 = .ok (.aload_n 0, 1) := by decide +kernel
theorem dX10_pendulum_82 : decode cX10_pendulum 82 = .ok (.getfield 19, 3) := by decide +kernel
theorem dX10_pendulum_85 : decode cX10_pendulum 85 = .ok (.getfield 196, 3) := by decide +kernel
theorem dX10_pendulum_88 : decode cX10_pendulum 88 = .ok (.iconst 4, 1) := by decide +kernel
theorem dX10_pendulum_89 : decode cX10_pendulum 89 = .ok (.iload_n 1, 1) := by decide +kernel
theorem dX10_pendulum_90 : decode cX10_pendulum 90 = .ok (.iadd, 1) := by decide +kernel
theorem dX10_pendulum_91 : decode cX10_pendulum 91 = .ok (.iaload, 1) := by decide +kernel
theorem dX10_pendulum_92 : decode cX10_pendulum 92 = .ok (.ireturn, 1) := by decide +kernel
theorem dX10_pendulum_93 : decode cX10_pendulum 93 = .ok (.aload_n 0, 1) := by decide +kernel
theorem dX10_pendulum_94 : decode cX10_pendulum 94 = .ok (.getfield 19, 3) := by decide +kernel
theorem dX10_pendulum_97 : decode cX10_pendulum 97 = .ok (.getfield 199, 3) := by decide +kernel
theorem dX10_pendulum_100 : decode cX10_pendulum 100 = .ok (.iload_n 1, 1) := by decide +kernel
theorem dX10_pendulum_101 : decode cX10_pendulum 101 = .ok (.iaload, 1) := by decide +kernel
theorem dX10_pendulum_102 : decode cX10_pendulum 102 = .ok (.ireturn, 1) := by decide +kernel
theorem dX10_pendulum_103 : decode cX10_pendulum 103 = .ok (.aload_n 0, 1) := by decide +kernel
theorem dX10_pendulum_104 : decode cX10_pendulum 104 = .ok (.getfield 19, 3) := by decide +kernel
theorem dX10_pendulum_107 : decode cX10_pendulum 107 = .ok (.getfield 196, 3) := by decide +kernel
theorem dX10_pendulum_110 : decode cX10_pendulum 110 = .ok (.iload_n 1, 1) := by decide +kernel
theorem dX10_pendulum_111 : decode cX10_pendulum 111 = .ok (.iaload, 1) := by decide +kernel
theorem dX10_pendulum_112 : decode cX10_pendulum 112 = .ok (.ireturn, 1) := by decide +kernel
theorem dX10_pendulum_113 : decode cX10_pendulum 113 = .ok (.aload_n 0, 1) := by decide +kernel
theorem dX10_pendulum_114 : decode cX10_pendulum 114 = .ok (.getfield 19, 3) := by decide +kernel
theorem dX10_pendulum_117 : decode cX10_pendulum 117 = .ok (.iload_n 1, 1) := by decide +kernel
theorem dX10_pendulum_118 : decode cX10_pendulum 118 = .ok (.invokevirtual 202, 3) := by decide +kernel
theorem dX10_pendulum_121 : decode cX10_pendulum 121 = .ok (.ireturn, 1) := by decide +kernel
theorem dX10_set_0 : decode cX10_set 0 = .ok (.iload_n 1, 1) := by decide +kernel
theorem dX10_set_1 : decode cX10_set 1 = .ok (.invokestatic 187, 3) := by decide +kernel
theorem dX10_set_4 : decode cX10_set 4 = .ok (.iload_n 2, 1) := by decide +kernel
theorem dX10_set_5 : decode cX10_set 5 = .ok (.iconst 2, 1) := by decide +kernel
theorem dX10_set_6 : decode cX10_set 6 = .ok (.invokestatic 140, 3) := by decide +kernel
theorem dX10_set_9 : decode cX10_set 9 = .ok (.iload_n 3, 1) := by decide +kernel
theorem dX10_set_10 : decode cX10_set 10 = .ok (.ifCond .lt 11, 3) := by decide +kernel
theorem dX10_set_13 : decode cX10_set 13 = .ok (.iload_n 3, 1) := by decide +kernel
theorem dX10_set_14 : decode cX10_set 14 = .ok (.iload_n 2, 1) := by decide +kernel
theorem dX10_set_15 : decode cX10_set 15 = .ok (.invokestatic 206, 3) := by decide +kernel
theorem dX10_set_18 : decode cX10_set 18 = .ok (.if_icmp .le 9, 3) := by decide +kernel
theorem dX10_set_21 : decode cX10_set 21 = .ok (.aload_n 0, 1) := by decide +kernel
theorem dX10_set_22 : decode cX10_set 22 = .ok (.iconst 1, 1) := by decide +kernel
theorem dX10_set_23 : decode cX10_set 23 = .ok (.invokevirtual 209, 3) := by decide +kernel
theorem dX10_set_26 : decode cX10_set 26 = .ok (.ireturn, 1) := by decide +kernel
theorem dX10_set_27 : decode cX10_set 27 = .ok (.iconst 4, 1) := by decide +kernel
theorem dX10_set_28 : decode cX10_set 28 = .ok (.iload_n 2, 1) := by decide +kernel
theorem dX10_set_29 : decode cX10_set 29 = .ok (.imul, 1) := by decide +kernel
theorem dX10_set_30 : decode cX10_set 30 = .ok (.iload_n 1, 1) := by decide +kernel
theorem dX10_set_31 : decode cX10_set 31 = .ok (.iadd, 1) := by decide +kernel
theorem dX10_set_32 : decode cX10_set 32 = .ok (.istore 4, 2) := by decide +kernel
theorem dX10_set_34 : decode cX10_set 34 = .ok (.aload_n 0, 1) := by decide +kernel
theorem dX10_set_35 : decode cX10_set 35 = .ok (.getfield 19, 3) := by decide +kernel
theorem dX10_set_38 : decode cX10_set 38 = .ok (.getfield 196, 3) := by decide +kernel
theorem dX10_set_41 : decode cX10_set 41 = .ok (.iload 4, 2) := by decide +kernel
theorem dX10_set_43 : decode cX10_set 43 = .ok (.iaload, 1) := by decide +kernel
theorem dX10_set_44 : decode cX10_set 44 = .ok (.istore 5, 2) := by decide +kernel
theorem dX10_set_46 : decode cX10_set 46 = .ok (.aload_n 0, 1) := by decide +kernel
theorem dX10_set_47 : decode cX10_set 47 = .ok (.getfield 19, 3) := by decide +kernel
theorem dX10_set_50 : decode cX10_set 50 = .ok (.getfield 196, 3) := by decide +kernel
theorem dX10_set_53 : decode cX10_set 53 = .ok (.iload 4, 2) := by decide +kernel
theorem dX10_set_55 : decode cX10_set 55 = .ok (.iload_n 3, 1) := by decide +kernel
theorem dX10_set_56 : decode cX10_set 56 = .ok (.iastore, 1) := by decide +kernel
theorem dX10_set_57 : decode cX10_set 57 = .ok (.aload_n 0, 1) := by decide +kernel
theorem dX10_set_58 : decode cX10_set 58 = .ok (.dup, 1) := by decide +kernel
theorem dX10_set_59 : decode cX10_set 59 = .ok (.getfield 95, 3) := by decide +kernel
theorem dX10_set_62 : decode cX10_set 62 = .ok (.iconst 1, 1) := by decide +kernel
theorem dX10_set_63 : decode cX10_set 63 = .ok (.iadd, 1) := by decide +kernel
theorem dX10_set_64 : decode cX10_set 64 = .ok (.putfield 95, 3) := by decide +kernel
theorem dX10_set_67 : decode cX10_set 67 = .ok (.iload 5, 2) := by decide +kernel
theorem dX10_set_69 : decode cX10_set 69 = .ok (.ireturn, 1) := by decide +kernel
theorem dX10_swing_0 : decode cX10_swing 0 = .ok (.iload_n 1, 1) := by decide +kernel
theorem dX10_swing_1 : decode cX10_swing 1 = .ok (.invokestatic 187, 3) := by decide +kernel
theorem dX10_swing_4 : decode cX10_swing 4 = .ok (.iload_n 2, 1) := by decide +kernel
theorem dX10_swing_5 : decode cX10_swing 5 = .ok (.invokestatic 212, 3) := by decide +kernel
theorem dX10_swing_8 : decode cX10_swing 8 = .ok (.aload_n 0, 1) := by decide +kernel
theorem dX10_swing_9 : decode cX10_swing 9 = .ok (.getfield 19, 3) := by decide +kernel
theorem dX10_swing_12 : decode cX10_swing 12 = .ok (.iload_n 1, 1) := by decide +kernel
theorem dX10_swing_13 : decode cX10_swing 13 = .ok (.iload_n 2, 1) := by decide +kernel
theorem dX10_swing_14 : decode cX10_swing 14 = .ok (.invokevirtual 215, 3) := by decide +kernel
theorem dX10_swing_17 : decode cX10_swing 17 = .ok (.ireturn, 1) := by decide +kernel
theorem dX10_pen_0 : decode cX10_pen 0 = .ok (.iload_n 2, 1) := by decide +kernel
theorem dX10_pen_1 : decode cX10_pen 1 = .ok (.iconst 1, 1) := by decide +kernel
theorem dX10_pen_2 : decode cX10_pen 2 = .ok (.invokestatic 140, 3) := by decide +kernel
theorem dX10_pen_5 : decode cX10_pen 5 = .ok (.iload_n 1, 1) := by decide +kernel
theorem dX10_pen_6 : decode cX10_pen 6 = .ok (.invokestatic 212, 3) := by decide +kernel
theorem dX10_pen_9 : decode cX10_pen 9 = .ok (.aload_n 0, 1) := by decide +kernel
theorem dX10_pen_10 : decode cX10_pen 10 = .ok (.getfield 19, 3) := by decide +kernel
theorem dX10_pen_13 : decode cX10_pen 13 = .ok (.iload_n 1, 1) := by decide +kernel
theorem dX10_pen_14 : decode cX10_pen 14 = .ok (.iload_n 2, 1) := by decide +kernel
theorem dX10_pen_15 : decode cX10_pen 15 = .ok (.invokevirtual 219, 3) := by decide +kernel
theorem dX10_pen_18 : decode cX10_pen 18 = .ok (.ireturn, 1) := by decide +kernel
theorem dX10_drawn_0 : decode cX10_drawn 0 = .ok (.iload_n 1, 1) := by decide +kernel
theorem dX10_drawn_1 : decode cX10_drawn 1 = .ok (.iload_n 2, 1) := by decide +kernel
theorem dX10_drawn_2 : decode cX10_drawn 2 = .ok (.invokestatic 222, 3) := by decide +kernel
theorem dX10_drawn_5 : decode cX10_drawn 5 = .ok (.aload_n 0, 1) := by decide +kernel
theorem dX10_drawn_6 : decode cX10_drawn 6 = .ok (.getfield 88, 3) := by decide +kernel
theorem dX10_drawn_9 : decode cX10_drawn 9 = .ok (.iconst 0, 1) := by decide +kernel
theorem dX10_drawn_10 : decode cX10_drawn 10 = .ok (.invokestatic 225, 3) := by decide +kernel
theorem dX10_drawn_13 : decode cX10_drawn 13 = .ok (.aload_n 0, 1) := by decide +kernel
theorem dX10_drawn_14 : decode cX10_drawn 14 = .ok (.aload_n 0, 1) := by decide +kernel
theorem dX10_drawn_15 : decode cX10_drawn 15 = .ok (.getfield 19, 3) := by decide +kernel
theorem dX10_drawn_18 : decode cX10_drawn 18 = .ok (.iload_n 1, 1) := by decide +kernel
theorem dX10_drawn_19 : decode cX10_drawn 19 = .ok (.iload_n 2, 1) := by decide +kernel
theorem dX10_drawn_20 : decode cX10_drawn 20 = .ok (.iconst 1, 1) := by decide +kernel
theorem dX10_drawn_21 : decode cX10_drawn 21 = .ok (.invokevirtual 231, 3) := by decide +kernel
theorem dX10_drawn_24 : decode cX10_drawn 24 = .ok (.aload_n 0, 1) := by decide +kernel
theorem dX10_drawn_25 : decode cX10_drawn 25 = .ok (.iconst 1, 1) := by decide +kernel
theorem dX10_drawn_26 : decode cX10_drawn 26 = .ok (.invokevirtual 235, 3) := by decide +kernel
theorem dX10_drawn_29 : decode cX10_drawn 29 = .ok (.ireturn, 1) := by decide +kernel
theorem dX10_inCell_0 : decode cX10_inCell 0 = .ok (.iload_n 1, 1) := by decide +kernel
theorem dX10_inCell_1 : decode cX10_inCell 1 = .ok (.invokestatic 163, 3) := by decide +kernel
theorem dX10_inCell_4 : decode cX10_inCell 4 = .ok (.iload_n 2, 1) := by decide +kernel
theorem dX10_inCell_5 : decode cX10_inCell 5 = .ok (.iload_n 3, 1) := by decide +kernel
theorem dX10_inCell_6 : decode cX10_inCell 6 = .ok (.invokestatic 222, 3) := by decide +kernel
theorem dX10_inCell_9 : decode cX10_inCell 9 = .ok (.iload_n 2, 1) := by decide +kernel
theorem dX10_inCell_10 : decode cX10_inCell 10 = .ok (.istore 4, 2) := by decide +kernel
theorem dX10_inCell_12 : decode cX10_inCell 12 = .ok (.iload 4, 2) := by decide +kernel
theorem dX10_inCell_14 : decode cX10_inCell 14 = .ok (.iload_n 3, 1) := by decide +kernel
theorem dX10_inCell_15 : decode cX10_inCell 15 = .ok (.if_icmp .gt 25, 3) := by decide +kernel
theorem dX10_inCell_18 : decode cX10_inCell 18 = .ok (.aload_n 0, 1) := by decide +kernel
theorem dX10_inCell_19 : decode cX10_inCell 19 = .ok (.getfield 19, 3) := by decide +kernel
theorem dX10_inCell_22 : decode cX10_inCell 22 = .ok (.iload 4, 2) := by decide +kernel
theorem dX10_inCell_24 : decode cX10_inCell 24 = .ok (.invokevirtual 238, 3) := by decide +kernel
theorem dX10_inCell_27 : decode cX10_inCell 27 = .ok (.iload_n 1, 1) := by decide +kernel
theorem dX10_inCell_28 : decode cX10_inCell 28 = .ok (.if_icmp .ne 6, 3) := by decide +kernel
theorem dX10_inCell_31 : decode cX10_inCell 31 = .ok (.iload 4, 2) := by decide +kernel
theorem dX10_inCell_33 : decode cX10_inCell 33 = .ok (.ireturn, 1) := by decide +kernel
theorem dX10_inCell_34 : decode cX10_inCell 34 = .ok (.iinc 4 1, 3) := by decide +kernel
theorem dX10_inCell_37 : decode cX10_inCell 37 = .ok (.goto (-25), 3) := by decide +kernel
theorem dX10_inCell_40 : decode cX10_inCell 40 = .ok (.iconst (-1), 1) := by decide +kernel
theorem dX10_inCell_41 : decode cX10_inCell 41 = .ok (.ireturn, 1) := by decide +kernel
theorem dX10_round_0 : decode cX10_round 0 = .ok (.aload_n 0, 1) := by decide +kernel
theorem dX10_round_1 : decode cX10_round 1 = .ok (.getfield 19, 3) := by decide +kernel
theorem dX10_round_4 : decode cX10_round 4 = .ok (.invokevirtual 241, 3) := by decide +kernel
theorem dX10_round_7 : decode cX10_round 7 = .ok (.ireturn, 1) := by decide +kernel
theorem dX10_off_0 : decode cX10_off 0 = .ok (.aload_n 0, 1) := by decide +kernel
theorem dX10_off_1 : decode cX10_off 1 = .ok (.getfield 19, 3) := by decide +kernel
theorem dX10_off_4 : decode cX10_off 4 = .ok (.invokevirtual 241, 3) := by decide +kernel
theorem dX10_off_7 : decode cX10_off 7 = .ok (.istore_n 1, 1) := by decide +kernel
theorem dX10_off_8 : decode cX10_off 8 = .ok (.aload_n 0, 1) := by decide +kernel
theorem dX10_off_9 : decode cX10_off 9 = .ok (.getfield 19, 3) := by decide +kernel
theorem dX10_off_12 : decode cX10_off 12 = .ok (.iload_n 1, 1) := by decide +kernel
theorem dX10_off_13 : decode cX10_off 13 = .ok (.iconst 0, 1) := by decide +kernel
theorem dX10_off_14 : decode cX10_off 14 = .ok (.invokevirtual 244, 3) := by decide +kernel
theorem dX10_off_17 : decode cX10_off 17 = .ok (.aload_n 0, 1) := by decide +kernel
theorem dX10_off_18 : decode cX10_off 18 = .ok (.getfield 19, 3) := by decide +kernel
theorem dX10_off_21 : decode cX10_off 21 = .ok (.iconst 0, 1) := by decide +kernel
theorem dX10_off_22 : decode cX10_off 22 = .ok (.iconst 0, 1) := by decide +kernel
theorem dX10_off_23 : decode cX10_off 23 = .ok (.invokevirtual 244, 3) := by decide +kernel
theorem dX10_off_26 : decode cX10_off 26 = .ok (.isub, 1) := by decide +kernel
theorem dX10_off_27 : decode cX10_off 27 = .ok (.invokestatic 247, 3) := by decide +kernel
theorem dX10_off_30 : decode cX10_off 30 = .ok (.aload_n 0, 1) := by decide +kernel
theorem dX10_off_31 : decode cX10_off 31 = .ok (.getfield 19, 3) := by decide +kernel
theorem dX10_off_34 : decode cX10_off 34 = .ok (.iload_n 1, 1) := by decide +kernel
theorem dX10_off_35 : decode cX10_off 35 = .ok (.iconst 1, 1) := by decide +kernel
theorem dX10_off_36 : decode cX10_off 36 = .ok (.invokevirtual 244, 3) := by decide +kernel
theorem dX10_off_39 : decode cX10_off 39 = .ok (.aload_n 0, 1) := by decide +kernel
theorem dX10_off_40 : decode cX10_off 40 = .ok (.getfield 19, 3) := by decide +kernel
theorem dX10_off_43 : decode cX10_off 43 = .ok (.iconst 0, 1) := by decide +kernel
theorem dX10_off_44 : decode cX10_off 44 = .ok (.iconst 1, 1) := by decide +kernel
theorem dX10_off_45 : decode cX10_off 45 = .ok (.invokevirtual 244, 3) := by decide +kernel
theorem dX10_off_48 : decode cX10_off 48 = .ok (.isub, 1) := by decide +kernel
theorem dX10_off_49 : decode cX10_off 49 = .ok (.invokestatic 247, 3) := by decide +kernel
theorem dX10_off_52 : decode cX10_off 52 = .ok (.iadd, 1) := by decide +kernel
theorem dX10_off_53 : decode cX10_off 53 = .ok (.ireturn, 1) := by decide +kernel
theorem dX10_keep_0 : decode cX10_keep 0 = .ok (.aload_n 0, 1) := by decide +kernel
theorem dX10_keep_1 : decode cX10_keep 1 = .ok (.getfield 32, 3) := by decide +kernel
theorem dX10_keep_4 : decode cX10_keep 4 = .ok (.getfield 178, 3) := by decide +kernel
theorem dX10_keep_7 : decode cX10_keep 7 = .ok (.bipush 8, 2) := by decide +kernel
theorem dX10_keep_9 : decode cX10_keep 9 = .ok (.if_icmp .lt 9, 3) := by decide +kernel
theorem dX10_keep_12 : decode cX10_keep 12 = .ok (.aload_n 0, 1) := by decide +kernel
theorem dX10_keep_13 : decode cX10_keep 13 = .ok (.iconst 2, 1) := by decide +kernel
theorem dX10_keep_14 : decode cX10_keep 14 = .ok (.invokevirtual 209, 3) := by decide +kernel
theorem dX10_keep_17 : decode cX10_keep 17 = .ok (.ireturn, 1) := by decide +kernel
theorem dX10_keep_18 : decode cX10_keep 18 = .ok (.aload_n 0, 1) := by decide +kernel
theorem dX10_keep_19 : decode cX10_keep 19 = .ok (.getfield 32, 3) := by decide +kernel
theorem dX10_keep_22 : decode cX10_keep 22 = .ok (.getfield 178, 3) := by decide +kernel
theorem dX10_keep_25 : decode cX10_keep 25 = .ok (.istore_n 1, 1) := by decide +kernel
theorem dX10_keep_26 : decode cX10_keep 26 = .ok (.aload_n 0, 1) := by decide +kernel
theorem dX10_keep_27 : decode cX10_keep 27 = .ok (.getfield 19, 3) := by decide +kernel
theorem dX10_keep_30 : decode cX10_keep 30 = .ok (.getfield 196, 3) := by decide +kernel
theorem dX10_keep_33 : decode cX10_keep 33 = .ok (.iconst 0, 1) := by decide +kernel
theorem dX10_keep_34 : decode cX10_keep 34 = .ok (.aload_n 0, 1) := by decide +kernel
theorem dX10_keep_35 : decode cX10_keep 35 = .ok (.getfield 32, 3) := by decide +kernel
theorem dX10_keep_38 : decode cX10_keep 38 = .ok (.getfield 252, 3) := by decide +kernel
theorem dX10_keep_41 : decode cX10_keep 41 = .ok (.bipush 12, 2) := by decide +kernel
theorem dX10_keep_43 : decode cX10_keep 43 = .ok (.iload_n 1, 1) := by decide +kernel
theorem dX10_keep_44 : decode cX10_keep 44 = .ok (.imul, 1) := by decide +kernel
theorem dX10_keep_45 : decode cX10_keep 45 = .ok (.bipush 12, 2) := by decide +kernel
theorem dX10_keep_47 : decode cX10_keep 47 = .ok (.invokestatic 255, 3) := by decide +kernel
theorem dX10_keep_50 : decode cX10_keep 50 = .ok (.aload_n 0, 1) := by decide +kernel
theorem dX10_keep_51 : decode cX10_keep 51 = .ok (.getfield 32, 3) := by decide +kernel
theorem dX10_keep_54 : decode cX10_keep 54 = .ok (.iload_n 1, 1) := by decide +kernel
theorem dX10_keep_55 : decode cX10_keep 55 = .ok (.iconst 1, 1) := by decide +kernel
theorem dX10_keep_56 : decode cX10_keep 56 = .ok (.iadd, 1) := by decide +kernel
theorem dX10_keep_57 : decode cX10_keep 57 = .ok (.putfield 178, 3) := by decide +kernel
theorem dX10_keep_60 : decode cX10_keep 60 = .ok (.iload_n 1, 1) := by decide +kernel
theorem dX10_keep_61 : decode cX10_keep 61 = .ok (.ireturn, 1) := by decide +kernel
theorem dX10_take_0 : decode cX10_take 0 = .ok (.aload_n 0, 1) := by decide +kernel
theorem dX10_take_1 : decode cX10_take 1 = .ok (.iload_n 1, 1) := by decide +kernel
theorem dX10_take_2 : decode cX10_take 2 = .ok (.invokevirtual 261, 3) := by decide +kernel
theorem dX10_take_5 : decode cX10_take 5 = .ok (.aload_n 0, 1) := by decide +kernel
theorem dX10_take_6 : decode cX10_take 6 = .ok (.iload_n 1, 1) := by decide +kernel
theorem dX10_take_7 : decode cX10_take 7 = .ok (.aload_n 0, 1) := by decide +kernel
theorem dX10_take_8 : decode cX10_take 8 = .ok (.getfield 19, 3) := by decide +kernel
theorem dX10_take_11 : decode cX10_take 11 = .ok (.invokevirtual 264, 3) := by decide +kernel
theorem dX10_take_14 : decode cX10_take 14 = .ok (.aload_n 0, 1) := by decide +kernel
theorem dX10_take_15 : decode cX10_take 15 = .ok (.dup, 1) := by decide +kernel
theorem dX10_take_16 : decode cX10_take 16 = .ok (.getfield 95, 3) := by decide +kernel
theorem dX10_take_19 : decode cX10_take 19 = .ok (.iconst 1, 1) := by decide +kernel
theorem dX10_take_20 : decode cX10_take 20 = .ok (.iadd, 1) := by decide +kernel
theorem dX10_take_21 : decode cX10_take 21 = .ok (.putfield 95, 3) := by decide +kernel
theorem dX10_take_24 : decode cX10_take 24 = .ok (.return_, 1) := by decide +kernel
theorem dX10_alike_0 : decode cX10_alike 0 = .ok (.aload_n 0, 1) := by decide +kernel
theorem dX10_alike_1 : decode cX10_alike 1 = .ok (.iload_n 1, 1) := by decide +kernel
theorem dX10_alike_2 : decode cX10_alike 2 = .ok (.invokevirtual 261, 3) := by decide +kernel
theorem dX10_alike_5 : decode cX10_alike 5 = .ok (.aload_n 0, 1) := by decide +kernel
theorem dX10_alike_6 : decode cX10_alike 6 = .ok (.iload_n 2, 1) := by decide +kernel
theorem dX10_alike_7 : decode cX10_alike 7 = .ok (.invokevirtual 261, 3) := by decide +kernel
theorem dX10_alike_10 : decode cX10_alike 10 = .ok (.aload_n 0, 1) := by decide +kernel
theorem dX10_alike_11 : decode cX10_alike 11 = .ok (.iload_n 1, 1) := by decide +kernel
theorem dX10_alike_12 : decode cX10_alike 12 = .ok (.iload_n 2, 1) := by decide +kernel
theorem dX10_alike_13 : decode cX10_alike 13 = .ok (.invokevirtual 268, 3) := by decide +kernel
theorem dX10_alike_16 : decode cX10_alike 16 = .ok (.ireturn, 1) := by decide +kernel
theorem dX10_kinds_0 : decode cX10_kinds 0 = .ok (.iload_n 1, 1) := by decide +kernel
theorem dX10_kinds_1 : decode cX10_kinds 1 = .ok (.iconst (-1), 1) := by decide +kernel
theorem dX10_kinds_2 : decode cX10_kinds 2 = .ok (.if_icmp .eq 14, 3) := by decide +kernel
theorem dX10_kinds_5 : decode cX10_kinds 5 = .ok (.aload_n 0, 1) := by decide +kernel
theorem dX10_kinds_6 : decode cX10_kinds 6 = .ok (.iload_n 1, 1) := by decide +kernel
theorem dX10_kinds_7 : decode cX10_kinds 7 = .ok (.invokevirtual 261, 3) := by decide +kernel
theorem dX10_kinds_10 : decode cX10_kinds 10 = .ok (.aload_n 0, 1) := by decide +kernel
theorem dX10_kinds_11 : decode cX10_kinds 11 = .ok (.iload_n 1, 1) := by decide +kernel
theorem dX10_kinds_12 : decode cX10_kinds 12 = .ok (.invokevirtual 271, 3) := by decide +kernel
theorem dX10_kinds_15 : decode cX10_kinds 15 = .ok (.ireturn, 1) := by decide +kernel
theorem dX10_kinds_16 : decode cX10_kinds 16 = .ok (.iconst 0, 1) := by decide +kernel
theorem dX10_kinds_17 : decode cX10_kinds 17 = .ok (.istore_n 2, 1) := by decide +kernel
theorem dX10_kinds_18 : decode cX10_kinds 18 = .ok (.iconst 0, 1) := by decide +kernel
theorem dX10_kinds_19 : decode cX10_kinds 19 = .ok (.istore_n 3, 1) := by decide +kernel
theorem dX10_kinds_20 : decode cX10_kinds 20 = .ok (.iload_n 3, 1) := by decide +kernel
theorem dX10_kinds_21 : decode cX10_kinds 21 = .ok (.aload_n 0, 1) := by decide +kernel
theorem dX10_kinds_22 : decode cX10_kinds 22 = .ok (.getfield 32, 3) := by decide +kernel
theorem dX10_kinds_25 : decode cX10_kinds 25 = .ok (.getfield 178, 3) := by decide +kernel
theorem dX10_kinds_28 : decode cX10_kinds 28 = .ok (.if_icmp .ge 21, 3) := by decide +kernel
theorem dX10_kinds_31 : decode cX10_kinds 31 = .ok (.aload_n 0, 1) := by decide +kernel
theorem dX10_kinds_32 : decode cX10_kinds 32 = .ok (.iload_n 3, 1) := by decide +kernel
theorem dX10_kinds_33 : decode cX10_kinds 33 = .ok (.invokevirtual 271, 3) := by decide +kernel
theorem dX10_kinds_36 : decode cX10_kinds 36 = .ok (.iload_n 3, 1) := by decide +kernel
theorem dX10_kinds_37 : decode cX10_kinds 37 = .ok (.if_icmp .ne 6, 3) := by decide +kernel
theorem dX10_kinds_40 : decode cX10_kinds 40 = .ok (.iinc 2 1, 3) := by decide +kernel
theorem dX10_kinds_43 : decode cX10_kinds 43 = .ok (.iinc 3 1, 3) := by decide +kernel
theorem dX10_kinds_46 : decode cX10_kinds 46 = .ok (.goto (-26), 3) := by decide +kernel
theorem dX10_kinds_49 : decode cX10_kinds 49 = .ok (.iload_n 2, 1) := by decide +kernel
theorem dX10_kinds_50 : decode cX10_kinds 50 = .ok (.ireturn, 1) := by decide +kernel
theorem dX10_point_0 : decode cX10_point 0 = .ok (.aload_n 0, 1) := by decide +kernel
theorem dX10_point_1 : decode cX10_point 1 = .ok (.getfield 32, 3) := by decide +kernel
theorem dX10_point_4 : decode cX10_point 4 = .ok (.getfield 181, 3) := by decide +kernel
theorem dX10_point_7 : decode cX10_point 7 = .ok (.bipush 6, 2) := by decide +kernel
theorem dX10_point_9 : decode cX10_point 9 = .ok (.if_icmp .ge 24, 3) := by decide +kernel
theorem dX10_point_12 : decode cX10_point 12 = .ok (.iload_n 1, 1) := by decide +kernel
theorem dX10_point_13 : decode cX10_point 13 = .ok (.invokestatic 274, 3) := by decide +kernel
theorem dX10_point_16 : decode cX10_point 16 = .ok (.ifCond .eq 17, 3) := by decide +kernel
theorem dX10_point_19 : decode cX10_point 19 = .ok (.iload_n 2, 1) := by decide +kernel
theorem dX10_point_20 : decode cX10_point 20 = .ok (.invokestatic 278, 3) := by decide +kernel
theorem dX10_point_23 : decode cX10_point 23 = .ok (.ifCond .eq 10, 3) := by decide +kernel
theorem dX10_point_26 : decode cX10_point 26 = .ok (.iload_n 3, 1) := by decide +kernel
theorem dX10_point_27 : decode cX10_point 27 = .ok (.invokestatic 278, 3) := by decide +kernel
theorem dX10_point_30 : decode cX10_point 30 = .ok (.ifCond .ne 9, 3) := by decide +kernel
theorem dX10_point_33 : decode cX10_point 33 = .ok (.aload_n 0, 1) := by decide +kernel
theorem dX10_point_34 : decode cX10_point 34 = .ok (.iconst 3, 1) := by decide +kernel
theorem dX10_point_35 : decode cX10_point 35 = .ok (.invokevirtual 209, 3) := by decide +kernel
theorem dX10_point_38 : decode cX10_point 38 = .ok (.ireturn, 1) := by decide +kernel
theorem dX10_point_39 : decode cX10_point 39 = .ok (.iconst 3, 1) := by decide +kernel
theorem dX10_point_40 : decode cX10_point 40 = .ok (.aload_n 0, 1) := by decide +kernel
theorem dX10_point_41 : decode cX10_point 41 = .ok (.getfield 32, 3) := by decide +kernel
theorem dX10_point_44 : decode cX10_point 44 = .ok (.getfield 181, 3) := by decide +kernel
theorem dX10_point_47 : decode cX10_point 47 = .ok (.imul, 1) := by decide +kernel
theorem dX10_point_48 : decode cX10_point 48 = .ok (.istore 4, 2) := by decide +kernel
theorem dX10_point_50 : decode cX10_point 50 = .ok (.aload_n 0, 1) := by decide +kernel
theorem dX10_point_51 : decode cX10_point 51 = .ok (.getfield 32, 3) := by decide +kernel
theorem dX10_point_54 : decode cX10_point 54 = .ok (.getfield 281, 3) := by decide +kernel
theorem dX10_point_57 : decode cX10_point 57 = .ok (.iload 4, 2) := by decide +kernel
theorem dX10_point_59 : decode cX10_point 59 = .ok (.iload_n 1, 1) := by decide +kernel
theorem dX10_point_60 : decode cX10_point 60 = .ok (.iastore, 1) := by decide +kernel
theorem dX10_point_61 : decode cX10_point 61 = .ok (.aload_n 0, 1) := by decide +kernel
theorem dX10_point_62 : decode cX10_point 62 = .ok (.getfield 32, 3) := by decide +kernel
theorem dX10_point_65 : decode cX10_point 65 = .ok (.getfield 281, 3) := by decide +kernel
theorem dX10_point_68 : decode cX10_point 68 = .ok (.iload 4, 2) := by decide +kernel
theorem dX10_point_70 : decode cX10_point 70 = .ok (.iconst 1, 1) := by decide +kernel
theorem dX10_point_71 : decode cX10_point 71 = .ok (.iadd, 1) := by decide +kernel
theorem dX10_point_72 : decode cX10_point 72 = .ok (.iload_n 2, 1) := by decide +kernel
theorem dX10_point_73 : decode cX10_point 73 = .ok (.iastore, 1) := by decide +kernel
theorem dX10_point_74 : decode cX10_point 74 = .ok (.aload_n 0, 1) := by decide +kernel
theorem dX10_point_75 : decode cX10_point 75 = .ok (.getfield 32, 3) := by decide +kernel
theorem dX10_point_78 : decode cX10_point 78 = .ok (.getfield 281, 3) := by decide +kernel
theorem dX10_point_81 : decode cX10_point 81 = .ok (.iload 4, 2) := by decide +kernel
theorem dX10_point_83 : decode cX10_point 83 = .ok (.iconst 2, 1) := by decide +kernel
theorem dX10_point_84 : decode cX10_point 84 = .ok (.iadd, 1) := by decide +kernel
theorem dX10_point_85 : decode cX10_point 85 = .ok (.iload_n 3, 1) := by decide +kernel
theorem dX10_point_86 : decode cX10_point 86 = .ok (.iastore, 1) := by decide +kernel
theorem dX10_point_87 : decode cX10_point 87 = .ok (.aload_n 0, 1) := by decide +kernel
theorem dX10_point_88 : decode cX10_point 88 = .ok (.getfield 32, 3) := by decide +kernel
theorem dX10_point_91 : decode cX10_point 91 = .ok (.dup, 1) := by decide +kernel
theorem dX10_point_92 : decode cX10_point 92 = .ok (.getfield 181, 3) := by decide +kernel
theorem dX10_point_95 : decode cX10_point 95 = .ok (.iconst 1, 1) := by decide +kernel
theorem dX10_point_96 : decode cX10_point 96 = .ok (.iadd, 1) := by decide +kernel
theorem dX10_point_97 : decode cX10_point 97 = .ok (.putfield 181, 3) := by decide +kernel
theorem dX10_point_100 : decode cX10_point 100 = .ok (.aload_n 0, 1) := by decide +kernel
theorem dX10_point_101 : decode cX10_point 101 = .ok (.getfield 32, 3) := by decide +kernel
theorem dX10_point_104 : decode cX10_point 104 = .ok (.getfield 181, 3) := by decide +kernel
theorem dX10_point_107 : decode cX10_point 107 = .ok (.ireturn, 1) := by decide +kernel
theorem dX10_unpoint_0 : decode cX10_unpoint 0 = .ok (.aload_n 0, 1) := by decide +kernel
theorem dX10_unpoint_1 : decode cX10_unpoint 1 = .ok (.getfield 32, 3) := by decide +kernel
theorem dX10_unpoint_4 : decode cX10_unpoint 4 = .ok (.getfield 181, 3) := by decide +kernel
theorem dX10_unpoint_7 : decode cX10_unpoint 7 = .ok (.ifCond .ne 5, 3) := by decide +kernel
theorem dX10_unpoint_10 : decode cX10_unpoint 10 = .ok (.iconst (-1), 1) := by decide +kernel
theorem dX10_unpoint_11 : decode cX10_unpoint 11 = .ok (.ireturn, 1) := by decide +kernel
theorem dX10_unpoint_12 : decode cX10_unpoint 12 = .ok (.aload_n 0, 1) := by decide +kernel
theorem dX10_unpoint_13 : decode cX10_unpoint 13 = .ok (.getfield 32, 3) := by decide +kernel
theorem dX10_unpoint_16 : decode cX10_unpoint 16 = .ok (.dup, 1) := by decide +kernel
theorem dX10_unpoint_17 : decode cX10_unpoint 17 = .ok (.getfield 181, 3) := by decide +kernel
theorem dX10_unpoint_20 : decode cX10_unpoint 20 = .ok (.iconst 1, 1) := by decide +kernel
theorem dX10_unpoint_21 : decode cX10_unpoint 21 = .ok (.isub, 1) := by decide +kernel
theorem dX10_unpoint_22 : decode cX10_unpoint 22 = .ok (.putfield 181, 3) := by decide +kernel
theorem dX10_unpoint_25 : decode cX10_unpoint 25 = .ok (.aload_n 0, 1) := by decide +kernel
theorem dX10_unpoint_26 : decode cX10_unpoint 26 = .ok (.getfield 32, 3) := by decide +kernel
theorem dX10_unpoint_29 : decode cX10_unpoint 29 = .ok (.getfield 181, 3) := by decide +kernel
theorem dX10_unpoint_32 : decode cX10_unpoint 32 = .ok (.ireturn, 1) := by decide +kernel
theorem dX10_fits_0 : decode cX10_fits 0 = .ok (.iload_n 3, 1) := by decide +kernel
theorem dX10_fits_1 : decode cX10_fits 1 = .ok (.iconst 3, 1) := by decide +kernel
theorem dX10_fits_2 : decode cX10_fits 2 = .ok (.invokestatic 140, 3) := by decide +kernel
theorem dX10_fits_5 : decode cX10_fits 5 = .ok (.iload_n 1, 1) := by decide +kernel
theorem dX10_fits_6 : decode cX10_fits 6 = .ok (.iconst 0, 1) := by decide +kernel
theorem dX10_fits_7 : decode cX10_fits 7 = .ok (.iconst 5, 1) := by decide +kernel
theorem dX10_fits_8 : decode cX10_fits 8 = .ok (.invokestatic 284, 3) := by decide +kernel
theorem dX10_fits_11 : decode cX10_fits 11 = .ok (.iload_n 2, 1) := by decide +kernel
theorem dX10_fits_12 : decode cX10_fits 12 = .ok (.iconst 0, 1) := by decide +kernel
theorem dX10_fits_13 : decode cX10_fits 13 = .ok (.bipush 99, 2) := by decide +kernel
theorem dX10_fits_15 : decode cX10_fits 15 = .ok (.invokestatic 284, 3) := by decide +kernel
theorem dX10_fits_18 : decode cX10_fits 18 = .ok (.aload_n 0, 1) := by decide +kernel
theorem dX10_fits_19 : decode cX10_fits 19 = .ok (.getfield 23, 3) := by decide +kernel
theorem dX10_fits_22 : decode cX10_fits 22 = .ok (.aload_n 0, 1) := by decide +kernel
theorem dX10_fits_23 : decode cX10_fits 23 = .ok (.getfield 19, 3) := by decide +kernel
theorem dX10_fits_26 : decode cX10_fits 26 = .ok (.invokevirtual 122, 3) := by decide +kernel
theorem dX10_fits_29 : decode cX10_fits 29 = .ok (.aload_n 0, 1) := by decide +kernel
theorem dX10_fits_30 : decode cX10_fits 30 = .ok (.getfield 70, 3) := by decide +kernel
theorem dX10_fits_33 : decode cX10_fits 33 = .ok (.aload_n 0, 1) := by decide +kernel
theorem dX10_fits_34 : decode cX10_fits 34 = .ok (.getfield 23, 3) := by decide +kernel
theorem dX10_fits_37 : decode cX10_fits 37 = .ok (.aload_n 0, 1) := by decide +kernel
theorem dX10_fits_38 : decode cX10_fits 38 = .ok (.getfield 32, 3) := by decide +kernel
theorem dX10_fits_41 : decode cX10_fits 41 = .ok (.iload_n 1, 1) := by decide +kernel
theorem dX10_fits_42 : decode cX10_fits 42 = .ok (.iload_n 2, 1) := by decide +kernel
theorem dX10_fits_43 : decode cX10_fits 43 = .ok (.invokevirtual 288, 3) := by decide +kernel
theorem dX10_fits_46 : decode cX10_fits 46 = .ok (.iload_n 3, 1) := by decide +kernel
theorem dX10_fits_47 : decode cX10_fits 47 = .ok (.tableswitch 49 0 2 #[25, 33, 41], 25) := by decide +kernel
theorem dX10_fits_72 : decode cX10_fits 72 = .ok (.aload_n 0, 1) := by decide +kernel
theorem dX10_fits_73 : decode cX10_fits 73 = .ok (.getfield 70, 3) := by decide +kernel
theorem dX10_fits_76 : decode cX10_fits 76 = .ok (.getfield 292, 3) := by decide +kernel
theorem dX10_fits_79 : decode cX10_fits 79 = .ok (.ireturn, 1) := by decide +kernel
theorem dX10_fits_80 : decode cX10_fits 80 = .ok (.aload_n 0, 1) := by decide +kernel
theorem dX10_fits_81 : decode cX10_fits 81 = .ok (.getfield 70, 3) := by decide +kernel
theorem dX10_fits_84 : decode cX10_fits 84 = .ok (.getfield 295, 3) := by decide +kernel
theorem dX10_fits_87 : decode cX10_fits 87 = .ok (.ireturn, 1) := by decide +kernel
theorem dX10_fits_88 : decode cX10_fits 88 = .ok (.aload_n 0, 1) := by decide +kernel
theorem dX10_fits_89 : decode cX10_fits 89 = .ok (.getfield 70, 3) := by decide +kernel
theorem dX10_fits_92 : decode cX10_fits 92 = .ok (.getfield 298, 3) := by decide +kernel
theorem dX10_fits_95 : decode cX10_fits 95 = .ok (.ireturn, 1) := by decide +kernel
theorem dX10_fits_96 : decode cX10_fits 96 = .ok (.aload_n 0, 1) := by decide +kernel
theorem dX10_fits_97 : decode cX10_fits 97 = .ok (.getfield 70, 3) := by decide +kernel
theorem dX10_fits_100 : decode cX10_fits 100 = .ok (.getfield 301, 3) := by decide +kernel
theorem dX10_fits_103 : decode cX10_fits 103 = .ok (.ireturn, 1) := by decide +kernel
theorem dX10_chord_0 : decode cX10_chord 0 = .ok (.iload_n 3, 1) := by decide +kernel
theorem dX10_chord_1 : decode cX10_chord 1 = .ok (.iconst 1, 1) := by decide +kernel
theorem dX10_chord_2 : decode cX10_chord 2 = .ok (.invokestatic 140, 3) := by decide +kernel
theorem dX10_chord_5 : decode cX10_chord 5 = .ok (.iload_n 1, 1) := by decide +kernel
theorem dX10_chord_6 : decode cX10_chord 6 = .ok (.iconst 1, 1) := by decide +kernel
theorem dX10_chord_7 : decode cX10_chord 7 = .ok (.bipush 12, 2) := by decide +kernel
theorem dX10_chord_9 : decode cX10_chord 9 = .ok (.invokestatic 284, 3) := by decide +kernel
theorem dX10_chord_12 : decode cX10_chord 12 = .ok (.iload_n 2, 1) := by decide +kernel
theorem dX10_chord_13 : decode cX10_chord 13 = .ok (.iconst 1, 1) := by decide +kernel
theorem dX10_chord_14 : decode cX10_chord 14 = .ok (.bipush 12, 2) := by decide +kernel
theorem dX10_chord_16 : decode cX10_chord 16 = .ok (.invokestatic 284, 3) := by decide +kernel
theorem dX10_chord_19 : decode cX10_chord 19 = .ok (.iconst (-1), 1) := by decide +kernel
theorem dX10_chord_20 : decode cX10_chord 20 = .ok (.istore 4, 2) := by decide +kernel
theorem dX10_chord_22 : decode cX10_chord 22 = .ok (.iconst (-1), 1) := by decide +kernel
theorem dX10_chord_23 : decode cX10_chord 23 = .ok (.istore 5, 2) := by decide +kernel
theorem dX10_chord_25 : decode cX10_chord 25 = .ok (.iconst 0, 1) := by decide +kernel
theorem dX10_chord_26 : decode cX10_chord 26 = .ok (.istore 6, 2) := by decide +kernel
theorem dX10_chord_28 : decode cX10_chord 28 = .ok (.iload 6, 2) := by decide +kernel
theorem dX10_chord_30 : decode cX10_chord 30 = .ok (.bipush 9, 2) := by decide +kernel
theorem dX10_chord_32 : decode cX10_chord 32 = .ok (.if_icmp .gt 128, 3) := by decide +kernel
theorem dX10_chord_35 : decode cX10_chord 35 = .ok (.iconst 0, 1) := by decide +kernel
theorem dX10_chord_36 : decode cX10_chord 36 = .ok (.istore 7, 2) := by decide +kernel
theorem dX10_chord_38 : decode cX10_chord 38 = .ok (.iload 7, 2) := by decide +kernel
theorem dX10_chord_40 : decode cX10_chord 40 = .ok (.bipush 9, 2) := by decide +kernel
theorem dX10_chord_42 : decode cX10_chord 42 = .ok (.if_icmp .gt 112, 3) := by decide +kernel
theorem dX10_chord_45 : decode cX10_chord 45 = .ok (.iload 6, 2) := by decide +kernel
theorem dX10_chord_47 : decode cX10_chord 47 = .ok (.aload_n 0, 1) := by decide +kernel
theorem dX10_chord_48 : decode cX10_chord 48 = .ok (.getfield 19, 3) := by decide +kernel
theorem dX10_chord_51 : decode cX10_chord 51 = .ok (.getfield 196, 3) := by decide +kernel
theorem dX10_chord_54 : decode cX10_chord 54 = .ok (.iconst 0, 1) := by decide +kernel
theorem dX10_chord_55 : decode cX10_chord 55 = .ok (.iaload, 1) := by decide +kernel
theorem dX10_chord_56 : decode cX10_chord 56 = .ok (.isub, 1) := by decide +kernel
theorem dX10_chord_57 : decode cX10_chord 57 = .ok (.invokestatic 247, 3) := by decide +kernel
theorem dX10_chord_60 : decode cX10_chord 60 = .ok (.iload 7, 2) := by decide +kernel
theorem dX10_chord_62 : decode cX10_chord 62 = .ok (.aload_n 0, 1) := by decide +kernel
theorem dX10_chord_63 : decode cX10_chord 63 = .ok (.getfield 19, 3) := by decide +kernel
theorem dX10_chord_66 : decode cX10_chord 66 = .ok (.getfield 196, 3) := by decide +kernel
theorem dX10_chord_69 : decode cX10_chord 69 = .ok (.iconst 2, 1) := by decide +kernel
theorem dX10_chord_70 : decode cX10_chord 70 = .ok (.iaload, 1) := by decide +kernel
theorem dX10_chord_71 : decode cX10_chord 71 = .ok (.isub, 1) := by decide +kernel
theorem dX10_chord_72 : decode cX10_chord 72 = .ok (.invokestatic 247, 3) := by decide +kernel
theorem dX10_chord_75 : decode cX10_chord 75 = .ok (.iadd, 1) := by decide +kernel
theorem dX10_chord_76 : decode cX10_chord 76 = .ok (.istore 8, 2) := by decide +kernel
theorem dX10_chord_78 : decode cX10_chord 78 = .ok (.aload_n 0, 1) := by decide +kernel
theorem dX10_chord_79 : decode cX10_chord 79 = .ok (.getfield 19, 3) := by decide +kernel
theorem dX10_chord_82 : decode cX10_chord 82 = .ok (.getfield 193, 3) := by decide +kernel
theorem dX10_chord_85 : decode cX10_chord 85 = .ok (.iconst 0, 1) := by decide +kernel
theorem dX10_chord_86 : decode cX10_chord 86 = .ok (.iaload, 1) := by decide +kernel
theorem dX10_chord_87 : decode cX10_chord 87 = .ok (.iload 6, 2) := by decide +kernel
theorem dX10_chord_89 : decode cX10_chord 89 = .ok (.iadd, 1) := by decide +kernel
theorem dX10_chord_90 : decode cX10_chord 90 = .ok (.iload_n 2, 1) := by decide +kernel
theorem dX10_chord_91 : decode cX10_chord 91 = .ok (.imul, 1) := by decide +kernel
theorem dX10_chord_92 : decode cX10_chord 92 = .ok (.aload_n 0, 1) := by decide +kernel
theorem dX10_chord_93 : decode cX10_chord 93 = .ok (.getfield 19, 3) := by decide +kernel
theorem dX10_chord_96 : decode cX10_chord 96 = .ok (.getfield 193, 3) := by decide +kernel
theorem dX10_chord_99 : decode cX10_chord 99 = .ok (.iconst 2, 1) := by decide +kernel
theorem dX10_chord_100 : decode cX10_chord 100 = .ok (.iaload, 1) := by decide +kernel
theorem dX10_chord_101 : decode cX10_chord 101 = .ok (.iload 7, 2) := by decide +kernel
theorem dX10_chord_103 : decode cX10_chord 103 = .ok (.iadd, 1) := by decide +kernel
theorem dX10_chord_104 : decode cX10_chord 104 = .ok (.iload_n 1, 1) := by decide +kernel
theorem dX10_chord_105 : decode cX10_chord 105 = .ok (.imul, 1) := by decide +kernel
theorem dX10_chord_106 : decode cX10_chord 106 = .ok (.if_icmp .ne 7, 3) := by decide +kernel
theorem dX10_chord_109 : decode cX10_chord 109 = .ok (.iconst 1, 1) := by decide +kernel
theorem dX10_chord_110 : decode cX10_chord 110 = .ok (.goto 4, 3) := by decide +kernel
theorem dX10_chord_113 : decode cX10_chord 113 = .ok (.iconst 0, 1) := by decide +kernel
theorem dX10_chord_114 : decode cX10_chord 114 = .ok (.istore 9, 2) := by decide +kernel
theorem dX10_chord_116 : decode cX10_chord 116 = .ok (.iload 9, 2) := by decide +kernel
theorem dX10_chord_118 : decode cX10_chord 118 = .ok (.ifCond .eq 30, 3) := by decide +kernel
theorem dX10_chord_121 : decode cX10_chord 121 = .ok (.iload 4, 2) := by decide +kernel
theorem dX10_chord_123 : decode cX10_chord 123 = .ok (.iconst (-1), 1) := by decide +kernel
theorem dX10_chord_124 : decode cX10_chord 124 = .ok (.if_icmp .eq 10, 3) := by decide +kernel
theorem dX10_chord_127 : decode cX10_chord 127 = .ok (.iload 8, 2) := by decide +kernel
theorem dX10_chord_129 : decode cX10_chord 129 = .ok (.iload 4, 2) := by decide +kernel
theorem dX10_chord_131 : decode cX10_chord 131 = .ok (.if_icmp .ge 17, 3) := by decide +kernel
theorem dX10_chord_134 : decode cX10_chord 134 = .ok (.iload 8, 2) := by decide +kernel
theorem dX10_chord_136 : decode cX10_chord 136 = .ok (.istore 4, 2) := by decide +kernel
theorem dX10_chord_138 : decode cX10_chord 138 = .ok (.bipush 10, 2) := by decide +kernel
theorem dX10_chord_140 : decode cX10_chord 140 = .ok (.iload 6, 2) := by decide +kernel
theorem dX10_chord_142 : decode cX10_chord 142 = .ok (.imul, 1) := by decide +kernel
theorem dX10_chord_143 : decode cX10_chord 143 = .ok (.iload 7, 2) := by decide +kernel
theorem dX10_chord_145 : decode cX10_chord 145 = .ok (.iadd, 1) := by decide +kernel
theorem dX10_chord_146 : decode cX10_chord 146 = .ok (.istore 5, 2) := by decide +kernel
theorem dX10_chord_148 : decode cX10_chord 148 = .ok (.iinc 7 1, 3) := by decide +kernel
theorem dX10_chord_151 : decode cX10_chord 151 = .ok (.goto (-113), 3) := by decide +kernel
theorem dX10_chord_154 : decode cX10_chord 154 = .ok (.iinc 6 1, 3) := by decide +kernel
theorem dX10_chord_157 : decode cX10_chord 157 = .ok (.goto (-129), 3) := by decide +kernel
theorem dX10_chord_160 : decode cX10_chord 160 = .ok (.iload_n 3, 1) := by decide +kernel
theorem dX10_chord_161 : decode cX10_chord 161 = .ok (.ifCond .ne 8, 3) := by decide +kernel
theorem dX10_chord_164 : decode cX10_chord 164 = .ok (.iload 4, 2) := by decide +kernel
theorem dX10_chord_166 : decode cX10_chord 166 = .ok (.goto 5, 3) := by decide +kernel
theorem dX10_chord_169 : decode cX10_chord 169 = .ok (.iload 5, 2) := by decide +kernel
theorem dX10_chord_171 : decode cX10_chord 171 = .ok (.ireturn, 1) := by decide +kernel
theorem dX10_cart_0 : decode cX10_cart 0 = .ok (.iload_n 1, 1) := by decide +kernel
theorem dX10_cart_1 : decode cX10_cart 1 = .ok (.iconst 3, 1) := by decide +kernel
theorem dX10_cart_2 : decode cX10_cart 2 = .ok (.invokestatic 140, 3) := by decide +kernel
theorem dX10_cart_5 : decode cX10_cart 5 = .ok (.aload_n 0, 1) := by decide +kernel
theorem dX10_cart_6 : decode cX10_cart 6 = .ok (.getfield 70, 3) := by decide +kernel
theorem dX10_cart_9 : decode cX10_cart 9 = .ok (.aload_n 0, 1) := by decide +kernel
theorem dX10_cart_10 : decode cX10_cart 10 = .ok (.getfield 19, 3) := by decide +kernel
theorem dX10_cart_13 : decode cX10_cart 13 = .ok (.aload_n 0, 1) := by decide +kernel
theorem dX10_cart_14 : decode cX10_cart 14 = .ok (.getfield 32, 3) := by decide +kernel
theorem dX10_cart_17 : decode cX10_cart 17 = .ok (.invokevirtual 304, 3) := by decide +kernel
theorem dX10_cart_20 : decode cX10_cart 20 = .ok (.iload_n 1, 1) := by decide +kernel
theorem dX10_cart_21 : decode cX10_cart 21 = .ok (.tableswitch 51 0 2 #[27, 35, 43], 27) := by decide +kernel
theorem dX10_cart_48 : decode cX10_cart 48 = .ok (.aload_n 0, 1) := by decide +kernel
theorem dX10_cart_49 : decode cX10_cart 49 = .ok (.getfield 70, 3) := by decide +kernel
theorem dX10_cart_52 : decode cX10_cart 52 = .ok (.getfield 308, 3) := by decide +kernel
theorem dX10_cart_55 : decode cX10_cart 55 = .ok (.ireturn, 1) := by decide +kernel
theorem dX10_cart_56 : decode cX10_cart 56 = .ok (.aload_n 0, 1) := by decide +kernel
theorem dX10_cart_57 : decode cX10_cart 57 = .ok (.getfield 70, 3) := by decide +kernel
theorem dX10_cart_60 : decode cX10_cart 60 = .ok (.getfield 311, 3) := by decide +kernel
theorem dX10_cart_63 : decode cX10_cart 63 = .ok (.ireturn, 1) := by decide +kernel
theorem dX10_cart_64 : decode cX10_cart 64 = .ok (.aload_n 0, 1) := by decide +kernel
theorem dX10_cart_65 : decode cX10_cart 65 = .ok (.getfield 70, 3) := by decide +kernel
theorem dX10_cart_68 : decode cX10_cart 68 = .ok (.getfield 314, 3) := by decide +kernel
theorem dX10_cart_71 : decode cX10_cart 71 = .ok (.ireturn, 1) := by decide +kernel
theorem dX10_cart_72 : decode cX10_cart 72 = .ok (.aload_n 0, 1) := by decide +kernel
theorem dX10_cart_73 : decode cX10_cart 73 = .ok (.getfield 70, 3) := by decide +kernel
theorem dX10_cart_76 : decode cX10_cart 76 = .ok (.getfield 317, 3) := by decide +kernel
theorem dX10_cart_79 : decode cX10_cart 79 = .ok (.ireturn, 1) := by decide +kernel
theorem dX10_birthday_0 : decode cX10_birthday 0 = .ok (.aload_n 0, 1) := by decide +kernel
theorem dX10_birthday_1 : decode cX10_birthday 1 = .ok (.getfield 32, 3) := by decide +kernel
theorem dX10_birthday_4 : decode cX10_birthday 4 = .ok (.getfield 184, 3) := by decide +kernel
theorem dX10_birthday_7 : decode cX10_birthday 7 = .ok (.bipush 10, 2) := by decide +kernel
theorem dX10_birthday_9 : decode cX10_birthday 9 = .ok (.if_icmp .ge 14, 3) := by decide +kernel
theorem dX10_birthday_12 : decode cX10_birthday 12 = .ok (.iload_n 1, 1) := by decide +kernel
theorem dX10_birthday_13 : decode cX10_birthday 13 = .ok (.ifCond .lt 10, 3) := by decide +kernel
theorem dX10_birthday_16 : decode cX10_birthday 16 = .ok (.iload_n 1, 1) := by decide +kernel
theorem dX10_birthday_17 : decode cX10_birthday 17 = .ok (.sipush 364, 3) := by decide +kernel
theorem dX10_birthday_20 : decode cX10_birthday 20 = .ok (.if_icmp .le 9, 3) := by decide +kernel
theorem dX10_birthday_23 : decode cX10_birthday 23 = .ok (.aload_n 0, 1) := by decide +kernel
theorem dX10_birthday_24 : decode cX10_birthday 24 = .ok (.iconst 4, 1) := by decide +kernel
theorem dX10_birthday_25 : decode cX10_birthday 25 = .ok (.invokevirtual 209, 3) := by decide +kernel
theorem dX10_birthday_28 : decode cX10_birthday 28 = .ok (.ireturn, 1) := by decide +kernel
theorem dX10_birthday_29 : decode cX10_birthday 29 = .ok (.aload_n 0, 1) := by decide +kernel
theorem dX10_birthday_30 : decode cX10_birthday 30 = .ok (.getfield 32, 3) := by decide +kernel
theorem dX10_birthday_33 : decode cX10_birthday 33 = .ok (.getfield 320, 3) := by decide +kernel
theorem dX10_birthday_36 : decode cX10_birthday 36 = .ok (.aload_n 0, 1) := by decide +kernel
theorem dX10_birthday_37 : decode cX10_birthday 37 = .ok (.getfield 32, 3) := by decide +kernel
theorem dX10_birthday_40 : decode cX10_birthday 40 = .ok (.getfield 184, 3) := by decide +kernel
theorem dX10_birthday_43 : decode cX10_birthday 43 = .ok (.iload_n 1, 1) := by decide +kernel
theorem dX10_birthday_44 : decode cX10_birthday 44 = .ok (.iastore, 1) := by decide +kernel
theorem dX10_birthday_45 : decode cX10_birthday 45 = .ok (.aload_n 0, 1) := by decide +kernel
theorem dX10_birthday_46 : decode cX10_birthday 46 = .ok (.getfield 32, 3) := by decide +kernel
theorem dX10_birthday_49 : decode cX10_birthday 49 = .ok (.dup, 1) := by decide +kernel
theorem dX10_birthday_50 : decode cX10_birthday 50 = .ok (.getfield 184, 3) := by decide +kernel
theorem dX10_birthday_53 : decode cX10_birthday 53 = .ok (.iconst 1, 1) := by decide +kernel
theorem dX10_birthday_54 : decode cX10_birthday 54 = .ok (.iadd, 1) := by decide +kernel
theorem dX10_birthday_55 : decode cX10_birthday 55 = .ok (.putfield 184, 3) := by decide +kernel
theorem dX10_birthday_58 : decode cX10_birthday 58 = .ok (.aload_n 0, 1) := by decide +kernel
theorem dX10_birthday_59 : decode cX10_birthday 59 = .ok (.dup, 1) := by decide +kernel
theorem dX10_birthday_60 : decode cX10_birthday 60 = .ok (.getfield 95, 3) := by decide +kernel
theorem dX10_birthday_63 : decode cX10_birthday 63 = .ok (.iconst 1, 1) := by decide +kernel
theorem dX10_birthday_64 : decode cX10_birthday 64 = .ok (.iadd, 1) := by decide +kernel
theorem dX10_birthday_65 : decode cX10_birthday 65 = .ok (.putfield 95, 3) := by decide +kernel
theorem dX10_birthday_68 : decode cX10_birthday 68 = .ok (.aload_n 0, 1) := by decide +kernel
theorem dX10_birthday_69 : decode cX10_birthday 69 = .ok (.getfield 32, 3) := by decide +kernel
theorem dX10_birthday_72 : decode cX10_birthday 72 = .ok (.getfield 184, 3) := by decide +kernel
theorem dX10_birthday_75 : decode cX10_birthday 75 = .ok (.ireturn, 1) := by decide +kernel
theorem dX10_forget_0 : decode cX10_forget 0 = .ok (.aload_n 0, 1) := by decide +kernel
theorem dX10_forget_1 : decode cX10_forget 1 = .ok (.getfield 32, 3) := by decide +kernel
theorem dX10_forget_4 : decode cX10_forget 4 = .ok (.getfield 184, 3) := by decide +kernel
theorem dX10_forget_7 : decode cX10_forget 7 = .ok (.istore_n 1, 1) := by decide +kernel
theorem dX10_forget_8 : decode cX10_forget 8 = .ok (.aload_n 0, 1) := by decide +kernel
theorem dX10_forget_9 : decode cX10_forget 9 = .ok (.getfield 32, 3) := by decide +kernel
theorem dX10_forget_12 : decode cX10_forget 12 = .ok (.iconst 0, 1) := by decide +kernel
theorem dX10_forget_13 : decode cX10_forget 13 = .ok (.putfield 184, 3) := by decide +kernel
theorem dX10_forget_16 : decode cX10_forget 16 = .ok (.aload_n 0, 1) := by decide +kernel
theorem dX10_forget_17 : decode cX10_forget 17 = .ok (.dup, 1) := by decide +kernel
theorem dX10_forget_18 : decode cX10_forget 18 = .ok (.getfield 95, 3) := by decide +kernel
theorem dX10_forget_21 : decode cX10_forget 21 = .ok (.iconst 1, 1) := by decide +kernel
theorem dX10_forget_22 : decode cX10_forget 22 = .ok (.iadd, 1) := by decide +kernel
theorem dX10_forget_23 : decode cX10_forget 23 = .ok (.putfield 95, 3) := by decide +kernel
theorem dX10_forget_26 : decode cX10_forget 26 = .ok (.iload_n 1, 1) := by decide +kernel
theorem dX10_forget_27 : decode cX10_forget 27 = .ok (.ireturn, 1) := by decide +kernel
theorem dX10_factor_0 : decode cX10_factor 0 = .ok (.iload_n 1, 1) := by decide +kernel
theorem dX10_factor_1 : decode cX10_factor 1 = .ok (.iconst 1, 1) := by decide +kernel
theorem dX10_factor_2 : decode cX10_factor 2 = .ok (.invokestatic 140, 3) := by decide +kernel
theorem dX10_factor_5 : decode cX10_factor 5 = .ok (.aload_n 0, 1) := by decide +kernel
theorem dX10_factor_6 : decode cX10_factor 6 = .ok (.getfield 84, 3) := by decide +kernel
theorem dX10_factor_9 : decode cX10_factor 9 = .ok (.aload_n 0, 1) := by decide +kernel
theorem dX10_factor_10 : decode cX10_factor 10 = .ok (.getfield 32, 3) := by decide +kernel
theorem dX10_factor_13 : decode cX10_factor 13 = .ok (.aload_n 0, 1) := by decide +kernel
theorem dX10_factor_14 : decode cX10_factor 14 = .ok (.getfield 95, 3) := by decide +kernel
theorem dX10_factor_17 : decode cX10_factor 17 = .ok (.invokevirtual 323, 3) := by decide +kernel
theorem dX10_factor_20 : decode cX10_factor 20 = .ok (.iload_n 1, 1) := by decide +kernel
theorem dX10_factor_21 : decode cX10_factor 21 = .ok (.ifCond .ne 13, 3) := by decide +kernel
theorem dX10_factor_24 : decode cX10_factor 24 = .ok (.aload_n 0, 1) := by decide +kernel
theorem dX10_factor_25 : decode cX10_factor 25 = .ok (.getfield 84, 3) := by decide +kernel
theorem dX10_factor_28 : decode cX10_factor 28 = .ok (.getfield 327, 3) := by decide +kernel
theorem dX10_factor_31 : decode cX10_factor 31 = .ok (.goto 10, 3) := by decide +kernel
theorem dX10_factor_34 : decode cX10_factor 34 = .ok (.aload_n 0, 1) := by decide +kernel
theorem dX10_factor_35 : decode cX10_factor 35 = .ok (.getfield 84, 3) := by decide +kernel
theorem dX10_factor_38 : decode cX10_factor 38 = .ok (.getfield 330, 3) := by decide +kernel
theorem dX10_factor_41 : decode cX10_factor 41 = .ok (.ireturn, 1) := by decide +kernel
theorem dX10_laid_0 : decode cX10_laid 0 = .ok (.aload_n 0, 1) := by decide +kernel
theorem dX10_laid_1 : decode cX10_laid 1 = .ok (.iload_n 1, 1) := by decide +kernel
theorem dX10_laid_2 : decode cX10_laid 2 = .ok (.invokevirtual 261, 3) := by decide +kernel
theorem dX10_laid_5 : decode cX10_laid 5 = .ok (.aload_n 0, 1) := by decide +kernel
theorem dX10_laid_6 : decode cX10_laid 6 = .ok (.iload_n 2, 1) := by decide +kernel
theorem dX10_laid_7 : decode cX10_laid 7 = .ok (.invokevirtual 261, 3) := by decide +kernel
theorem dX10_laid_10 : decode cX10_laid 10 = .ok (.iload 5, 2) := by decide +kernel
theorem dX10_laid_12 : decode cX10_laid 12 = .ok (.iconst 2, 1) := by decide +kernel
theorem dX10_laid_13 : decode cX10_laid 13 = .ok (.invokestatic 140, 3) := by decide +kernel
theorem dX10_laid_16 : decode cX10_laid 16 = .ok (.iload_n 3, 1) := by decide +kernel
theorem dX10_laid_17 : decode cX10_laid 17 = .ok (.iload 4, 2) := by decide +kernel
theorem dX10_laid_19 : decode cX10_laid 19 = .ok (.invokestatic 222, 3) := by decide +kernel
theorem dX10_laid_22 : decode cX10_laid 22 = .ok (.aload_n 0, 1) := by decide +kernel
theorem dX10_laid_23 : decode cX10_laid 23 = .ok (.getfield 88, 3) := by decide +kernel
theorem dX10_laid_26 : decode cX10_laid 26 = .ok (.iconst 0, 1) := by decide +kernel
theorem dX10_laid_27 : decode cX10_laid 27 = .ok (.invokestatic 225, 3) := by decide +kernel
theorem dX10_laid_30 : decode cX10_laid 30 = .ok (.aload_n 0, 1) := by decide +kernel
theorem dX10_laid_31 : decode cX10_laid 31 = .ok (.iload_n 1, 1) := by decide +kernel
theorem dX10_laid_32 : decode cX10_laid 32 = .ok (.iload_n 3, 1) := by decide +kernel
theorem dX10_laid_33 : decode cX10_laid 33 = .ok (.iload 4, 2) := by decide +kernel
theorem dX10_laid_35 : decode cX10_laid 35 = .ok (.iconst 1, 1) := by decide +kernel
theorem dX10_laid_36 : decode cX10_laid 36 = .ok (.invokevirtual 333, 3) := by decide +kernel
theorem dX10_laid_39 : decode cX10_laid 39 = .ok (.aload_n 0, 1) := by decide +kernel
theorem dX10_laid_40 : decode cX10_laid 40 = .ok (.iload_n 2, 1) := by decide +kernel
theorem dX10_laid_41 : decode cX10_laid 41 = .ok (.iload_n 3, 1) := by decide +kernel
theorem dX10_laid_42 : decode cX10_laid 42 = .ok (.iload 4, 2) := by decide +kernel
theorem dX10_laid_44 : decode cX10_laid 44 = .ok (.iconst 2, 1) := by decide +kernel
theorem dX10_laid_45 : decode cX10_laid 45 = .ok (.invokevirtual 333, 3) := by decide +kernel
theorem dX10_laid_48 : decode cX10_laid 48 = .ok (.aload_n 0, 1) := by decide +kernel
theorem dX10_laid_49 : decode cX10_laid 49 = .ok (.iload 5, 2) := by decide +kernel
theorem dX10_laid_51 : decode cX10_laid 51 = .ok (.ifCond .ne 7, 3) := by decide +kernel
theorem dX10_laid_54 : decode cX10_laid 54 = .ok (.iconst 3, 1) := by decide +kernel
theorem dX10_laid_55 : decode cX10_laid 55 = .ok (.goto 5, 3) := by decide +kernel
theorem dX10_laid_58 : decode cX10_laid 58 = .ok (.iload 5, 2) := by decide +kernel
theorem dX10_laid_60 : decode cX10_laid 60 = .ok (.invokevirtual 235, 3) := by decide +kernel
theorem dX10_laid_63 : decode cX10_laid 63 = .ok (.ireturn, 1) := by decide +kernel
theorem dX10_evening_0 : decode cX10_evening 0 = .ok (.iload_n 1, 1) := by decide +kernel
theorem dX10_evening_1 : decode cX10_evening 1 = .ok (.iconst 1, 1) := by decide +kernel
theorem dX10_evening_2 : decode cX10_evening 2 = .ok (.iconst 1, 1) := by decide +kernel
theorem dX10_evening_3 : decode cX10_evening 3 = .ok (.aload_n 0, 1) := by decide +kernel
theorem dX10_evening_4 : decode cX10_evening 4 = .ok (.getfield 32, 3) := by decide +kernel
theorem dX10_evening_7 : decode cX10_evening 7 = .ok (.getfield 178, 3) := by decide +kernel
theorem dX10_evening_10 : decode cX10_evening 10 = .ok (.ishl, 1) := by decide +kernel
theorem dX10_evening_11 : decode cX10_evening 11 = .ok (.iconst 1, 1) := by decide +kernel
theorem dX10_evening_12 : decode cX10_evening 12 = .ok (.isub, 1) := by decide +kernel
theorem dX10_evening_13 : decode cX10_evening 13 = .ok (.invokestatic 284, 3) := by decide +kernel
theorem dX10_evening_16 : decode cX10_evening 16 = .ok (.aload_n 0, 1) := by decide +kernel
theorem dX10_evening_17 : decode cX10_evening 17 = .ok (.getfield 77, 3) := by decide +kernel
theorem dX10_evening_20 : decode cX10_evening 20 = .ok (.iload_n 1, 1) := by decide +kernel
theorem dX10_evening_21 : decode cX10_evening 21 = .ok (.aload_n 0, 1) := by decide +kernel
theorem dX10_evening_22 : decode cX10_evening 22 = .ok (.getfield 32, 3) := by decide +kernel
theorem dX10_evening_25 : decode cX10_evening 25 = .ok (.aload_n 0, 1) := by decide +kernel
theorem dX10_evening_26 : decode cX10_evening 26 = .ok (.getfield 19, 3) := by decide +kernel
theorem dX10_evening_29 : decode cX10_evening 29 = .ok (.getfield 196, 3) := by decide +kernel
theorem dX10_evening_32 : decode cX10_evening 32 = .ok (.invokevirtual 337, 3) := by decide +kernel
theorem dX10_evening_35 : decode cX10_evening 35 = .ok (.ireturn, 1) := by decide +kernel
theorem dX10_drawing_0 : decode cX10_drawing 0 = .ok (.aload_n 0, 1) := by decide +kernel
theorem dX10_drawing_1 : decode cX10_drawing 1 = .ok (.getfield 77, 3) := by decide +kernel
theorem dX10_drawing_4 : decode cX10_drawing 4 = .ok (.getfield 341, 3) := by decide +kernel
theorem dX10_drawing_7 : decode cX10_drawing 7 = .ok (.ifCond .eq 19, 3) := by decide +kernel
theorem dX10_drawing_10 : decode cX10_drawing 10 = .ok (.iload_n 1, 1) := by decide +kernel
theorem dX10_drawing_11 : decode cX10_drawing 11 = .ok (.iconst (-1), 1) := by decide +kernel
theorem dX10_drawing_12 : decode cX10_drawing 12 = .ok (.if_icmp .lt 14, 3) := by decide +kernel
theorem dX10_drawing_15 : decode cX10_drawing 15 = .ok (.iload_n 1, 1) := by decide +kernel
theorem dX10_drawing_16 : decode cX10_drawing 16 = .ok (.aload_n 0, 1) := by decide +kernel
theorem dX10_drawing_17 : decode cX10_drawing 17 = .ok (.getfield 77, 3) := by decide +kernel
theorem dX10_drawing_20 : decode cX10_drawing 20 = .ok (.getfield 341, 3) := by decide +kernel
theorem dX10_drawing_23 : decode cX10_drawing 23 = .ok (.if_icmp .lt 14, 3) := by decide +kernel
theorem dX10_drawing_26 : decode cX10_drawing 26 = .ok (.new 342, 3) := by decide +kernel
theorem dX10_drawing_29 : decode cX10_drawing 29 = .ok (.dup, 1) := by decide +kernel
theorem dX10_drawing_30 : decode cX10_drawing 30 = .ok (.ldc_w 344, 3) := by decide +kernel
theorem dX10_drawing_33 : decode cX10_drawing 33 = .ok (.invokespecial 346, 3) := by decide +kernel
theorem dX10_drawing_36 : decode cX10_drawing 36 = .ok (.athrow, 1) := by decide +kernel
theorem dX10_drawing_37 : decode cX10_drawing 37 = .ok (.iload_n 1, 1) := by decide +kernel
theorem dX10_drawing_38 : decode cX10_drawing 38 = .ok (.iconst (-1), 1) := by decide +kernel
theorem dX10_drawing_39 : decode cX10_drawing 39 = .ok (.if_icmp .ne 13, 3) := by decide +kernel
theorem dX10_drawing_42 : decode cX10_drawing 42 = .ok (.aload_n 0, 1) := by decide +kernel
theorem dX10_drawing_43 : decode cX10_drawing 43 = .ok (.getfield 77, 3) := by decide +kernel
theorem dX10_drawing_46 : decode cX10_drawing 46 = .ok (.getfield 349, 3) := by decide +kernel
theorem dX10_drawing_49 : decode cX10_drawing 49 = .ok (.goto 12, 3) := by decide +kernel
theorem dX10_drawing_52 : decode cX10_drawing 52 = .ok (.aload_n 0, 1) := by decide +kernel
theorem dX10_drawing_53 : decode cX10_drawing 53 = .ok (.getfield 77, 3) := by decide +kernel
theorem dX10_drawing_56 : decode cX10_drawing 56 = .ok (.getfield 352, 3) := by decide +kernel
theorem dX10_drawing_59 : decode cX10_drawing 59 = .ok (.iload_n 1, 1) := by decide +kernel
theorem dX10_drawing_60 : decode cX10_drawing 60 = .ok (.iaload, 1) := by decide +kernel
theorem dX10_drawing_61 : decode cX10_drawing 61 = .ok (.ireturn, 1) := by decide +kernel
theorem dX10_image_0 : decode cX10_image 0 = .ok (.aload_n 0, 1) := by decide +kernel
theorem dX10_image_1 : decode cX10_image 1 = .ok (.getfield 19, 3) := by decide +kernel
theorem dX10_image_4 : decode cX10_image 4 = .ok (.getfield 196, 3) := by decide +kernel
theorem dX10_image_7 : decode cX10_image 7 = .ok (.iconst 0, 1) := by decide +kernel
theorem dX10_image_8 : decode cX10_image 8 = .ok (.aload_n 0, 1) := by decide +kernel
theorem dX10_image_9 : decode cX10_image 9 = .ok (.getfield 32, 3) := by decide +kernel
theorem dX10_image_12 : decode cX10_image 12 = .ok (.getfield 355, 3) := by decide +kernel
theorem dX10_image_15 : decode cX10_image 15 = .ok (.iconst 0, 1) := by decide +kernel
theorem dX10_image_16 : decode cX10_image 16 = .ok (.bipush 12, 2) := by decide +kernel
theorem dX10_image_18 : decode cX10_image 18 = .ok (.invokestatic 255, 3) := by decide +kernel
theorem dX10_image_21 : decode cX10_image 21 = .ok (.aload_n 0, 1) := by decide +kernel
theorem dX10_image_22 : decode cX10_image 22 = .ok (.getfield 36, 3) := by decide +kernel
theorem dX10_image_25 : decode cX10_image 25 = .ok (.aload_n 0, 1) := by decide +kernel
theorem dX10_image_26 : decode cX10_image 26 = .ok (.getfield 32, 3) := by decide +kernel
theorem dX10_image_29 : decode cX10_image 29 = .ok (.invokevirtual 356, 3) := by decide +kernel
theorem dX10_image_32 : decode cX10_image 32 = .ok (.aload_n 0, 1) := by decide +kernel
theorem dX10_image_33 : decode cX10_image 33 = .ok (.iconst 1, 1) := by decide +kernel
theorem dX10_image_34 : decode cX10_image 34 = .ok (.putfield 39, 3) := by decide +kernel
theorem dX10_image_37 : decode cX10_image 37 = .ok (.return_, 1) := by decide +kernel
theorem dX10_restore_0 : decode cX10_restore 0 = .ok (.aload_n 0, 1) := by decide +kernel
theorem dX10_restore_1 : decode cX10_restore 1 = .ok (.getfield 39, 3) := by decide +kernel
theorem dX10_restore_4 : decode cX10_restore 4 = .ok (.ifCond .ne 5, 3) := by decide +kernel
theorem dX10_restore_7 : decode cX10_restore 7 = .ok (.iconst 0, 1) := by decide +kernel
theorem dX10_restore_8 : decode cX10_restore 8 = .ok (.ireturn, 1) := by decide +kernel
theorem dX10_restore_9 : decode cX10_restore 9 = .ok (.aload_n 0, 1) := by decide +kernel
theorem dX10_restore_10 : decode cX10_restore 10 = .ok (.getfield 32, 3) := by decide +kernel
theorem dX10_restore_13 : decode cX10_restore 13 = .ok (.aload_n 0, 1) := by decide +kernel
theorem dX10_restore_14 : decode cX10_restore 14 = .ok (.getfield 36, 3) := by decide +kernel
theorem dX10_restore_17 : decode cX10_restore 17 = .ok (.invokevirtual 356, 3) := by decide +kernel
theorem dX10_restore_20 : decode cX10_restore 20 = .ok (.aload_n 0, 1) := by decide +kernel
theorem dX10_restore_21 : decode cX10_restore 21 = .ok (.getfield 32, 3) := by decide +kernel
theorem dX10_restore_24 : decode cX10_restore 24 = .ok (.getfield 355, 3) := by decide +kernel
theorem dX10_restore_27 : decode cX10_restore 27 = .ok (.iconst 0, 1) := by decide +kernel
theorem dX10_restore_28 : decode cX10_restore 28 = .ok (.aload_n 0, 1) := by decide +kernel
theorem dX10_restore_29 : decode cX10_restore 29 = .ok (.getfield 19, 3) := by decide +kernel
theorem dX10_restore_32 : decode cX10_restore 32 = .ok (.getfield 196, 3) := by decide +kernel
theorem dX10_restore_35 : decode cX10_restore 35 = .ok (.iconst 0, 1) := by decide +kernel
theorem dX10_restore_36 : decode cX10_restore 36 = .ok (.bipush 12, 2) := by decide +kernel
theorem dX10_restore_38 : decode cX10_restore 38 = .ok (.invokestatic 255, 3) := by decide +kernel
theorem dX10_restore_41 : decode cX10_restore 41 = .ok (.aload_n 0, 1) := by decide +kernel
theorem dX10_restore_42 : decode cX10_restore 42 = .ok (.dup, 1) := by decide +kernel
theorem dX10_restore_43 : decode cX10_restore 43 = .ok (.getfield 95, 3) := by decide +kernel
theorem dX10_restore_46 : decode cX10_restore 46 = .ok (.iconst 1, 1) := by decide +kernel
theorem dX10_restore_47 : decode cX10_restore 47 = .ok (.iadd, 1) := by decide +kernel
theorem dX10_restore_48 : decode cX10_restore 48 = .ok (.putfield 95, 3) := by decide +kernel
theorem dX10_restore_51 : decode cX10_restore 51 = .ok (.iconst 1, 1) := by decide +kernel
theorem dX10_restore_52 : decode cX10_restore 52 = .ok (.ireturn, 1) := by decide +kernel
theorem dX10_endOfText_0 : decode cX10_endOfText 0 = .ok (.aload_n 0, 1) := by decide +kernel
theorem dX10_endOfText_1 : decode cX10_endOfText 1 = .ok (.getfield 12, 3) := by decide +kernel
theorem dX10_endOfText_4 : decode cX10_endOfText 4 = .ok (.iconst 0, 1) := by decide +kernel
theorem dX10_endOfText_5 : decode cX10_endOfText 5 = .ok (.putfield 107, 3) := by decide +kernel
theorem dX10_endOfText_8 : decode cX10_endOfText 8 = .ok (.aload_n 0, 1) := by decide +kernel
theorem dX10_endOfText_9 : decode cX10_endOfText 9 = .ok (.dup, 1) := by decide +kernel
theorem dX10_endOfText_10 : decode cX10_endOfText 10 = .ok (.getfield 95, 3) := by decide +kernel
theorem dX10_endOfText_13 : decode cX10_endOfText 13 = .ok (.iconst 1, 1) := by decide +kernel
theorem dX10_endOfText_14 : decode cX10_endOfText 14 = .ok (.iadd, 1) := by decide +kernel
theorem dX10_endOfText_15 : decode cX10_endOfText 15 = .ok (.putfield 95, 3) := by decide +kernel
theorem dX10_endOfText_18 : decode cX10_endOfText 18 = .ok (.aload_n 0, 1) := by decide +kernel
theorem dX10_endOfText_19 : decode cX10_endOfText 19 = .ok (.getfield 12, 3) := by decide +kernel
theorem dX10_endOfText_22 : decode cX10_endOfText 22 = .ok (.getfield 359, 3) := by decide +kernel
theorem dX10_endOfText_25 : decode cX10_endOfText 25 = .ok (.ifCond .eq 13, 3) := by decide +kernel
theorem dX10_endOfText_28 : decode cX10_endOfText 28 = .ok (.aload_n 0, 1) := by decide +kernel
theorem dX10_endOfText_29 : decode cX10_endOfText 29 = .ok (.getfield 92, 3) := by decide +kernel
theorem dX10_endOfText_32 : decode cX10_endOfText 32 = .ok (.iconst 0, 1) := by decide +kernel
theorem dX10_endOfText_33 : decode cX10_endOfText 33 = .ok (.dup2, 1) := by decide +kernel
theorem dX10_endOfText_34 : decode cX10_endOfText 34 = .ok (.iaload, 1) := by decide +kernel
theorem dX10_endOfText_35 : decode cX10_endOfText 35 = .ok (.iconst 1, 1) := by decide +kernel
theorem dX10_endOfText_36 : decode cX10_endOfText 36 = .ok (.iadd, 1) := by decide +kernel
theorem dX10_endOfText_37 : decode cX10_endOfText 37 = .ok (.iastore, 1) := by decide +kernel
theorem dX10_endOfText_38 : decode cX10_endOfText 38 = .ok (.aload_n 0, 1) := by decide +kernel
theorem dX10_endOfText_39 : decode cX10_endOfText 39 = .ok (.getfield 12, 3) := by decide +kernel
theorem dX10_endOfText_42 : decode cX10_endOfText 42 = .ok (.getfield 359, 3) := by decide +kernel
theorem dX10_endOfText_45 : decode cX10_endOfText 45 = .ok (.ireturn, 1) := by decide +kernel
theorem dX10_refuse_0 : decode cX10_refuse 0 = .ok (.aload_n 0, 1) := by decide +kernel
theorem dX10_refuse_1 : decode cX10_refuse 1 = .ok (.getfield 92, 3) := by decide +kernel
theorem dX10_refuse_4 : decode cX10_refuse 4 = .ok (.iload_n 1, 1) := by decide +kernel
theorem dX10_refuse_5 : decode cX10_refuse 5 = .ok (.dup2, 1) := by decide +kernel
theorem dX10_refuse_6 : decode cX10_refuse 6 = .ok (.iaload, 1) := by decide +kernel
theorem dX10_refuse_7 : decode cX10_refuse 7 = .ok (.iconst 1, 1) := by decide +kernel
theorem dX10_refuse_8 : decode cX10_refuse 8 = .ok (.iadd, 1) := by decide +kernel
theorem dX10_refuse_9 : decode cX10_refuse 9 = .ok (.iastore, 1) := by decide +kernel
theorem dX10_refuse_10 : decode cX10_refuse 10 = .ok (.iconst (-1), 1) := by decide +kernel
theorem dX10_refuse_11 : decode cX10_refuse 11 = .ok (.ireturn, 1) := by decide +kernel
theorem dX10_takeInto_0 : decode cX10_takeInto 0 = .ok (.aload_n 0, 1) := by decide +kernel
theorem dX10_takeInto_1 : decode cX10_takeInto 1 = .ok (.getfield 32, 3) := by decide +kernel
theorem dX10_takeInto_4 : decode cX10_takeInto 4 = .ok (.getfield 252, 3) := by decide +kernel
theorem dX10_takeInto_7 : decode cX10_takeInto 7 = .ok (.bipush 12, 2) := by decide +kernel
theorem dX10_takeInto_9 : decode cX10_takeInto 9 = .ok (.iload_n 1, 1) := by decide +kernel
theorem dX10_takeInto_10 : decode cX10_takeInto 10 = .ok (.imul, 1) := by decide +kernel
theorem dX10_takeInto_11 : decode cX10_takeInto 11 = .ok (.aload_n 2, 1) := by decide +kernel
theorem dX10_takeInto_12 : decode cX10_takeInto 12 = .ok (.getfield 196, 3) := by decide +kernel
theorem dX10_takeInto_15 : decode cX10_takeInto 15 = .ok (.iconst 0, 1) := by decide +kernel
theorem dX10_takeInto_16 : decode cX10_takeInto 16 = .ok (.bipush 12, 2) := by decide +kernel
theorem dX10_takeInto_18 : decode cX10_takeInto 18 = .ok (.invokestatic 255, 3) := by decide +kernel
theorem dX10_takeInto_21 : decode cX10_takeInto 21 = .ok (.return_, 1) := by decide +kernel
theorem dX10_copyWith_0 : decode cX10_copyWith 0 = .ok (.aload_n 2, 1) := by decide +kernel
theorem dX10_copyWith_1 : decode cX10_copyWith 1 = .ok (.aload_n 0, 1) := by decide +kernel
theorem dX10_copyWith_2 : decode cX10_copyWith 2 = .ok (.getfield 19, 3) := by decide +kernel
theorem dX10_copyWith_5 : decode cX10_copyWith 5 = .ok (.invokevirtual 122, 3) := by decide +kernel
theorem dX10_copyWith_8 : decode cX10_copyWith 8 = .ok (.aload_n 0, 1) := by decide +kernel
theorem dX10_copyWith_9 : decode cX10_copyWith 9 = .ok (.iload_n 1, 1) := by decide +kernel
theorem dX10_copyWith_10 : decode cX10_copyWith 10 = .ok (.aload_n 2, 1) := by decide +kernel
theorem dX10_copyWith_11 : decode cX10_copyWith 11 = .ok (.invokevirtual 264, 3) := by decide +kernel
theorem dX10_copyWith_14 : decode cX10_copyWith 14 = .ok (.return_, 1) := by decide +kernel
theorem dX10_compare_0 : decode cX10_compare 0 = .ok (.aload_n 0, 1) := by decide +kernel
theorem dX10_compare_1 : decode cX10_compare 1 = .ok (.iload_n 1, 1) := by decide +kernel
theorem dX10_compare_2 : decode cX10_compare 2 = .ok (.aload_n 0, 1) := by decide +kernel
theorem dX10_compare_3 : decode cX10_compare 3 = .ok (.getfield 23, 3) := by decide +kernel
theorem dX10_compare_6 : decode cX10_compare 6 = .ok (.invokevirtual 362, 3) := by decide +kernel
theorem dX10_compare_9 : decode cX10_compare 9 = .ok (.aload_n 0, 1) := by decide +kernel
theorem dX10_compare_10 : decode cX10_compare 10 = .ok (.iload_n 2, 1) := by decide +kernel
theorem dX10_compare_11 : decode cX10_compare 11 = .ok (.aload_n 0, 1) := by decide +kernel
theorem dX10_compare_12 : decode cX10_compare 12 = .ok (.getfield 26, 3) := by decide +kernel
theorem dX10_compare_15 : decode cX10_compare 15 = .ok (.invokevirtual 362, 3) := by decide +kernel
theorem dX10_compare_18 : decode cX10_compare 18 = .ok (.aload_n 0, 1) := by decide +kernel
theorem dX10_compare_19 : decode cX10_compare 19 = .ok (.getfield 26, 3) := by decide +kernel
theorem dX10_compare_22 : decode cX10_compare 22 = .ok (.invokevirtual 241, 3) := by decide +kernel
theorem dX10_compare_25 : decode cX10_compare 25 = .ok (.sipush 5040, 3) := by decide +kernel
theorem dX10_compare_28 : decode cX10_compare 28 = .ok (.if_icmp .le 6, 3) := by decide +kernel
theorem dX10_compare_31 : decode cX10_compare 31 = .ok (.bipush (-2), 2) := by decide +kernel
theorem dX10_compare_33 : decode cX10_compare 33 = .ok (.ireturn, 1) := by decide +kernel
theorem dX10_compare_34 : decode cX10_compare 34 = .ok (.aload_n 0, 1) := by decide +kernel
theorem dX10_compare_35 : decode cX10_compare 35 = .ok (.getfield 63, 3) := by decide +kernel
theorem dX10_compare_38 : decode cX10_compare 38 = .ok (.aload_n 0, 1) := by decide +kernel
theorem dX10_compare_39 : decode cX10_compare 39 = .ok (.getfield 23, 3) := by decide +kernel
theorem dX10_compare_42 : decode cX10_compare 42 = .ok (.aload_n 0, 1) := by decide +kernel
theorem dX10_compare_43 : decode cX10_compare 43 = .ok (.getfield 26, 3) := by decide +kernel
theorem dX10_compare_46 : decode cX10_compare 46 = .ok (.invokevirtual 365, 3) := by decide +kernel
theorem dX10_compare_49 : decode cX10_compare 49 = .ok (.ifCond .eq 7, 3) := by decide +kernel
theorem dX10_compare_52 : decode cX10_compare 52 = .ok (.iconst 1, 1) := by decide +kernel
theorem dX10_compare_53 : decode cX10_compare 53 = .ok (.goto 4, 3) := by decide +kernel
theorem dX10_compare_56 : decode cX10_compare 56 = .ok (.iconst 0, 1) := by decide +kernel
theorem dX10_compare_57 : decode cX10_compare 57 = .ok (.ireturn, 1) := by decide +kernel
theorem dX10_leastOfKind_0 : decode cX10_leastOfKind 0 = .ok (.iconst 0, 1) := by decide +kernel
theorem dX10_leastOfKind_1 : decode cX10_leastOfKind 1 = .ok (.istore_n 2, 1) := by decide +kernel
theorem dX10_leastOfKind_2 : decode cX10_leastOfKind 2 = .ok (.iload_n 2, 1) := by decide +kernel
theorem dX10_leastOfKind_3 : decode cX10_leastOfKind 3 = .ok (.iload_n 1, 1) := by decide +kernel
theorem dX10_leastOfKind_4 : decode cX10_leastOfKind 4 = .ok (.if_icmp .ge 21, 3) := by decide +kernel
theorem dX10_leastOfKind_7 : decode cX10_leastOfKind 7 = .ok (.aload_n 0, 1) := by decide +kernel
theorem dX10_leastOfKind_8 : decode cX10_leastOfKind 8 = .ok (.iload_n 2, 1) := by decide +kernel
theorem dX10_leastOfKind_9 : decode cX10_leastOfKind 9 = .ok (.iload_n 1, 1) := by decide +kernel
theorem dX10_leastOfKind_10 : decode cX10_leastOfKind 10 = .ok (.invokevirtual 268, 3) := by decide +kernel
theorem dX10_leastOfKind_13 : decode cX10_leastOfKind 13 = .ok (.iconst 1, 1) := by decide +kernel
theorem dX10_leastOfKind_14 : decode cX10_leastOfKind 14 = .ok (.if_icmp .ne 5, 3) := by decide +kernel
theorem dX10_leastOfKind_17 : decode cX10_leastOfKind 17 = .ok (.iload_n 2, 1) := by decide +kernel
theorem dX10_leastOfKind_18 : decode cX10_leastOfKind 18 = .ok (.ireturn, 1) := by decide +kernel
theorem dX10_leastOfKind_19 : decode cX10_leastOfKind 19 = .ok (.iinc 2 1, 3) := by decide +kernel
theorem dX10_leastOfKind_22 : decode cX10_leastOfKind 22 = .ok (.goto (-20), 3) := by decide +kernel
theorem dX10_leastOfKind_25 : decode cX10_leastOfKind 25 = .ok (.iload_n 1, 1) := by decide +kernel
theorem dX10_leastOfKind_26 : decode cX10_leastOfKind 26 = .ok (.ireturn, 1) := by decide +kernel
theorem dX10_markSeen_0 : decode cX10_markSeen 0 = .ok (.iload_n 2, 1) := by decide +kernel
theorem dX10_markSeen_1 : decode cX10_markSeen 1 = .ok (.istore 5, 2) := by decide +kernel
theorem dX10_markSeen_3 : decode cX10_markSeen 3 = .ok (.iload 5, 2) := by decide +kernel
theorem dX10_markSeen_5 : decode cX10_markSeen 5 = .ok (.iload_n 3, 1) := by decide +kernel
theorem dX10_markSeen_6 : decode cX10_markSeen 6 = .ok (.if_icmp .gt 37, 3) := by decide +kernel
theorem dX10_markSeen_9 : decode cX10_markSeen 9 = .ok (.aload_n 1, 1) := by decide +kernel
theorem dX10_markSeen_10 : decode cX10_markSeen 10 = .ok (.iload 5, 2) := by decide +kernel
theorem dX10_markSeen_12 : decode cX10_markSeen 12 = .ok (.invokevirtual 238, 3) := by decide +kernel
theorem dX10_markSeen_15 : decode cX10_markSeen 15 = .ok (.istore 6, 2) := by decide +kernel
theorem dX10_markSeen_17 : decode cX10_markSeen 17 = .ok (.iload 6, 2) := by decide +kernel
theorem dX10_markSeen_19 : decode cX10_markSeen 19 = .ok (.invokestatic 369, 3) := by decide +kernel
theorem dX10_markSeen_22 : decode cX10_markSeen 22 = .ok (.ifCond .eq 15, 3) := by decide +kernel
theorem dX10_markSeen_25 : decode cX10_markSeen 25 = .ok (.aload_n 0, 1) := by decide +kernel
theorem dX10_markSeen_26 : decode cX10_markSeen 26 = .ok (.getfield 88, 3) := by decide +kernel
theorem dX10_markSeen_29 : decode cX10_markSeen 29 = .ok (.iload 6, 2) := by decide +kernel
theorem dX10_markSeen_31 : decode cX10_markSeen 31 = .ok (.dup2, 1) := by decide +kernel
theorem dX10_markSeen_32 : decode cX10_markSeen 32 = .ok (.iaload, 1) := by decide +kernel
theorem dX10_markSeen_33 : decode cX10_markSeen 33 = .ok (.iload 4, 2) := by decide +kernel
theorem dX10_markSeen_35 : decode cX10_markSeen 35 = .ok (.ior, 1) := by decide +kernel
theorem dX10_markSeen_36 : decode cX10_markSeen 36 = .ok (.iastore, 1) := by decide +kernel
theorem dX10_markSeen_37 : decode cX10_markSeen 37 = .ok (.iinc 5 1, 3) := by decide +kernel
theorem dX10_markSeen_40 : decode cX10_markSeen 40 = .ok (.goto (-37), 3) := by decide +kernel
theorem dX10_markSeen_43 : decode cX10_markSeen 43 = .ok (.return_, 1) := by decide +kernel
theorem dX10_markPortrait_0 : decode cX10_markPortrait 0 = .ok (.aload_n 0, 1) := by decide +kernel
theorem dX10_markPortrait_1 : decode cX10_markPortrait 1 = .ok (.iload_n 1, 1) := by decide +kernel
theorem dX10_markPortrait_2 : decode cX10_markPortrait 2 = .ok (.aload_n 0, 1) := by decide +kernel
theorem dX10_markPortrait_3 : decode cX10_markPortrait 3 = .ok (.getfield 23, 3) := by decide +kernel
theorem dX10_markPortrait_6 : decode cX10_markPortrait 6 = .ok (.invokevirtual 362, 3) := by decide +kernel
theorem dX10_markPortrait_9 : decode cX10_markPortrait 9 = .ok (.aload_n 0, 1) := by decide +kernel
theorem dX10_markPortrait_10 : decode cX10_markPortrait 10 = .ok (.getfield 23, 3) := by decide +kernel
theorem dX10_markPortrait_13 : decode cX10_markPortrait 13 = .ok (.iconst 0, 1) := by decide +kernel
theorem dX10_markPortrait_14 : decode cX10_markPortrait 14 = .ok (.putfield 175, 3) := by decide +kernel
theorem dX10_markPortrait_17 : decode cX10_markPortrait 17 = .ok (.aload_n 0, 1) := by decide +kernel
theorem dX10_markPortrait_18 : decode cX10_markPortrait 18 = .ok (.aload_n 0, 1) := by decide +kernel
theorem dX10_markPortrait_19 : decode cX10_markPortrait 19 = .ok (.getfield 23, 3) := by decide +kernel
theorem dX10_markPortrait_22 : decode cX10_markPortrait 22 = .ok (.iload_n 2, 1) := by decide +kernel
theorem dX10_markPortrait_23 : decode cX10_markPortrait 23 = .ok (.iload_n 3, 1) := by decide +kernel
theorem dX10_markPortrait_24 : decode cX10_markPortrait 24 = .ok (.iload 4, 2) := by decide +kernel
theorem dX10_markPortrait_26 : decode cX10_markPortrait 26 = .ok (.invokevirtual 231, 3) := by decide +kernel
theorem dX10_markPortrait_29 : decode cX10_markPortrait 29 = .ok (.return_, 1) := by decide +kernel
theorem dX10_cellsSeen_0 : decode cX10_cellsSeen 0 = .ok (.iconst 0, 1) := by decide +kernel
theorem dX10_cellsSeen_1 : decode cX10_cellsSeen 1 = .ok (.istore_n 2, 1) := by decide +kernel
theorem dX10_cellsSeen_2 : decode cX10_cellsSeen 2 = .ok (.iconst 0, 1) := by decide +kernel
theorem dX10_cellsSeen_3 : decode cX10_cellsSeen 3 = .ok (.istore_n 3, 1) := by decide +kernel
theorem dX10_cellsSeen_4 : decode cX10_cellsSeen 4 = .ok (.iload_n 3, 1) := by decide +kernel
theorem dX10_cellsSeen_5 : decode cX10_cellsSeen 5 = .ok (.sipush 729, 3) := by decide +kernel
theorem dX10_cellsSeen_8 : decode cX10_cellsSeen 8 = .ok (.if_icmp .ge 22, 3) := by decide +kernel
theorem dX10_cellsSeen_11 : decode cX10_cellsSeen 11 = .ok (.aload_n 0, 1) := by decide +kernel
theorem dX10_cellsSeen_12 : decode cX10_cellsSeen 12 = .ok (.getfield 88, 3) := by decide +kernel
theorem dX10_cellsSeen_15 : decode cX10_cellsSeen 15 = .ok (.iload_n 3, 1) := by decide +kernel
theorem dX10_cellsSeen_16 : decode cX10_cellsSeen 16 = .ok (.iaload, 1) := by decide +kernel
theorem dX10_cellsSeen_17 : decode cX10_cellsSeen 17 = .ok (.iload_n 1, 1) := by decide +kernel
theorem dX10_cellsSeen_18 : decode cX10_cellsSeen 18 = .ok (.if_icmp .ne 6, 3) := by decide +kernel
theorem dX10_cellsSeen_21 : decode cX10_cellsSeen 21 = .ok (.iinc 2 1, 3) := by decide +kernel
theorem dX10_cellsSeen_24 : decode cX10_cellsSeen 24 = .ok (.iinc 3 1, 3) := by decide +kernel
theorem dX10_cellsSeen_27 : decode cX10_cellsSeen 27 = .ok (.goto (-23), 3) := by decide +kernel
theorem dX10_cellsSeen_30 : decode cX10_cellsSeen 30 = .ok (.iload_n 2, 1) := by decide +kernel
theorem dX10_cellsSeen_31 : decode cX10_cellsSeen 31 = .ok (.ireturn, 1) := by decide +kernel
theorem dX10_needBytes_0 : decode cX10_needBytes 0 = .ok (.iload_n 1, 1) := by decide +kernel
theorem dX10_needBytes_1 : decode cX10_needBytes 1 = .ok (.ifCond .lt 14, 3) := by decide +kernel
theorem dX10_needBytes_4 : decode cX10_needBytes 4 = .ok (.iload_n 1, 1) := by decide +kernel
theorem dX10_needBytes_5 : decode cX10_needBytes 5 = .ok (.aload_n 0, 1) := by decide +kernel
theorem dX10_needBytes_6 : decode cX10_needBytes 6 = .ok (.getfield 12, 3) := by decide +kernel
theorem dX10_needBytes_9 : decode cX10_needBytes 9 = .ok (.getfield 107, 3) := by decide +kernel
theorem dX10_needBytes_12 : decode cX10_needBytes 12 = .ok (.if_icmp .le 14, 3) := by decide +kernel
theorem dX10_needBytes_15 : decode cX10_needBytes 15 = .ok (.new 372, 3) := by decide +kernel
theorem dX10_needBytes_18 : decode cX10_needBytes 18 = .ok (.dup, 1) := by decide +kernel
theorem dX10_needBytes_19 : decode cX10_needBytes 19 = .ok (.ldc_w 374, 3) := by decide +kernel
theorem dX10_needBytes_22 : decode cX10_needBytes 22 = .ok (.invokespecial 376, 3) := by decide +kernel
theorem dX10_needBytes_25 : decode cX10_needBytes 25 = .ok (.athrow, 1) := by decide +kernel
theorem dX10_needBytes_26 : decode cX10_needBytes 26 = .ok (.return_, 1) := by decide +kernel
theorem dX10_needPortrait_0 : decode cX10_needPortrait 0 = .ok (.iload_n 1, 1) := by decide +kernel
theorem dX10_needPortrait_1 : decode cX10_needPortrait 1 = .ok (.ifCond .lt 14, 3) := by decide +kernel
theorem dX10_needPortrait_4 : decode cX10_needPortrait 4 = .ok (.iload_n 1, 1) := by decide +kernel
theorem dX10_needPortrait_5 : decode cX10_needPortrait 5 = .ok (.aload_n 0, 1) := by decide +kernel
theorem dX10_needPortrait_6 : decode cX10_needPortrait 6 = .ok (.getfield 32, 3) := by decide +kernel
theorem dX10_needPortrait_9 : decode cX10_needPortrait 9 = .ok (.getfield 178, 3) := by decide +kernel
theorem dX10_needPortrait_12 : decode cX10_needPortrait 12 = .ok (.if_icmp .lt 14, 3) := by decide +kernel
theorem dX10_needPortrait_15 : decode cX10_needPortrait 15 = .ok (.new 342, 3) := by decide +kernel
theorem dX10_needPortrait_18 : decode cX10_needPortrait 18 = .ok (.dup, 1) := by decide +kernel
theorem dX10_needPortrait_19 : decode cX10_needPortrait 19 = .ok (.ldc_w 377, 3) := by decide +kernel
theorem dX10_needPortrait_22 : decode cX10_needPortrait 22 = .ok (.invokespecial 346, 3) := by decide +kernel
theorem dX10_needPortrait_25 : decode cX10_needPortrait 25 = .ok (.athrow, 1) := by decide +kernel
theorem dX10_needPortrait_26 : decode cX10_needPortrait 26 = .ok (.return_, 1) := by decide +kernel
theorem dX10_needPendulum_0 : decode cX10_needPendulum 0 = .ok (.iload_n 0, 1) := by decide +kernel
theorem dX10_needPendulum_1 : decode cX10_needPendulum 1 = .ok (.ifCond .lt 8, 3) := by decide +kernel
theorem dX10_needPendulum_4 : decode cX10_needPendulum 4 = .ok (.iload_n 0, 1) := by decide +kernel
theorem dX10_needPendulum_5 : decode cX10_needPendulum 5 = .ok (.iconst 4, 1) := by decide +kernel
theorem dX10_needPendulum_6 : decode cX10_needPendulum 6 = .ok (.if_icmp .lt 14, 3) := by decide +kernel
theorem dX10_needPendulum_9 : decode cX10_needPendulum 9 = .ok (.new 342, 3) := by decide +kernel
theorem dX10_needPendulum_12 : decode cX10_needPendulum 12 = .ok (.dup, 1) := by decide +kernel
theorem dX10_needPendulum_13 : decode cX10_needPendulum 13 = .ok (.ldc_w 379, 3) := by decide +kernel
theorem dX10_needPendulum_16 : decode cX10_needPendulum 16 = .ok (.invokespecial 346, 3) := by decide +kernel
theorem dX10_needPendulum_19 : decode cX10_needPendulum 19 = .ok (.athrow, 1) := by decide +kernel
theorem dX10_needPendulum_20 : decode cX10_needPendulum 20 = .ok (.return_, 1) := by decide +kernel
theorem dX10_needWhat_0 : decode cX10_needWhat 0 = .ok (.iload_n 0, 1) := by decide +kernel
theorem dX10_needWhat_1 : decode cX10_needWhat 1 = .ok (.ifCond .lt 8, 3) := by decide +kernel
theorem dX10_needWhat_4 : decode cX10_needWhat 4 = .ok (.iload_n 0, 1) := by decide +kernel
theorem dX10_needWhat_5 : decode cX10_needWhat 5 = .ok (.iload_n 1, 1) := by decide +kernel
theorem dX10_needWhat_6 : decode cX10_needWhat 6 = .ok (.if_icmp .le 14, 3) := by decide +kernel
theorem dX10_needWhat_9 : decode cX10_needWhat 9 = .ok (.new 342, 3) := by decide +kernel
theorem dX10_needWhat_12 : decode cX10_needWhat 12 = .ok (.dup, 1) := by decide +kernel
theorem dX10_needWhat_13 : decode cX10_needWhat 13 = .ok (.ldc_w 381, 3) := by decide +kernel
theorem dX10_needWhat_16 : decode cX10_needWhat 16 = .ok (.invokespecial 346, 3) := by decide +kernel
theorem dX10_needWhat_19 : decode cX10_needWhat 19 = .ok (.athrow, 1) := by decide +kernel
theorem dX10_needWhat_20 : decode cX10_needWhat 20 = .ok (.return_, 1) := by decide +kernel
theorem dX10_needCell_0 : decode cX10_needCell 0 = .ok (.iload_n 0, 1) := by decide +kernel
theorem dX10_needCell_1 : decode cX10_needCell 1 = .ok (.invokestatic 369, 3) := by decide +kernel
theorem dX10_needCell_4 : decode cX10_needCell 4 = .ok (.ifCond .ne 14, 3) := by decide +kernel
theorem dX10_needCell_7 : decode cX10_needCell 7 = .ok (.new 342, 3) := by decide +kernel
theorem dX10_needCell_10 : decode cX10_needCell 10 = .ok (.dup, 1) := by decide +kernel
theorem dX10_needCell_11 : decode cX10_needCell 11 = .ok (.ldc_w 383, 3) := by decide +kernel
theorem dX10_needCell_14 : decode cX10_needCell 14 = .ok (.invokespecial 346, 3) := by decide +kernel
theorem dX10_needCell_17 : decode cX10_needCell 17 = .ok (.athrow, 1) := by decide +kernel
theorem dX10_needCell_18 : decode cX10_needCell 18 = .ok (.return_, 1) := by decide +kernel
theorem dX10_needTick_0 : decode cX10_needTick 0 = .ok (.iload_n 0, 1) := by decide +kernel
theorem dX10_needTick_1 : decode cX10_needTick 1 = .ok (.invokestatic 274, 3) := by decide +kernel
theorem dX10_needTick_4 : decode cX10_needTick 4 = .ok (.ifCond .ne 14, 3) := by decide +kernel
theorem dX10_needTick_7 : decode cX10_needTick 7 = .ok (.new 372, 3) := by decide +kernel
theorem dX10_needTick_10 : decode cX10_needTick 10 = .ok (.dup, 1) := by decide +kernel
theorem dX10_needTick_11 : decode cX10_needTick 11 = .ok (.ldc_w 385, 3) := by decide +kernel
theorem dX10_needTick_14 : decode cX10_needTick 14 = .ok (.invokespecial 376, 3) := by decide +kernel
theorem dX10_needTick_17 : decode cX10_needTick 17 = .ok (.athrow, 1) := by decide +kernel
theorem dX10_needTick_18 : decode cX10_needTick 18 = .ok (.return_, 1) := by decide +kernel
theorem dX10_needSpan_0 : decode cX10_needSpan 0 = .ok (.iload_n 0, 1) := by decide +kernel
theorem dX10_needSpan_1 : decode cX10_needSpan 1 = .ok (.invokestatic 212, 3) := by decide +kernel
theorem dX10_needSpan_4 : decode cX10_needSpan 4 = .ok (.iload_n 1, 1) := by decide +kernel
theorem dX10_needSpan_5 : decode cX10_needSpan 5 = .ok (.invokestatic 212, 3) := by decide +kernel
theorem dX10_needSpan_8 : decode cX10_needSpan 8 = .ok (.iload_n 1, 1) := by decide +kernel
theorem dX10_needSpan_9 : decode cX10_needSpan 9 = .ok (.iload_n 0, 1) := by decide +kernel
theorem dX10_needSpan_10 : decode cX10_needSpan 10 = .ok (.if_icmp .lt 12, 3) := by decide +kernel
theorem dX10_needSpan_13 : decode cX10_needSpan 13 = .ok (.iload_n 1, 1) := by decide +kernel
theorem dX10_needSpan_14 : decode cX10_needSpan 14 = .ok (.iload_n 0, 1) := by decide +kernel
theorem dX10_needSpan_15 : decode cX10_needSpan 15 = .ok (.isub, 1) := by decide +kernel
theorem dX10_needSpan_16 : decode cX10_needSpan 16 = .ok (.sipush 999, 3) := by decide +kernel
theorem dX10_needSpan_19 : decode cX10_needSpan 19 = .ok (.if_icmp .le 14, 3) := by decide +kernel
theorem dX10_needSpan_22 : decode cX10_needSpan 22 = .ok (.new 372, 3) := by decide +kernel
theorem dX10_needSpan_25 : decode cX10_needSpan 25 = .ok (.dup, 1) := by decide +kernel
theorem dX10_needSpan_26 : decode cX10_needSpan 26 = .ok (.ldc_w 387, 3) := by decide +kernel
theorem dX10_needSpan_29 : decode cX10_needSpan 29 = .ok (.invokespecial 376, 3) := by decide +kernel
theorem dX10_needSpan_32 : decode cX10_needSpan 32 = .ok (.athrow, 1) := by decide +kernel
theorem dX10_needSpan_33 : decode cX10_needSpan 33 = .ok (.return_, 1) := by decide +kernel
theorem dX10_needWithin_0 : decode cX10_needWithin 0 = .ok (.iload_n 0, 1) := by decide +kernel
theorem dX10_needWithin_1 : decode cX10_needWithin 1 = .ok (.iload_n 1, 1) := by decide +kernel
theorem dX10_needWithin_2 : decode cX10_needWithin 2 = .ok (.if_icmp .lt 8, 3) := by decide +kernel
theorem dX10_needWithin_5 : decode cX10_needWithin 5 = .ok (.iload_n 0, 1) := by decide +kernel
theorem dX10_needWithin_6 : decode cX10_needWithin 6 = .ok (.iload_n 2, 1) := by decide +kernel
theorem dX10_needWithin_7 : decode cX10_needWithin 7 = .ok (.if_icmp .le 14, 3) := by decide +kernel
theorem dX10_needWithin_10 : decode cX10_needWithin 10 = .ok (.new 372, 3) := by decide +kernel
theorem dX10_needWithin_13 : decode cX10_needWithin 13 = .ok (.dup, 1) := by decide +kernel
theorem dX10_needWithin_14 : decode cX10_needWithin 14 = .ok (.ldc_w 389, 3) := by decide +kernel
theorem dX10_needWithin_17 : decode cX10_needWithin 17 = .ok (.invokespecial 376, 3) := by decide +kernel
theorem dX10_needWithin_20 : decode cX10_needWithin 20 = .ok (.athrow, 1) := by decide +kernel
theorem dX10_needWithin_21 : decode cX10_needWithin 21 = .ok (.return_, 1) := by decide +kernel
theorem dX10_isTick_0 : decode cX10_isTick 0 = .ok (.iload_n 0, 1) := by decide +kernel
theorem dX10_isTick_1 : decode cX10_isTick 1 = .ok (.ifCond .lt 14, 3) := by decide +kernel
theorem dX10_isTick_4 : decode cX10_isTick 4 = .ok (.iload_n 0, 1) := by decide +kernel
theorem dX10_isTick_5 : decode cX10_isTick 5 = .ok (.sipush 9999, 3) := by decide +kernel
theorem dX10_isTick_8 : decode cX10_isTick 8 = .ok (.if_icmp .gt 7, 3) := by decide +kernel
theorem dX10_isTick_11 : decode cX10_isTick 11 = .ok (.iconst 1, 1) := by decide +kernel
theorem dX10_isTick_12 : decode cX10_isTick 12 = .ok (.goto 4, 3) := by decide +kernel
theorem dX10_isTick_15 : decode cX10_isTick 15 = .ok (.iconst 0, 1) := by decide +kernel
theorem dX10_isTick_16 : decode cX10_isTick 16 = .ok (.ireturn, 1) := by decide +kernel
theorem dX10_isCell_0 : decode cX10_isCell 0 = .ok (.iload_n 0, 1) := by decide +kernel
theorem dX10_isCell_1 : decode cX10_isCell 1 = .ok (.ifCond .lt 14, 3) := by decide +kernel
theorem dX10_isCell_4 : decode cX10_isCell 4 = .ok (.iload_n 0, 1) := by decide +kernel
theorem dX10_isCell_5 : decode cX10_isCell 5 = .ok (.sipush 729, 3) := by decide +kernel
theorem dX10_isCell_8 : decode cX10_isCell 8 = .ok (.if_icmp .ge 7, 3) := by decide +kernel
theorem dX10_isCell_11 : decode cX10_isCell 11 = .ok (.iconst 1, 1) := by decide +kernel
theorem dX10_isCell_12 : decode cX10_isCell 12 = .ok (.goto 4, 3) := by decide +kernel
theorem dX10_isCell_15 : decode cX10_isCell 15 = .ok (.iconst 0, 1) := by decide +kernel
theorem dX10_isCell_16 : decode cX10_isCell 16 = .ok (.ireturn, 1) := by decide +kernel
theorem dX10_isPlace_0 : decode cX10_isPlace 0 = .ok (.iload_n 0, 1) := by decide +kernel
theorem dX10_isPlace_1 : decode cX10_isPlace 1 = .ok (.sipush (-260), 3) := by decide +kernel
theorem dX10_isPlace_4 : decode cX10_isPlace 4 = .ok (.if_icmp .lt 14, 3) := by decide +kernel
theorem dX10_isPlace_7 : decode cX10_isPlace 7 = .ok (.iload_n 0, 1) := by decide +kernel
theorem dX10_isPlace_8 : decode cX10_isPlace 8 = .ok (.sipush 260, 3) := by decide +kernel
theorem dX10_isPlace_11 : decode cX10_isPlace 11 = .ok (.if_icmp .gt 7, 3) := by decide +kernel
theorem dX10_isPlace_14 : decode cX10_isPlace 14 = .ok (.iconst 1, 1) := by decide +kernel
theorem dX10_isPlace_15 : decode cX10_isPlace 15 = .ok (.goto 4, 3) := by decide +kernel
theorem dX10_isPlace_18 : decode cX10_isPlace 18 = .ok (.iconst 0, 1) := by decide +kernel
theorem dX10_isPlace_19 : decode cX10_isPlace 19 = .ok (.ireturn, 1) := by decide +kernel
theorem dX10_mostOfSetting_0 : decode cX10_mostOfSetting 0 = .ok (.iload_n 0, 1) := by decide +kernel
theorem dX10_mostOfSetting_1 : decode cX10_mostOfSetting 1 = .ok (.lookupswitch 33 #[(0, 27), (1, 30)], 27) := by decide +kernel
theorem dX10_mostOfSetting_28 : decode cX10_mostOfSetting 28 = .ok (.bipush 9, 2) := by decide +kernel
theorem dX10_mostOfSetting_30 : decode cX10_mostOfSetting 30 = .ok (.ireturn, 1) := by decide +kernel
theorem dX10_mostOfSetting_31 : decode cX10_mostOfSetting 31 = .ok (.bipush 99, 2) := by decide +kernel
theorem dX10_mostOfSetting_33 : decode cX10_mostOfSetting 33 = .ok (.ireturn, 1) := by decide +kernel
theorem dX10_mostOfSetting_34 : decode cX10_mostOfSetting 34 = .ok (.bipush 90, 2) := by decide +kernel
theorem dX10_mostOfSetting_36 : decode cX10_mostOfSetting 36 = .ok (.ireturn, 1) := by decide +kernel
theorem dX10_cellOf_0 : decode cX10_cellOf 0 = .ok (.bipush 27, 2) := by decide +kernel
theorem dX10_cellOf_2 : decode cX10_cellOf 2 = .ok (.iload_n 1, 1) := by decide +kernel
theorem dX10_cellOf_3 : decode cX10_cellOf 3 = .ok (.sipush 260, 3) := by decide +kernel
theorem dX10_cellOf_6 : decode cX10_cellOf 6 = .ok (.iadd, 1) := by decide +kernel
theorem dX10_cellOf_7 : decode cX10_cellOf 7 = .ok (.bipush 20, 2) := by decide +kernel
theorem dX10_cellOf_9 : decode cX10_cellOf 9 = .ok (.idiv, 1) := by decide +kernel
theorem dX10_cellOf_10 : decode cX10_cellOf 10 = .ok (.imul, 1) := by decide +kernel
theorem dX10_cellOf_11 : decode cX10_cellOf 11 = .ok (.iload_n 0, 1) := by decide +kernel
theorem dX10_cellOf_12 : decode cX10_cellOf 12 = .ok (.sipush 260, 3) := by decide +kernel
theorem dX10_cellOf_15 : decode cX10_cellOf 15 = .ok (.iadd, 1) := by decide +kernel
theorem dX10_cellOf_16 : decode cX10_cellOf 16 = .ok (.bipush 20, 2) := by decide +kernel
theorem dX10_cellOf_18 : decode cX10_cellOf 18 = .ok (.idiv, 1) := by decide +kernel
theorem dX10_cellOf_19 : decode cX10_cellOf 19 = .ok (.iadd, 1) := by decide +kernel
theorem dX10_cellOf_20 : decode cX10_cellOf 20 = .ok (.ireturn, 1) := by decide +kernel
theorem dX10_greatestCommon_0 : decode cX10_greatestCommon 0 = .ok (.iload_n 0, 1) := by decide +kernel
theorem dX10_greatestCommon_1 : decode cX10_greatestCommon 1 = .ok (.istore_n 2, 1) := by decide +kernel
theorem dX10_greatestCommon_2 : decode cX10_greatestCommon 2 = .ok (.iload_n 1, 1) := by decide +kernel
theorem dX10_greatestCommon_3 : decode cX10_greatestCommon 3 = .ok (.istore_n 3, 1) := by decide +kernel
theorem dX10_greatestCommon_4 : decode cX10_greatestCommon 4 = .ok (.iconst 0, 1) := by decide +kernel
theorem dX10_greatestCommon_5 : decode cX10_greatestCommon 5 = .ok (.istore 4, 2) := by decide +kernel
theorem dX10_greatestCommon_7 : decode cX10_greatestCommon 7 = .ok (.iload 4, 2) := by decide +kernel
theorem dX10_greatestCommon_9 : decode cX10_greatestCommon 9 = .ok (.bipush 100, 2) := by decide +kernel
theorem dX10_greatestCommon_11 : decode cX10_greatestCommon 11 = .ok (.if_icmp .ge 23, 3) := by decide +kernel
theorem dX10_greatestCommon_14 : decode cX10_greatestCommon 14 = .ok (.iload_n 3, 1) := by decide +kernel
theorem dX10_greatestCommon_15 : decode cX10_greatestCommon 15 = .ok (.ifCond .eq 19, 3) := by decide +kernel
theorem dX10_greatestCommon_18 : decode cX10_greatestCommon 18 = .ok (.iload_n 2, 1) := by decide +kernel
theorem dX10_greatestCommon_19 : decode cX10_greatestCommon 19 = .ok (.iload_n 3, 1) := by decide +kernel
theorem dX10_greatestCommon_20 : decode cX10_greatestCommon 20 = .ok (.irem, 1) := by decide +kernel
theorem dX10_greatestCommon_21 : decode cX10_greatestCommon 21 = .ok (.istore 5, 2) := by decide +kernel
theorem dX10_greatestCommon_23 : decode cX10_greatestCommon 23 = .ok (.iload_n 3, 1) := by decide +kernel
theorem dX10_greatestCommon_24 : decode cX10_greatestCommon 24 = .ok (.istore_n 2, 1) := by decide +kernel
theorem dX10_greatestCommon_25 : decode cX10_greatestCommon 25 = .ok (.iload 5, 2) := by decide +kernel
theorem dX10_greatestCommon_27 : decode cX10_greatestCommon 27 = .ok (.istore_n 3, 1) := by decide +kernel
theorem dX10_greatestCommon_28 : decode cX10_greatestCommon 28 = .ok (.iinc 4 1, 3) := by decide +kernel
theorem dX10_greatestCommon_31 : decode cX10_greatestCommon 31 = .ok (.goto (-24), 3) := by decide +kernel
theorem dX10_greatestCommon_34 : decode cX10_greatestCommon 34 = .ok (.iload_n 2, 1) := by decide +kernel
theorem dX10_greatestCommon_35 : decode cX10_greatestCommon 35 = .ok (.ireturn, 1) := by decide +kernel
theorem dJ9_floorMod_7cf53_0 : decode cJ9_floorMod_7cf53 0 = .ok (.iload_n 0, 1) := by decide +kernel
theorem dJ9_floorMod_7cf53_1 : decode cJ9_floorMod_7cf53 1 = .ok (.iload_n 1, 1) := by decide +kernel
theorem dJ9_floorMod_7cf53_2 : decode cJ9_floorMod_7cf53 2 = .ok (.irem, 1) := by decide +kernel
theorem dJ9_floorMod_7cf53_3 : decode cJ9_floorMod_7cf53 3 = .ok (.istore_n 2, 1) := by decide +kernel
theorem dJ9_floorMod_7cf53_4 : decode cJ9_floorMod_7cf53 4 = .ok (.iload_n 0, 1) := by decide +kernel
theorem dJ9_floorMod_7cf53_5 : decode cJ9_floorMod_7cf53 5 = .ok (.iload_n 1, 1) := by decide +kernel
theorem dJ9_floorMod_7cf53_6 : decode cJ9_floorMod_7cf53 6 = .ok (.ixor, 1) := by decide +kernel
theorem dJ9_floorMod_7cf53_7 : decode cJ9_floorMod_7cf53 7 = .ok (.ifCond .ge 11, 3) := by decide +kernel
theorem dJ9_floorMod_7cf53_10 : decode cJ9_floorMod_7cf53 10 = .ok (.iload_n 2, 1) := by decide +kernel
theorem dJ9_floorMod_7cf53_11 : decode cJ9_floorMod_7cf53 11 = .ok (.ifCond .eq 7, 3) := by decide +kernel
theorem dJ9_floorMod_7cf53_14 : decode cJ9_floorMod_7cf53 14 = .ok (.iload_n 2, 1) := by decide +kernel
theorem dJ9_floorMod_7cf53_15 : decode cJ9_floorMod_7cf53 15 = .ok (.iload_n 1, 1) := by decide +kernel
theorem dJ9_floorMod_7cf53_16 : decode cJ9_floorMod_7cf53 16 = .ok (.iadd, 1) := by decide +kernel
theorem dJ9_floorMod_7cf53_17 : decode cJ9_floorMod_7cf53 17 = .ok (.ireturn, 1) := by decide +kernel
theorem dJ9_floorMod_7cf53_18 : decode cJ9_floorMod_7cf53 18 = .ok (.iload_n 2, 1) := by decide +kernel
theorem dJ9_floorMod_7cf53_19 : decode cJ9_floorMod_7cf53 19 = .ok (.ireturn, 1) := by decide +kernel
theorem dJ9_abs_0f7a4_0 : decode cJ9_abs_0f7a4 0 = .ok (.iload_n 0, 1) := by decide +kernel
theorem dJ9_abs_0f7a4_1 : decode cJ9_abs_0f7a4 1 = .ok (.ifCond .ge 8, 3) := by decide +kernel
theorem dJ9_abs_0f7a4_4 : decode cJ9_abs_0f7a4 4 = .ok (.iload_n 0, 1) := by decide +kernel
theorem dJ9_abs_0f7a4_5 : decode cJ9_abs_0f7a4 5 = .ok (.ineg, 1) := by decide +kernel
theorem dJ9_abs_0f7a4_6 : decode cJ9_abs_0f7a4 6 = .ok (.goto 4, 3) := by decide +kernel
theorem dJ9_abs_0f7a4_9 : decode cJ9_abs_0f7a4 9 = .ok (.iload_n 0, 1) := by decide +kernel
theorem dJ9_abs_0f7a4_10 : decode cJ9_abs_0f7a4 10 = .ok (.ireturn, 1) := by decide +kernel
theorem dJ9_max_7cf53_0 : decode cJ9_max_7cf53 0 = .ok (.iload_n 0, 1) := by decide +kernel
theorem dJ9_max_7cf53_1 : decode cJ9_max_7cf53 1 = .ok (.iload_n 1, 1) := by decide +kernel
theorem dJ9_max_7cf53_2 : decode cJ9_max_7cf53 2 = .ok (.if_icmp .lt 7, 3) := by decide +kernel
theorem dJ9_max_7cf53_5 : decode cJ9_max_7cf53 5 = .ok (.iload_n 0, 1) := by decide +kernel
theorem dJ9_max_7cf53_6 : decode cJ9_max_7cf53 6 = .ok (.goto 4, 3) := by decide +kernel
theorem dJ9_max_7cf53_9 : decode cJ9_max_7cf53 9 = .ok (.iload_n 1, 1) := by decide +kernel
theorem dJ9_max_7cf53_10 : decode cJ9_max_7cf53 10 = .ok (.ireturn, 1) := by decide +kernel
theorem dJ9_min_7cf53_0 : decode cJ9_min_7cf53 0 = .ok (.iload_n 0, 1) := by decide +kernel
theorem dJ9_min_7cf53_1 : decode cJ9_min_7cf53 1 = .ok (.iload_n 1, 1) := by decide +kernel
theorem dJ9_min_7cf53_2 : decode cJ9_min_7cf53 2 = .ok (.if_icmp .gt 7, 3) := by decide +kernel
theorem dJ9_min_7cf53_5 : decode cJ9_min_7cf53 5 = .ok (.iload_n 0, 1) := by decide +kernel
theorem dJ9_min_7cf53_6 : decode cJ9_min_7cf53 6 = .ok (.goto 4, 3) := by decide +kernel
theorem dJ9_min_7cf53_9 : decode cJ9_min_7cf53 9 = .ok (.iload_n 1, 1) := by decide +kernel
theorem dJ9_min_7cf53_10 : decode cJ9_min_7cf53 10 = .ok (.ireturn, 1) := by decide +kernel
theorem dJ0_length_8abf5_0 : decode cJ0_length_8abf5 0 = .ok (.aload_n 0, 1) := by decide +kernel
theorem dJ0_length_8abf5_1 : decode cJ0_length_8abf5 1 = .ok (.getfield 9, 3) := by decide +kernel
theorem dJ0_length_8abf5_4 : decode cJ0_length_8abf5 4 = .ok (.arraylength, 1) := by decide +kernel
theorem dJ0_length_8abf5_5 : decode cJ0_length_8abf5 5 = .ok (.aload_n 0, 1) := by decide +kernel
theorem dJ0_length_8abf5_6 : decode cJ0_length_8abf5 6 = .ok (.invokevirtual 335, 3) := by decide +kernel
theorem dJ0_length_8abf5_9 : decode cJ0_length_8abf5 9 = .ok (.ishr, 1) := by decide +kernel
theorem dJ0_length_8abf5_10 : decode cJ0_length_8abf5 10 = .ok (.ireturn, 1) := by decide +kernel
theorem dJ0_charAt_5068e_0 : decode cJ0_charAt_5068e 0 = .ok (.aload_n 0, 1) := by decide +kernel
theorem dJ0_charAt_5068e_1 : decode cJ0_charAt_5068e 1 = .ok (.invokevirtual 492, 3) := by decide +kernel
theorem dJ0_charAt_5068e_4 : decode cJ0_charAt_5068e 4 = .ok (.ifCond .eq 12, 3) := by decide +kernel
theorem dJ0_charAt_5068e_7 : decode cJ0_charAt_5068e 7 = .ok (.aload_n 0, 1) := by decide +kernel
theorem dJ0_charAt_5068e_8 : decode cJ0_charAt_5068e 8 = .ok (.getfield 9, 3) := by decide +kernel
theorem dJ0_charAt_5068e_11 : decode cJ0_charAt_5068e 11 = .ok (.iload_n 1, 1) := by decide +kernel
theorem dJ0_charAt_5068e_12 : decode cJ0_charAt_5068e 12 = .ok (.invokestatic 495, 3) := by decide +kernel
theorem dJ0_charAt_5068e_15 : decode cJ0_charAt_5068e 15 = .ok (.ireturn, 1) := by decide +kernel
theorem dJ0_charAt_5068e_16 : decode cJ0_charAt_5068e 16 = .ok (.aload_n 0, 1) := by decide +kernel
theorem dJ0_charAt_5068e_17 : decode cJ0_charAt_5068e 17 = .ok (.getfield 9, 3) := by decide +kernel
theorem dJ0_charAt_5068e_20 : decode cJ0_charAt_5068e 20 = .ok (.iload_n 1, 1) := by decide +kernel
theorem dJ0_charAt_5068e_21 : decode cJ0_charAt_5068e 21 = .ok (.invokestatic 498, 3) := by decide +kernel
theorem dJ0_charAt_5068e_24 : decode cJ0_charAt_5068e 24 = .ok (.ireturn, 1) := by decide +kernel
theorem dJ0_coder_7d493_0 : decode cJ0_coder_7d493 0 = .ok (.getstatic 38, 3) := by decide +kernel
theorem dJ0_coder_7d493_3 : decode cJ0_coder_7d493 3 = .ok (.ifCond .eq 10, 3) := by decide +kernel
theorem dJ0_coder_7d493_6 : decode cJ0_coder_7d493 6 = .ok (.aload_n 0, 1) := by decide +kernel
theorem dJ0_coder_7d493_7 : decode cJ0_coder_7d493 7 = .ok (.getfield 15, 3) := by decide +kernel
theorem dJ0_coder_7d493_10 : decode cJ0_coder_7d493 10 = .ok (.goto 4, 3) := by decide +kernel
theorem dJ0_coder_7d493_13 : decode cJ0_coder_7d493 13 = .ok (.iconst 1, 1) := by decide +kernel
theorem dJ0_coder_7d493_14 : decode cJ0_coder_7d493 14 = .ok (.ireturn, 1) := by decide +kernel
theorem dJ0_isLatin1_aae02_0 : decode cJ0_isLatin1_aae02 0 = .ok (.getstatic 38, 3) := by decide +kernel
theorem dJ0_isLatin1_aae02_3 : decode cJ0_isLatin1_aae02 3 = .ok (.ifCond .eq 14, 3) := by decide +kernel
theorem dJ0_isLatin1_aae02_6 : decode cJ0_isLatin1_aae02 6 = .ok (.aload_n 0, 1) := by decide +kernel
theorem dJ0_isLatin1_aae02_7 : decode cJ0_isLatin1_aae02 7 = .ok (.getfield 15, 3) := by decide +kernel
theorem dJ0_isLatin1_aae02_10 : decode cJ0_isLatin1_aae02 10 = .ok (.ifCond .ne 7, 3) := by decide +kernel
theorem dJ0_isLatin1_aae02_13 : decode cJ0_isLatin1_aae02 13 = .ok (.iconst 1, 1) := by decide +kernel
theorem dJ0_isLatin1_aae02_14 : decode cJ0_isLatin1_aae02 14 = .ok (.goto 4, 3) := by decide +kernel
theorem dJ0_isLatin1_aae02_17 : decode cJ0_isLatin1_aae02 17 = .ok (.iconst 0, 1) := by decide +kernel
theorem dJ0_isLatin1_aae02_18 : decode cJ0_isLatin1_aae02 18 = .ok (.ireturn, 1) := by decide +kernel
theorem dJ0_checkIndex_df160_0 : decode cJ0_checkIndex_df160 0 = .ok (.iload_n 0, 1) := by decide +kernel
theorem dJ0_checkIndex_df160_1 : decode cJ0_checkIndex_df160 1 = .ok (.iload_n 1, 1) := by decide +kernel
theorem dJ0_checkIndex_df160_2 : decode cJ0_checkIndex_df160 2 = .ok (.getstatic 1053, 3) := by decide +kernel
theorem dJ0_checkIndex_df160_5 : decode cJ0_checkIndex_df160 5 = .ok (.invokestatic 1059, 3) := by decide +kernel
theorem dJ0_checkIndex_df160_8 : decode cJ0_checkIndex_df160 8 = .ok (.pop, 1) := by decide +kernel
theorem dJ0_checkIndex_df160_9 : decode cJ0_checkIndex_df160 9 = .ok (.return_, 1) := by decide +kernel
theorem dJ1_charAt_3b067_0 : decode cJ1_charAt_3b067 0 = .ok (.iload_n 1, 1) := by decide +kernel
theorem dJ1_charAt_3b067_1 : decode cJ1_charAt_3b067 1 = .ok (.aload_n 0, 1) := by decide +kernel
theorem dJ1_charAt_3b067_2 : decode cJ1_charAt_3b067 2 = .ok (.arraylength, 1) := by decide +kernel
theorem dJ1_charAt_3b067_3 : decode cJ1_charAt_3b067 3 = .ok (.invokestatic 9, 3) := by decide +kernel
theorem dJ1_charAt_3b067_6 : decode cJ1_charAt_3b067 6 = .ok (.aload_n 0, 1) := by decide +kernel
theorem dJ1_charAt_3b067_7 : decode cJ1_charAt_3b067 7 = .ok (.iload_n 1, 1) := by decide +kernel
theorem dJ1_charAt_3b067_8 : decode cJ1_charAt_3b067 8 = .ok (.baload, 1) := by decide +kernel
theorem dJ1_charAt_3b067_9 : decode cJ1_charAt_3b067 9 = .ok (.sipush 255, 3) := by decide +kernel
theorem dJ1_charAt_3b067_12 : decode cJ1_charAt_3b067 12 = .ok (.iand, 1) := by decide +kernel
theorem dJ1_charAt_3b067_13 : decode cJ1_charAt_3b067 13 = .ok (.i2c, 1) := by decide +kernel
theorem dJ1_charAt_3b067_14 : decode cJ1_charAt_3b067 14 = .ok (.ireturn, 1) := by decide +kernel
theorem dJ2_getChar_3b067_0 : decode cJ2_getChar_3b067 0 = .ok (.getstatic 44, 3) := by decide +kernel
theorem dJ2_getChar_3b067_3 : decode cJ2_getChar_3b067 3 = .ok (.ifCond .ne 25, 3) := by decide +kernel
theorem dJ2_getChar_3b067_6 : decode cJ2_getChar_3b067 6 = .ok (.iload_n 1, 1) := by decide +kernel
theorem dJ2_getChar_3b067_7 : decode cJ2_getChar_3b067 7 = .ok (.ifCond .lt 11, 3) := by decide +kernel
theorem dJ2_getChar_3b067_10 : decode cJ2_getChar_3b067 10 = .ok (.iload_n 1, 1) := by decide +kernel
theorem dJ2_getChar_3b067_11 : decode cJ2_getChar_3b067 11 = .ok (.aload_n 0, 1) := by decide +kernel
theorem dJ2_getChar_3b067_12 : decode cJ2_getChar_3b067 12 = .ok (.invokestatic 48, 3) := by decide +kernel
theorem dJ2_getChar_3b067_15 : decode cJ2_getChar_3b067 15 = .ok (.if_icmp .lt 13, 3) := by decide +kernel
theorem dJ2_getChar_3b067_18 : decode cJ2_getChar_3b067 18 = .ok (.new 52, 3) := by decide +kernel
theorem dJ2_getChar_3b067_21 : decode cJ2_getChar_3b067 21 = .ok (.dup, 1) := by decide +kernel
theorem dJ2_getChar_3b067_22 : decode cJ2_getChar_3b067 22 = .ok (.ldc 54, 2) := by decide +kernel
theorem dJ2_getChar_3b067_24 : decode cJ2_getChar_3b067 24 = .ok (.invokespecial 56, 3) := by decide +kernel
theorem dJ2_getChar_3b067_27 : decode cJ2_getChar_3b067 27 = .ok (.athrow, 1) := by decide +kernel
theorem dJ2_getChar_3b067_28 : decode cJ2_getChar_3b067 28 = .ok (.iload_n 1, 1) := by decide +kernel
theorem dJ2_getChar_3b067_29 : decode cJ2_getChar_3b067 29 = .ok (.iconst 1, 1) := by decide +kernel
theorem dJ2_getChar_3b067_30 : decode cJ2_getChar_3b067 30 = .ok (.ishl, 1) := by decide +kernel
theorem dJ2_getChar_3b067_31 : decode cJ2_getChar_3b067 31 = .ok (.istore_n 1, 1) := by decide +kernel
theorem dJ2_getChar_3b067_32 : decode cJ2_getChar_3b067 32 = .ok (.aload_n 0, 1) := by decide +kernel
theorem dJ2_getChar_3b067_33 : decode cJ2_getChar_3b067 33 = .ok (.iload_n 1, 1) := by decide +kernel
theorem dJ2_getChar_3b067_34 : decode cJ2_getChar_3b067 34 = .ok (.iinc 1 1, 3) := by decide +kernel
theorem dJ2_getChar_3b067_37 : decode cJ2_getChar_3b067 37 = .ok (.baload, 1) := by decide +kernel
theorem dJ2_getChar_3b067_38 : decode cJ2_getChar_3b067 38 = .ok (.sipush 255, 3) := by decide +kernel
theorem dJ2_getChar_3b067_41 : decode cJ2_getChar_3b067 41 = .ok (.iand, 1) := by decide +kernel
theorem dJ2_getChar_3b067_42 : decode cJ2_getChar_3b067 42 = .ok (.getstatic 59, 3) := by decide +kernel
theorem dJ2_getChar_3b067_45 : decode cJ2_getChar_3b067 45 = .ok (.ishl, 1) := by decide +kernel
theorem dJ2_getChar_3b067_46 : decode cJ2_getChar_3b067 46 = .ok (.aload_n 0, 1) := by decide +kernel
theorem dJ2_getChar_3b067_47 : decode cJ2_getChar_3b067 47 = .ok (.iload_n 1, 1) := by decide +kernel
theorem dJ2_getChar_3b067_48 : decode cJ2_getChar_3b067 48 = .ok (.baload, 1) := by decide +kernel
theorem dJ2_getChar_3b067_49 : decode cJ2_getChar_3b067 49 = .ok (.sipush 255, 3) := by decide +kernel
theorem dJ2_getChar_3b067_52 : decode cJ2_getChar_3b067 52 = .ok (.iand, 1) := by decide +kernel
theorem dJ2_getChar_3b067_53 : decode cJ2_getChar_3b067 53 = .ok (.getstatic 63, 3) := by decide +kernel
theorem dJ2_getChar_3b067_56 : decode cJ2_getChar_3b067 56 = .ok (.ishl, 1) := by decide +kernel
theorem dJ2_getChar_3b067_57 : decode cJ2_getChar_3b067 57 = .ok (.ior, 1) := by decide +kernel
theorem dJ2_getChar_3b067_58 : decode cJ2_getChar_3b067 58 = .ok (.i2c, 1) := by decide +kernel
theorem dJ2_getChar_3b067_59 : decode cJ2_getChar_3b067 59 = .ok (.ireturn, 1) := by decide +kernel
theorem dJ2_length_9d52b_0 : decode cJ2_length_9d52b 0 = .ok (.aload_n 0, 1) := by decide +kernel
theorem dJ2_length_9d52b_1 : decode cJ2_length_9d52b 1 = .ok (.arraylength, 1) := by decide +kernel
theorem dJ2_length_9d52b_2 : decode cJ2_length_9d52b 2 = .ok (.iconst 1, 1) := by decide +kernel
theorem dJ2_length_9d52b_3 : decode cJ2_length_9d52b 3 = .ok (.ishr, 1) := by decide +kernel
theorem dJ2_length_9d52b_4 : decode cJ2_length_9d52b 4 = .ok (.ireturn, 1) := by decide +kernel
theorem dJ2_charAt_3b067_0 : decode cJ2_charAt_3b067 0 = .ok (.iload_n 1, 1) := by decide +kernel
theorem dJ2_charAt_3b067_1 : decode cJ2_charAt_3b067 1 = .ok (.aload_n 0, 1) := by decide +kernel
theorem dJ2_charAt_3b067_2 : decode cJ2_charAt_3b067 2 = .ok (.invokestatic 67, 3) := by decide +kernel
theorem dJ2_charAt_3b067_5 : decode cJ2_charAt_3b067 5 = .ok (.aload_n 0, 1) := by decide +kernel
theorem dJ2_charAt_3b067_6 : decode cJ2_charAt_3b067 6 = .ok (.iload_n 1, 1) := by decide +kernel
theorem dJ2_charAt_3b067_7 : decode cJ2_charAt_3b067 7 = .ok (.invokestatic 71, 3) := by decide +kernel
theorem dJ2_charAt_3b067_10 : decode cJ2_charAt_3b067 10 = .ok (.ireturn, 1) := by decide +kernel
theorem dJ2_checkIndex_2214a_0 : decode cJ2_checkIndex_2214a 0 = .ok (.iload_n 0, 1) := by decide +kernel
theorem dJ2_checkIndex_2214a_1 : decode cJ2_checkIndex_2214a 1 = .ok (.aload_n 1, 1) := by decide +kernel
theorem dJ2_checkIndex_2214a_2 : decode cJ2_checkIndex_2214a 2 = .ok (.invokestatic 48, 3) := by decide +kernel
theorem dJ2_checkIndex_2214a_5 : decode cJ2_checkIndex_2214a 5 = .ok (.invokestatic 414, 3) := by decide +kernel
theorem dJ2_checkIndex_2214a_8 : decode cJ2_checkIndex_2214a 8 = .ok (.return_, 1) := by decide +kernel
theorem dJ7_fill_53178_0 : decode cJ7_fill_53178 0 = .ok (.iconst 0, 1) := by decide +kernel
theorem dJ7_fill_53178_1 : decode cJ7_fill_53178 1 = .ok (.istore_n 2, 1) := by decide +kernel
theorem dJ7_fill_53178_2 : decode cJ7_fill_53178 2 = .ok (.aload_n 0, 1) := by decide +kernel
theorem dJ7_fill_53178_3 : decode cJ7_fill_53178 3 = .ok (.arraylength, 1) := by decide +kernel
theorem dJ7_fill_53178_4 : decode cJ7_fill_53178 4 = .ok (.istore_n 3, 1) := by decide +kernel
theorem dJ7_fill_53178_5 : decode cJ7_fill_53178 5 = .ok (.iload_n 2, 1) := by decide +kernel
theorem dJ7_fill_53178_6 : decode cJ7_fill_53178 6 = .ok (.iload_n 3, 1) := by decide +kernel
theorem dJ7_fill_53178_7 : decode cJ7_fill_53178 7 = .ok (.if_icmp .ge 13, 3) := by decide +kernel
theorem dJ7_fill_53178_10 : decode cJ7_fill_53178 10 = .ok (.aload_n 0, 1) := by decide +kernel
theorem dJ7_fill_53178_11 : decode cJ7_fill_53178 11 = .ok (.iload_n 2, 1) := by decide +kernel
theorem dJ7_fill_53178_12 : decode cJ7_fill_53178 12 = .ok (.iload_n 1, 1) := by decide +kernel
theorem dJ7_fill_53178_13 : decode cJ7_fill_53178 13 = .ok (.iastore, 1) := by decide +kernel
theorem dJ7_fill_53178_14 : decode cJ7_fill_53178 14 = .ok (.iinc 2 1, 3) := by decide +kernel
theorem dJ7_fill_53178_17 : decode cJ7_fill_53178 17 = .ok (.goto (-12), 3) := by decide +kernel
theorem dJ7_fill_53178_20 : decode cJ7_fill_53178 20 = .ok (.return_, 1) := by decide +kernel
theorem dJ3_checkIndex_8e157_0 : decode cJ3_checkIndex_8e157 0 = .ok (.iload_n 0, 1) := by decide +kernel
theorem dJ3_checkIndex_8e157_1 : decode cJ3_checkIndex_8e157 1 = .ok (.ifCond .lt 8, 3) := by decide +kernel
theorem dJ3_checkIndex_8e157_4 : decode cJ3_checkIndex_8e157 4 = .ok (.iload_n 0, 1) := by decide +kernel
theorem dJ3_checkIndex_8e157_5 : decode cJ3_checkIndex_8e157 5 = .ok (.iload_n 1, 1) := by decide +kernel
theorem dJ3_checkIndex_8e157_6 : decode cJ3_checkIndex_8e157 6 = .ok (.if_icmp .lt 10, 3) := by decide +kernel
theorem dJ3_checkIndex_8e157_9 : decode cJ3_checkIndex_8e157 9 = .ok (.aload_n 2, 1) := by decide +kernel
theorem dJ3_checkIndex_8e157_10 : decode cJ3_checkIndex_8e157 10 = .ok (.iload_n 0, 1) := by decide +kernel
theorem dJ3_checkIndex_8e157_11 : decode cJ3_checkIndex_8e157 11 = .ok (.iload_n 1, 1) := by decide +kernel
theorem dJ3_checkIndex_8e157_12 : decode cJ3_checkIndex_8e157 12 = .ok (.invokestatic 95, 3) := by decide +kernel
theorem dJ3_checkIndex_8e157_15 : decode cJ3_checkIndex_8e157 15 = .ok (.athrow, 1) := by decide +kernel
theorem dJ3_checkIndex_8e157_16 : decode cJ3_checkIndex_8e157 16 = .ok (.iload_n 0, 1) := by decide +kernel
theorem dJ3_checkIndex_8e157_17 : decode cJ3_checkIndex_8e157 17 = .ok (.ireturn, 1) := by decide +kernel
