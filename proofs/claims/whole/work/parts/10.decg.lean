theorem dL_swings_0 : decode cL_swings 0 = .ok (.aload_n 2, 1) := by decide +kernel
theorem dL_swings_1 : decode cL_swings 1 = .ok (.iconst 0, 1) := by decide +kernel
theorem dL_swings_2 : decode cL_swings 2 = .ok (.aload_n 0, 1) := by decide +kernel
theorem dL_swings_3 : decode cL_swings 3 = .ok (.iload_n 1, 1) := by decide +kernel
theorem dL_swings_4 : decode cL_swings 4 = .ok (.invokevirtual 7, 3) := by decide +kernel
theorem dL_swings_7 : decode cL_swings 7 = .ok (.i2l, 1) := by decide +kernel
theorem dL_swings_8 : decode cL_swings 8 = .ok (.lastore, 1) := by decide +kernel
theorem dL_swings_9 : decode cL_swings 9 = .ok (.goto 6, 3) := by decide +kernel
theorem dL_swings_12 : decode cL_swings 12 = .ok (.astore_n 3, 1) := by decide +kernel
theorem dL_swings_13 : decode cL_swings 13 = .ok (.iconst 1, 1) := by decide +kernel
theorem dL_swings_14 : decode cL_swings 14 = .ok (.ireturn, 1) := by decide +kernel
theorem dL_swings_15 : decode cL_swings 15 = .ok (.iconst 0, 1) := by decide +kernel
theorem dL_swings_16 : decode cL_swings 16 = .ok (.ireturn, 1) := by decide +kernel
theorem dL_score_0 : decode cL_score 0 = .ok (.aload_n 2, 1) := by decide +kernel
theorem dL_score_1 : decode cL_score 1 = .ok (.iconst 0, 1) := by decide +kernel
theorem dL_score_2 : decode cL_score 2 = .ok (.aload_n 0, 1) := by decide +kernel
theorem dL_score_3 : decode cL_score 3 = .ok (.iload_n 1, 1) := by decide +kernel
theorem dL_score_4 : decode cL_score 4 = .ok (.invokevirtual 15, 3) := by decide +kernel
theorem dL_score_7 : decode cL_score 7 = .ok (.i2l, 1) := by decide +kernel
theorem dL_score_8 : decode cL_score 8 = .ok (.lastore, 1) := by decide +kernel
theorem dL_score_9 : decode cL_score 9 = .ok (.goto 6, 3) := by decide +kernel
theorem dL_score_12 : decode cL_score 12 = .ok (.astore_n 3, 1) := by decide +kernel
theorem dL_score_13 : decode cL_score 13 = .ok (.iconst 1, 1) := by decide +kernel
theorem dL_score_14 : decode cL_score 14 = .ok (.ireturn, 1) := by decide +kernel
theorem dL_score_15 : decode cL_score 15 = .ok (.iconst 0, 1) := by decide +kernel
theorem dL_score_16 : decode cL_score 16 = .ok (.ireturn, 1) := by decide +kernel
theorem dL_performed_0 : decode cL_performed 0 = .ok (.aload_n 2, 1) := by decide +kernel
theorem dL_performed_1 : decode cL_performed 1 = .ok (.iconst 0, 1) := by decide +kernel
theorem dL_performed_2 : decode cL_performed 2 = .ok (.aload_n 0, 1) := by decide +kernel
theorem dL_performed_3 : decode cL_performed 3 = .ok (.iload_n 1, 1) := by decide +kernel
theorem dL_performed_4 : decode cL_performed 4 = .ok (.invokevirtual 18, 3) := by decide +kernel
theorem dL_performed_7 : decode cL_performed 7 = .ok (.i2l, 1) := by decide +kernel
theorem dL_performed_8 : decode cL_performed 8 = .ok (.lastore, 1) := by decide +kernel
theorem dL_performed_9 : decode cL_performed 9 = .ok (.goto 6, 3) := by decide +kernel
theorem dL_performed_12 : decode cL_performed 12 = .ok (.astore_n 3, 1) := by decide +kernel
theorem dL_performed_13 : decode cL_performed 13 = .ok (.iconst 1, 1) := by decide +kernel
theorem dL_performed_14 : decode cL_performed 14 = .ok (.ireturn, 1) := by decide +kernel
theorem dL_performed_15 : decode cL_performed 15 = .ok (.iconst 0, 1) := by decide +kernel
theorem dL_performed_16 : decode cL_performed 16 = .ok (.ireturn, 1) := by decide +kernel
theorem dL_marks_0 : decode cL_marks 0 = .ok (.aload_n 2, 1) := by decide +kernel
theorem dL_marks_1 : decode cL_marks 1 = .ok (.iconst 0, 1) := by decide +kernel
theorem dL_marks_2 : decode cL_marks 2 = .ok (.aload_n 0, 1) := by decide +kernel
theorem dL_marks_3 : decode cL_marks 3 = .ok (.iload_n 1, 1) := by decide +kernel
theorem dL_marks_4 : decode cL_marks 4 = .ok (.invokevirtual 23, 3) := by decide +kernel
theorem dL_marks_7 : decode cL_marks 7 = .ok (.i2l, 1) := by decide +kernel
theorem dL_marks_8 : decode cL_marks 8 = .ok (.lastore, 1) := by decide +kernel
theorem dL_marks_9 : decode cL_marks 9 = .ok (.goto 6, 3) := by decide +kernel
theorem dL_marks_12 : decode cL_marks 12 = .ok (.astore_n 3, 1) := by decide +kernel
theorem dL_marks_13 : decode cL_marks 13 = .ok (.iconst 1, 1) := by decide +kernel
theorem dL_marks_14 : decode cL_marks 14 = .ok (.ireturn, 1) := by decide +kernel
theorem dL_marks_15 : decode cL_marks 15 = .ok (.iconst 0, 1) := by decide +kernel
theorem dL_marks_16 : decode cL_marks 16 = .ok (.ireturn, 1) := by decide +kernel
theorem dL_count_0 : decode cL_count 0 = .ok (.aload_n 2, 1) := by decide +kernel
theorem dL_count_1 : decode cL_count 1 = .ok (.iconst 0, 1) := by decide +kernel
theorem dL_count_2 : decode cL_count 2 = .ok (.aload_n 0, 1) := by decide +kernel
theorem dL_count_3 : decode cL_count 3 = .ok (.iload_n 1, 1) := by decide +kernel
theorem dL_count_4 : decode cL_count 4 = .ok (.invokevirtual 26, 3) := by decide +kernel
theorem dL_count_7 : decode cL_count 7 = .ok (.i2l, 1) := by decide +kernel
theorem dL_count_8 : decode cL_count 8 = .ok (.lastore, 1) := by decide +kernel
theorem dL_count_9 : decode cL_count 9 = .ok (.goto 6, 3) := by decide +kernel
theorem dL_count_12 : decode cL_count 12 = .ok (.astore_n 3, 1) := by decide +kernel
theorem dL_count_13 : decode cL_count 13 = .ok (.iconst 1, 1) := by decide +kernel
theorem dL_count_14 : decode cL_count 14 = .ok (.ireturn, 1) := by decide +kernel
theorem dL_count_15 : decode cL_count 15 = .ok (.iconst 0, 1) := by decide +kernel
theorem dL_count_16 : decode cL_count 16 = .ok (.ireturn, 1) := by decide +kernel
theorem dL_pendulum_0 : decode cL_pendulum 0 = .ok (.aload_n 3, 1) := by decide +kernel
theorem dL_pendulum_1 : decode cL_pendulum 1 = .ok (.iconst 0, 1) := by decide +kernel
theorem dL_pendulum_2 : decode cL_pendulum 2 = .ok (.aload_n 0, 1) := by decide +kernel
theorem dL_pendulum_3 : decode cL_pendulum 3 = .ok (.iload_n 1, 1) := by decide +kernel
theorem dL_pendulum_4 : decode cL_pendulum 4 = .ok (.iload_n 2, 1) := by decide +kernel
theorem dL_pendulum_5 : decode cL_pendulum 5 = .ok (.invokevirtual 29, 3) := by decide +kernel
theorem dL_pendulum_8 : decode cL_pendulum 8 = .ok (.i2l, 1) := by decide +kernel
theorem dL_pendulum_9 : decode cL_pendulum 9 = .ok (.lastore, 1) := by decide +kernel
theorem dL_pendulum_10 : decode cL_pendulum 10 = .ok (.goto 7, 3) := by decide +kernel
theorem dL_pendulum_13 : decode cL_pendulum 13 = .ok (.astore 4, 2) := by decide +kernel
theorem dL_pendulum_15 : decode cL_pendulum 15 = .ok (.iconst 1, 1) := by decide +kernel
theorem dL_pendulum_16 : decode cL_pendulum 16 = .ok (.ireturn, 1) := by decide +kernel
theorem dL_pendulum_17 : decode cL_pendulum 17 = .ok (.iconst 0, 1) := by decide +kernel
theorem dL_pendulum_18 : decode cL_pendulum 18 = .ok (.ireturn, 1) := by decide +kernel
theorem dL_set_0 : decode cL_set 0 = .ok (.aload 4, 2) := by decide +kernel
theorem dL_set_2 : decode cL_set 2 = .ok (.iconst 0, 1) := by decide +kernel
theorem dL_set_3 : decode cL_set 3 = .ok (.aload_n 0, 1) := by decide +kernel
theorem dL_set_4 : decode cL_set 4 = .ok (.iload_n 1, 1) := by decide +kernel
theorem dL_set_5 : decode cL_set 5 = .ok (.iload_n 2, 1) := by decide +kernel
theorem dL_set_6 : decode cL_set 6 = .ok (.iload_n 3, 1) := by decide +kernel
theorem dL_set_7 : decode cL_set 7 = .ok (.invokevirtual 33, 3) := by decide +kernel
theorem dL_set_10 : decode cL_set 10 = .ok (.i2l, 1) := by decide +kernel
theorem dL_set_11 : decode cL_set 11 = .ok (.lastore, 1) := by decide +kernel
theorem dL_set_12 : decode cL_set 12 = .ok (.goto 7, 3) := by decide +kernel
theorem dL_set_15 : decode cL_set 15 = .ok (.astore 5, 2) := by decide +kernel
theorem dL_set_17 : decode cL_set 17 = .ok (.iconst 1, 1) := by decide +kernel
theorem dL_set_18 : decode cL_set 18 = .ok (.ireturn, 1) := by decide +kernel
theorem dL_set_19 : decode cL_set 19 = .ok (.iconst 0, 1) := by decide +kernel
theorem dL_set_20 : decode cL_set 20 = .ok (.ireturn, 1) := by decide +kernel
theorem dL_swing_0 : decode cL_swing 0 = .ok (.aload_n 3, 1) := by decide +kernel
theorem dL_swing_1 : decode cL_swing 1 = .ok (.iconst 0, 1) := by decide +kernel
theorem dL_swing_2 : decode cL_swing 2 = .ok (.aload_n 0, 1) := by decide +kernel
theorem dL_swing_3 : decode cL_swing 3 = .ok (.iload_n 1, 1) := by decide +kernel
theorem dL_swing_4 : decode cL_swing 4 = .ok (.iload_n 2, 1) := by decide +kernel
theorem dL_swing_5 : decode cL_swing 5 = .ok (.invokevirtual 37, 3) := by decide +kernel
theorem dL_swing_8 : decode cL_swing 8 = .ok (.i2l, 1) := by decide +kernel
theorem dL_swing_9 : decode cL_swing 9 = .ok (.lastore, 1) := by decide +kernel
theorem dL_swing_10 : decode cL_swing 10 = .ok (.goto 11, 3) := by decide +kernel
theorem dL_swing_13 : decode cL_swing 13 = .ok (.astore 4, 2) := by decide +kernel
theorem dL_swing_15 : decode cL_swing 15 = .ok (.iconst 1, 1) := by decide +kernel
theorem dL_swing_16 : decode cL_swing 16 = .ok (.ireturn, 1) := by decide +kernel
theorem dL_swing_17 : decode cL_swing 17 = .ok (.astore 4, 2) := by decide +kernel
theorem dL_swing_19 : decode cL_swing 19 = .ok (.iconst 2, 1) := by decide +kernel
theorem dL_swing_20 : decode cL_swing 20 = .ok (.ireturn, 1) := by decide +kernel
theorem dL_swing_21 : decode cL_swing 21 = .ok (.iconst 0, 1) := by decide +kernel
theorem dL_swing_22 : decode cL_swing 22 = .ok (.ireturn, 1) := by decide +kernel
theorem dL_pen_0 : decode cL_pen 0 = .ok (.aload_n 3, 1) := by decide +kernel
theorem dL_pen_1 : decode cL_pen 1 = .ok (.iconst 0, 1) := by decide +kernel
theorem dL_pen_2 : decode cL_pen 2 = .ok (.aload_n 0, 1) := by decide +kernel
theorem dL_pen_3 : decode cL_pen 3 = .ok (.iload_n 1, 1) := by decide +kernel
theorem dL_pen_4 : decode cL_pen 4 = .ok (.iload_n 2, 1) := by decide +kernel
theorem dL_pen_5 : decode cL_pen 5 = .ok (.invokevirtual 40, 3) := by decide +kernel
theorem dL_pen_8 : decode cL_pen 8 = .ok (.i2l, 1) := by decide +kernel
theorem dL_pen_9 : decode cL_pen 9 = .ok (.lastore, 1) := by decide +kernel
theorem dL_pen_10 : decode cL_pen 10 = .ok (.goto 11, 3) := by decide +kernel
theorem dL_pen_13 : decode cL_pen 13 = .ok (.astore 4, 2) := by decide +kernel
theorem dL_pen_15 : decode cL_pen 15 = .ok (.iconst 1, 1) := by decide +kernel
theorem dL_pen_16 : decode cL_pen 16 = .ok (.ireturn, 1) := by decide +kernel
theorem dL_pen_17 : decode cL_pen 17 = .ok (.astore 4, 2) := by decide +kernel
theorem dL_pen_19 : decode cL_pen 19 = .ok (.iconst 2, 1) := by decide +kernel
theorem dL_pen_20 : decode cL_pen 20 = .ok (.ireturn, 1) := by decide +kernel
theorem dL_pen_21 : decode cL_pen 21 = .ok (.iconst 0, 1) := by decide +kernel
theorem dL_pen_22 : decode cL_pen 22 = .ok (.ireturn, 1) := by decide +kernel
theorem dL_drawn_0 : decode cL_drawn 0 = .ok (.aload_n 3, 1) := by decide +kernel
theorem dL_drawn_1 : decode cL_drawn 1 = .ok (.iconst 0, 1) := by decide +kernel
theorem dL_drawn_2 : decode cL_drawn 2 = .ok (.aload_n 0, 1) := by decide +kernel
theorem dL_drawn_3 : decode cL_drawn 3 = .ok (.iload_n 1, 1) := by decide +kernel
theorem dL_drawn_4 : decode cL_drawn 4 = .ok (.iload_n 2, 1) := by decide +kernel
theorem dL_drawn_5 : decode cL_drawn 5 = .ok (.invokevirtual 43, 3) := by decide +kernel
theorem dL_drawn_8 : decode cL_drawn 8 = .ok (.i2l, 1) := by decide +kernel
theorem dL_drawn_9 : decode cL_drawn 9 = .ok (.lastore, 1) := by decide +kernel
theorem dL_drawn_10 : decode cL_drawn 10 = .ok (.goto 7, 3) := by decide +kernel
theorem dL_drawn_13 : decode cL_drawn 13 = .ok (.astore 4, 2) := by decide +kernel
theorem dL_drawn_15 : decode cL_drawn 15 = .ok (.iconst 1, 1) := by decide +kernel
theorem dL_drawn_16 : decode cL_drawn 16 = .ok (.ireturn, 1) := by decide +kernel
theorem dL_drawn_17 : decode cL_drawn 17 = .ok (.iconst 0, 1) := by decide +kernel
theorem dL_drawn_18 : decode cL_drawn 18 = .ok (.ireturn, 1) := by decide +kernel
theorem dL_inCell_0 : decode cL_inCell 0 = .ok (.aload 4, 2) := by decide +kernel
theorem dL_inCell_2 : decode cL_inCell 2 = .ok (.iconst 0, 1) := by decide +kernel
theorem dL_inCell_3 : decode cL_inCell 3 = .ok (.aload_n 0, 1) := by decide +kernel
theorem dL_inCell_4 : decode cL_inCell 4 = .ok (.iload_n 1, 1) := by decide +kernel
theorem dL_inCell_5 : decode cL_inCell 5 = .ok (.iload_n 2, 1) := by decide +kernel
theorem dL_inCell_6 : decode cL_inCell 6 = .ok (.iload_n 3, 1) := by decide +kernel
theorem dL_inCell_7 : decode cL_inCell 7 = .ok (.invokevirtual 46, 3) := by decide +kernel
theorem dL_inCell_10 : decode cL_inCell 10 = .ok (.i2l, 1) := by decide +kernel
theorem dL_inCell_11 : decode cL_inCell 11 = .ok (.lastore, 1) := by decide +kernel
theorem dL_inCell_12 : decode cL_inCell 12 = .ok (.goto 11, 3) := by decide +kernel
theorem dL_inCell_15 : decode cL_inCell 15 = .ok (.astore 5, 2) := by decide +kernel
theorem dL_inCell_17 : decode cL_inCell 17 = .ok (.iconst 1, 1) := by decide +kernel
theorem dL_inCell_18 : decode cL_inCell 18 = .ok (.ireturn, 1) := by decide +kernel
theorem dL_inCell_19 : decode cL_inCell 19 = .ok (.astore 5, 2) := by decide +kernel
theorem dL_inCell_21 : decode cL_inCell 21 = .ok (.iconst 2, 1) := by decide +kernel
theorem dL_inCell_22 : decode cL_inCell 22 = .ok (.ireturn, 1) := by decide +kernel
theorem dL_inCell_23 : decode cL_inCell 23 = .ok (.iconst 0, 1) := by decide +kernel
theorem dL_inCell_24 : decode cL_inCell 24 = .ok (.ireturn, 1) := by decide +kernel
theorem dL_take_0 : decode cL_take 0 = .ok (.aload_n 0, 1) := by decide +kernel
theorem dL_take_1 : decode cL_take 1 = .ok (.iload_n 1, 1) := by decide +kernel
theorem dL_take_2 : decode cL_take 2 = .ok (.invokevirtual 49, 3) := by decide +kernel
theorem dL_take_5 : decode cL_take 5 = .ok (.goto 6, 3) := by decide +kernel
theorem dL_take_8 : decode cL_take 8 = .ok (.astore_n 2, 1) := by decide +kernel
theorem dL_take_9 : decode cL_take 9 = .ok (.iconst 1, 1) := by decide +kernel
theorem dL_take_10 : decode cL_take 10 = .ok (.ireturn, 1) := by decide +kernel
theorem dL_take_11 : decode cL_take 11 = .ok (.iconst 0, 1) := by decide +kernel
theorem dL_take_12 : decode cL_take 12 = .ok (.ireturn, 1) := by decide +kernel
theorem dL_alike_0 : decode cL_alike 0 = .ok (.aload_n 3, 1) := by decide +kernel
theorem dL_alike_1 : decode cL_alike 1 = .ok (.iconst 0, 1) := by decide +kernel
theorem dL_alike_2 : decode cL_alike 2 = .ok (.aload_n 0, 1) := by decide +kernel
theorem dL_alike_3 : decode cL_alike 3 = .ok (.iload_n 1, 1) := by decide +kernel
theorem dL_alike_4 : decode cL_alike 4 = .ok (.iload_n 2, 1) := by decide +kernel
theorem dL_alike_5 : decode cL_alike 5 = .ok (.invokevirtual 53, 3) := by decide +kernel
theorem dL_alike_8 : decode cL_alike 8 = .ok (.i2l, 1) := by decide +kernel
theorem dL_alike_9 : decode cL_alike 9 = .ok (.lastore, 1) := by decide +kernel
theorem dL_alike_10 : decode cL_alike 10 = .ok (.goto 7, 3) := by decide +kernel
theorem dL_alike_13 : decode cL_alike 13 = .ok (.astore 4, 2) := by decide +kernel
theorem dL_alike_15 : decode cL_alike 15 = .ok (.iconst 1, 1) := by decide +kernel
theorem dL_alike_16 : decode cL_alike 16 = .ok (.ireturn, 1) := by decide +kernel
theorem dL_alike_17 : decode cL_alike 17 = .ok (.iconst 0, 1) := by decide +kernel
theorem dL_alike_18 : decode cL_alike 18 = .ok (.ireturn, 1) := by decide +kernel
theorem dL_kinds_0 : decode cL_kinds 0 = .ok (.aload_n 2, 1) := by decide +kernel
theorem dL_kinds_1 : decode cL_kinds 1 = .ok (.iconst 0, 1) := by decide +kernel
theorem dL_kinds_2 : decode cL_kinds 2 = .ok (.aload_n 0, 1) := by decide +kernel
theorem dL_kinds_3 : decode cL_kinds 3 = .ok (.iload_n 1, 1) := by decide +kernel
theorem dL_kinds_4 : decode cL_kinds 4 = .ok (.invokevirtual 56, 3) := by decide +kernel
theorem dL_kinds_7 : decode cL_kinds 7 = .ok (.i2l, 1) := by decide +kernel
theorem dL_kinds_8 : decode cL_kinds 8 = .ok (.lastore, 1) := by decide +kernel
theorem dL_kinds_9 : decode cL_kinds 9 = .ok (.goto 6, 3) := by decide +kernel
theorem dL_kinds_12 : decode cL_kinds 12 = .ok (.astore_n 3, 1) := by decide +kernel
theorem dL_kinds_13 : decode cL_kinds 13 = .ok (.iconst 1, 1) := by decide +kernel
theorem dL_kinds_14 : decode cL_kinds 14 = .ok (.ireturn, 1) := by decide +kernel
theorem dL_kinds_15 : decode cL_kinds 15 = .ok (.iconst 0, 1) := by decide +kernel
theorem dL_kinds_16 : decode cL_kinds 16 = .ok (.ireturn, 1) := by decide +kernel
theorem dL_fits_0 : decode cL_fits 0 = .ok (.aload 4, 2) := by decide +kernel
theorem dL_fits_2 : decode cL_fits 2 = .ok (.iconst 0, 1) := by decide +kernel
theorem dL_fits_3 : decode cL_fits 3 = .ok (.aload_n 0, 1) := by decide +kernel
theorem dL_fits_4 : decode cL_fits 4 = .ok (.iload_n 1, 1) := by decide +kernel
theorem dL_fits_5 : decode cL_fits 5 = .ok (.iload_n 2, 1) := by decide +kernel
theorem dL_fits_6 : decode cL_fits 6 = .ok (.iload_n 3, 1) := by decide +kernel
theorem dL_fits_7 : decode cL_fits 7 = .ok (.invokevirtual 59, 3) := by decide +kernel
theorem dL_fits_10 : decode cL_fits 10 = .ok (.i2l, 1) := by decide +kernel
theorem dL_fits_11 : decode cL_fits 11 = .ok (.lastore, 1) := by decide +kernel
theorem dL_fits_12 : decode cL_fits 12 = .ok (.goto 11, 3) := by decide +kernel
theorem dL_fits_15 : decode cL_fits 15 = .ok (.astore 5, 2) := by decide +kernel
theorem dL_fits_17 : decode cL_fits 17 = .ok (.iconst 1, 1) := by decide +kernel
theorem dL_fits_18 : decode cL_fits 18 = .ok (.ireturn, 1) := by decide +kernel
theorem dL_fits_19 : decode cL_fits 19 = .ok (.astore 5, 2) := by decide +kernel
theorem dL_fits_21 : decode cL_fits 21 = .ok (.iconst 2, 1) := by decide +kernel
theorem dL_fits_22 : decode cL_fits 22 = .ok (.ireturn, 1) := by decide +kernel
theorem dL_fits_23 : decode cL_fits 23 = .ok (.iconst 0, 1) := by decide +kernel
theorem dL_fits_24 : decode cL_fits 24 = .ok (.ireturn, 1) := by decide +kernel
theorem dL_chord_0 : decode cL_chord 0 = .ok (.aload 4, 2) := by decide +kernel
theorem dL_chord_2 : decode cL_chord 2 = .ok (.iconst 0, 1) := by decide +kernel
theorem dL_chord_3 : decode cL_chord 3 = .ok (.aload_n 0, 1) := by decide +kernel
theorem dL_chord_4 : decode cL_chord 4 = .ok (.iload_n 1, 1) := by decide +kernel
theorem dL_chord_5 : decode cL_chord 5 = .ok (.iload_n 2, 1) := by decide +kernel
theorem dL_chord_6 : decode cL_chord 6 = .ok (.iload_n 3, 1) := by decide +kernel
theorem dL_chord_7 : decode cL_chord 7 = .ok (.invokevirtual 62, 3) := by decide +kernel
theorem dL_chord_10 : decode cL_chord 10 = .ok (.i2l, 1) := by decide +kernel
theorem dL_chord_11 : decode cL_chord 11 = .ok (.lastore, 1) := by decide +kernel
theorem dL_chord_12 : decode cL_chord 12 = .ok (.goto 11, 3) := by decide +kernel
theorem dL_chord_15 : decode cL_chord 15 = .ok (.astore 5, 2) := by decide +kernel
theorem dL_chord_17 : decode cL_chord 17 = .ok (.iconst 1, 1) := by decide +kernel
theorem dL_chord_18 : decode cL_chord 18 = .ok (.ireturn, 1) := by decide +kernel
theorem dL_chord_19 : decode cL_chord 19 = .ok (.astore 5, 2) := by decide +kernel
theorem dL_chord_21 : decode cL_chord 21 = .ok (.iconst 2, 1) := by decide +kernel
theorem dL_chord_22 : decode cL_chord 22 = .ok (.ireturn, 1) := by decide +kernel
theorem dL_chord_23 : decode cL_chord 23 = .ok (.iconst 0, 1) := by decide +kernel
theorem dL_chord_24 : decode cL_chord 24 = .ok (.ireturn, 1) := by decide +kernel
theorem dL_cart_0 : decode cL_cart 0 = .ok (.aload_n 2, 1) := by decide +kernel
theorem dL_cart_1 : decode cL_cart 1 = .ok (.iconst 0, 1) := by decide +kernel
theorem dL_cart_2 : decode cL_cart 2 = .ok (.aload_n 0, 1) := by decide +kernel
theorem dL_cart_3 : decode cL_cart 3 = .ok (.iload_n 1, 1) := by decide +kernel
theorem dL_cart_4 : decode cL_cart 4 = .ok (.invokevirtual 65, 3) := by decide +kernel
theorem dL_cart_7 : decode cL_cart 7 = .ok (.i2l, 1) := by decide +kernel
theorem dL_cart_8 : decode cL_cart 8 = .ok (.lastore, 1) := by decide +kernel
theorem dL_cart_9 : decode cL_cart 9 = .ok (.goto 6, 3) := by decide +kernel
theorem dL_cart_12 : decode cL_cart 12 = .ok (.astore_n 3, 1) := by decide +kernel
theorem dL_cart_13 : decode cL_cart 13 = .ok (.iconst 1, 1) := by decide +kernel
theorem dL_cart_14 : decode cL_cart 14 = .ok (.ireturn, 1) := by decide +kernel
theorem dL_cart_15 : decode cL_cart 15 = .ok (.iconst 0, 1) := by decide +kernel
theorem dL_cart_16 : decode cL_cart 16 = .ok (.ireturn, 1) := by decide +kernel
theorem dL_factor_0 : decode cL_factor 0 = .ok (.aload_n 2, 1) := by decide +kernel
theorem dL_factor_1 : decode cL_factor 1 = .ok (.iconst 0, 1) := by decide +kernel
theorem dL_factor_2 : decode cL_factor 2 = .ok (.aload_n 0, 1) := by decide +kernel
theorem dL_factor_3 : decode cL_factor 3 = .ok (.iload_n 1, 1) := by decide +kernel
theorem dL_factor_4 : decode cL_factor 4 = .ok (.invokevirtual 68, 3) := by decide +kernel
theorem dL_factor_7 : decode cL_factor 7 = .ok (.i2l, 1) := by decide +kernel
theorem dL_factor_8 : decode cL_factor 8 = .ok (.lastore, 1) := by decide +kernel
theorem dL_factor_9 : decode cL_factor 9 = .ok (.goto 6, 3) := by decide +kernel
theorem dL_factor_12 : decode cL_factor 12 = .ok (.astore_n 3, 1) := by decide +kernel
theorem dL_factor_13 : decode cL_factor 13 = .ok (.iconst 1, 1) := by decide +kernel
theorem dL_factor_14 : decode cL_factor 14 = .ok (.ireturn, 1) := by decide +kernel
theorem dL_factor_15 : decode cL_factor 15 = .ok (.iconst 0, 1) := by decide +kernel
theorem dL_factor_16 : decode cL_factor 16 = .ok (.ireturn, 1) := by decide +kernel
theorem dL_laid_0 : decode cL_laid 0 = .ok (.aload 6, 2) := by decide +kernel
theorem dL_laid_2 : decode cL_laid 2 = .ok (.iconst 0, 1) := by decide +kernel
theorem dL_laid_3 : decode cL_laid 3 = .ok (.aload_n 0, 1) := by decide +kernel
theorem dL_laid_4 : decode cL_laid 4 = .ok (.iload_n 1, 1) := by decide +kernel
theorem dL_laid_5 : decode cL_laid 5 = .ok (.iload_n 2, 1) := by decide +kernel
theorem dL_laid_6 : decode cL_laid 6 = .ok (.iload_n 3, 1) := by decide +kernel
theorem dL_laid_7 : decode cL_laid 7 = .ok (.iload 4, 2) := by decide +kernel
theorem dL_laid_9 : decode cL_laid 9 = .ok (.iload 5, 2) := by decide +kernel
theorem dL_laid_11 : decode cL_laid 11 = .ok (.invokevirtual 71, 3) := by decide +kernel
theorem dL_laid_14 : decode cL_laid 14 = .ok (.i2l, 1) := by decide +kernel
theorem dL_laid_15 : decode cL_laid 15 = .ok (.lastore, 1) := by decide +kernel
theorem dL_laid_16 : decode cL_laid 16 = .ok (.goto 11, 3) := by decide +kernel
theorem dL_laid_19 : decode cL_laid 19 = .ok (.astore 7, 2) := by decide +kernel
theorem dL_laid_21 : decode cL_laid 21 = .ok (.iconst 1, 1) := by decide +kernel
theorem dL_laid_22 : decode cL_laid 22 = .ok (.ireturn, 1) := by decide +kernel
theorem dL_laid_23 : decode cL_laid 23 = .ok (.astore 7, 2) := by decide +kernel
theorem dL_laid_25 : decode cL_laid 25 = .ok (.iconst 2, 1) := by decide +kernel
theorem dL_laid_26 : decode cL_laid 26 = .ok (.ireturn, 1) := by decide +kernel
theorem dL_laid_27 : decode cL_laid 27 = .ok (.iconst 0, 1) := by decide +kernel
theorem dL_laid_28 : decode cL_laid 28 = .ok (.ireturn, 1) := by decide +kernel
theorem dL_evening_0 : decode cL_evening 0 = .ok (.aload_n 2, 1) := by decide +kernel
theorem dL_evening_1 : decode cL_evening 1 = .ok (.iconst 0, 1) := by decide +kernel
theorem dL_evening_2 : decode cL_evening 2 = .ok (.aload_n 0, 1) := by decide +kernel
theorem dL_evening_3 : decode cL_evening 3 = .ok (.iload_n 1, 1) := by decide +kernel
theorem dL_evening_4 : decode cL_evening 4 = .ok (.invokevirtual 75, 3) := by decide +kernel
theorem dL_evening_7 : decode cL_evening 7 = .ok (.i2l, 1) := by decide +kernel
theorem dL_evening_8 : decode cL_evening 8 = .ok (.lastore, 1) := by decide +kernel
theorem dL_evening_9 : decode cL_evening 9 = .ok (.goto 6, 3) := by decide +kernel
theorem dL_evening_12 : decode cL_evening 12 = .ok (.astore_n 3, 1) := by decide +kernel
theorem dL_evening_13 : decode cL_evening 13 = .ok (.iconst 1, 1) := by decide +kernel
theorem dL_evening_14 : decode cL_evening 14 = .ok (.ireturn, 1) := by decide +kernel
theorem dL_evening_15 : decode cL_evening 15 = .ok (.iconst 0, 1) := by decide +kernel
theorem dL_evening_16 : decode cL_evening 16 = .ok (.ireturn, 1) := by decide +kernel
theorem dL_drawing_0 : decode cL_drawing 0 = .ok (.aload_n 2, 1) := by decide +kernel
theorem dL_drawing_1 : decode cL_drawing 1 = .ok (.iconst 0, 1) := by decide +kernel
theorem dL_drawing_2 : decode cL_drawing 2 = .ok (.aload_n 0, 1) := by decide +kernel
theorem dL_drawing_3 : decode cL_drawing 3 = .ok (.iload_n 1, 1) := by decide +kernel
theorem dL_drawing_4 : decode cL_drawing 4 = .ok (.invokevirtual 78, 3) := by decide +kernel
theorem dL_drawing_7 : decode cL_drawing 7 = .ok (.i2l, 1) := by decide +kernel
theorem dL_drawing_8 : decode cL_drawing 8 = .ok (.lastore, 1) := by decide +kernel
theorem dL_drawing_9 : decode cL_drawing 9 = .ok (.goto 6, 3) := by decide +kernel
theorem dL_drawing_12 : decode cL_drawing 12 = .ok (.astore_n 3, 1) := by decide +kernel
theorem dL_drawing_13 : decode cL_drawing 13 = .ok (.iconst 1, 1) := by decide +kernel
theorem dL_drawing_14 : decode cL_drawing 14 = .ok (.ireturn, 1) := by decide +kernel
theorem dL_drawing_15 : decode cL_drawing 15 = .ok (.iconst 0, 1) := by decide +kernel
theorem dL_drawing_16 : decode cL_drawing 16 = .ok (.ireturn, 1) := by decide +kernel
theorem dL_law_0 : decode cL_law 0 = .ok (.new 8, 3) := by decide +kernel
theorem dL_law_3 : decode cL_law 3 = .ok (.dup, 1) := by decide +kernel
theorem dL_law_4 : decode cL_law 4 = .ok (.invokespecial 81, 3) := by decide +kernel
theorem dL_law_7 : decode cL_law 7 = .ok (.astore_n 1, 1) := by decide +kernel
theorem dL_law_8 : decode cL_law 8 = .ok (.new 82, 3) := by decide +kernel
theorem dL_law_11 : decode cL_law 11 = .ok (.dup, 1) := by decide +kernel
theorem dL_law_12 : decode cL_law 12 = .ok (.invokespecial 84, 3) := by decide +kernel
theorem dL_law_15 : decode cL_law 15 = .ok (.astore_n 2, 1) := by decide +kernel
theorem dL_law_16 : decode cL_law 16 = .ok (.iconst 1, 1) := by decide +kernel
theorem dL_law_17 : decode cL_law 17 = .ok (.newarray .long, 2) := by decide +kernel
theorem dL_law_19 : decode cL_law 19 = .ok (.astore_n 3, 1) := by decide +kernel
theorem dL_law_20 : decode cL_law 20 = .ok (.iconst 0, 1) := by decide +kernel
theorem dL_law_21 : decode cL_law 21 = .ok (.istore 4, 2) := by decide +kernel
theorem dL_law_23 : decode cL_law 23 = .ok (.iload 4, 2) := by decide +kernel
theorem dL_law_25 : decode cL_law 25 = .ok (.aload_n 0, 1) := by decide +kernel
theorem dL_law_26 : decode cL_law 26 = .ok (.arraylength, 1) := by decide +kernel
theorem dL_law_27 : decode cL_law 27 = .ok (.bipush 6, 2) := by decide +kernel
theorem dL_law_29 : decode cL_law 29 = .ok (.isub, 1) := by decide +kernel
theorem dL_law_30 : decode cL_law 30 = .ok (.if_icmp .gt 1769, 3) := by decide +kernel
theorem dL_law_33 : decode cL_law 33 = .ok (.aload_n 0, 1) := by decide +kernel
theorem dL_law_34 : decode cL_law 34 = .ok (.iload 4, 2) := by decide +kernel
theorem dL_law_36 : decode cL_law 36 = .ok (.iaload, 1) := by decide +kernel
theorem dL_law_37 : decode cL_law 37 = .ok (.bipush 31, 2) := by decide +kernel
theorem dL_law_39 : decode cL_law 39 = .ok (.iand, 1) := by decide +kernel
theorem dL_law_40 : decode cL_law 40 = .ok (.tableswitch 1753 0 31 #[144, 217, 273, 329, 385, 441, 454, 510, 578, 658, 726, 794, 862, 942, 955, 968, 981, 1017, 1085, 1141, 1190, 1203, 1283, 1363, 1419, 1444, 1457, 1513, 1617, 1673, 1729, 1740], 144) := by decide +kernel
theorem dL_law_184 : decode cL_law 184 = .ok (.aload_n 1, 1) := by decide +kernel
theorem dL_law_185 : decode cL_law 185 = .ok (.aload_n 0, 1) := by decide +kernel
theorem dL_law_186 : decode cL_law 186 = .ok (.iload 4, 2) := by decide +kernel
theorem dL_law_188 : decode cL_law 188 = .ok (.iconst 1, 1) := by decide +kernel
theorem dL_law_189 : decode cL_law 189 = .ok (.iadd, 1) := by decide +kernel
theorem dL_law_190 : decode cL_law 190 = .ok (.iaload, 1) := by decide +kernel
theorem dL_law_191 : decode cL_law 191 = .ok (.aload_n 0, 1) := by decide +kernel
theorem dL_law_192 : decode cL_law 192 = .ok (.iload 4, 2) := by decide +kernel
theorem dL_law_194 : decode cL_law 194 = .ok (.iconst 2, 1) := by decide +kernel
theorem dL_law_195 : decode cL_law 195 = .ok (.iadd, 1) := by decide +kernel
theorem dL_law_196 : decode cL_law 196 = .ok (.iaload, 1) := by decide +kernel
theorem dL_law_197 : decode cL_law 197 = .ok (.aload_n 0, 1) := by decide +kernel
theorem dL_law_198 : decode cL_law 198 = .ok (.iload 4, 2) := by decide +kernel
theorem dL_law_200 : decode cL_law 200 = .ok (.iconst 3, 1) := by decide +kernel
theorem dL_law_201 : decode cL_law 201 = .ok (.iadd, 1) := by decide +kernel
theorem dL_law_202 : decode cL_law 202 = .ok (.iaload, 1) := by decide +kernel
theorem dL_law_203 : decode cL_law 203 = .ok (.aload_n 0, 1) := by decide +kernel
theorem dL_law_204 : decode cL_law 204 = .ok (.iload 4, 2) := by decide +kernel
theorem dL_law_206 : decode cL_law 206 = .ok (.iconst 4, 1) := by decide +kernel
theorem dL_law_207 : decode cL_law 207 = .ok (.iadd, 1) := by decide +kernel
theorem dL_law_208 : decode cL_law 208 = .ok (.iaload, 1) := by decide +kernel
theorem dL_law_209 : decode cL_law 209 = .ok (.aload_n 0, 1) := by decide +kernel
theorem dL_law_210 : decode cL_law 210 = .ok (.iload 4, 2) := by decide +kernel
theorem dL_law_212 : decode cL_law 212 = .ok (.iconst 5, 1) := by decide +kernel
theorem dL_law_213 : decode cL_law 213 = .ok (.iadd, 1) := by decide +kernel
theorem dL_law_214 : decode cL_law 214 = .ok (.iaload, 1) := by decide +kernel
theorem dL_law_215 : decode cL_law 215 = .ok (.invokevirtual 85, 3) := by decide +kernel
theorem dL_law_218 : decode cL_law 218 = .ok (.aload_n 2, 1) := by decide +kernel
theorem dL_law_219 : decode cL_law 219 = .ok (.aload_n 0, 1) := by decide +kernel
theorem dL_law_220 : decode cL_law 220 = .ok (.iload 4, 2) := by decide +kernel
theorem dL_law_222 : decode cL_law 222 = .ok (.iconst 1, 1) := by decide +kernel
theorem dL_law_223 : decode cL_law 223 = .ok (.iadd, 1) := by decide +kernel
theorem dL_law_224 : decode cL_law 224 = .ok (.iaload, 1) := by decide +kernel
theorem dL_law_225 : decode cL_law 225 = .ok (.aload_n 0, 1) := by decide +kernel
theorem dL_law_226 : decode cL_law 226 = .ok (.iload 4, 2) := by decide +kernel
theorem dL_law_228 : decode cL_law 228 = .ok (.iconst 2, 1) := by decide +kernel
theorem dL_law_229 : decode cL_law 229 = .ok (.iadd, 1) := by decide +kernel
theorem dL_law_230 : decode cL_law 230 = .ok (.iaload, 1) := by decide +kernel
theorem dL_law_231 : decode cL_law 231 = .ok (.aload_n 0, 1) := by decide +kernel
theorem dL_law_232 : decode cL_law 232 = .ok (.iload 4, 2) := by decide +kernel
theorem dL_law_234 : decode cL_law 234 = .ok (.iconst 3, 1) := by decide +kernel
theorem dL_law_235 : decode cL_law 235 = .ok (.iadd, 1) := by decide +kernel
theorem dL_law_236 : decode cL_law 236 = .ok (.iaload, 1) := by decide +kernel
theorem dL_law_237 : decode cL_law 237 = .ok (.aload_n 0, 1) := by decide +kernel
theorem dL_law_238 : decode cL_law 238 = .ok (.iload 4, 2) := by decide +kernel
theorem dL_law_240 : decode cL_law 240 = .ok (.iconst 4, 1) := by decide +kernel
theorem dL_law_241 : decode cL_law 241 = .ok (.iadd, 1) := by decide +kernel
theorem dL_law_242 : decode cL_law 242 = .ok (.iaload, 1) := by decide +kernel
theorem dL_law_243 : decode cL_law 243 = .ok (.aload_n 0, 1) := by decide +kernel
theorem dL_law_244 : decode cL_law 244 = .ok (.iload 4, 2) := by decide +kernel
theorem dL_law_246 : decode cL_law 246 = .ok (.iconst 5, 1) := by decide +kernel
theorem dL_law_247 : decode cL_law 247 = .ok (.iadd, 1) := by decide +kernel
theorem dL_law_248 : decode cL_law 248 = .ok (.iaload, 1) := by decide +kernel
theorem dL_law_249 : decode cL_law 249 = .ok (.invokevirtual 88, 3) := by decide +kernel
theorem dL_law_252 : decode cL_law 252 = .ok (.if_icmp .eq 1541, 3) := by decide +kernel
theorem dL_law_255 : decode cL_law 255 = .ok (.iconst 0, 1) := by decide +kernel
theorem dL_law_256 : decode cL_law 256 = .ok (.ireturn, 1) := by decide +kernel
theorem dL_law_257 : decode cL_law 257 = .ok (.aload_n 1, 1) := by decide +kernel
theorem dL_law_258 : decode cL_law 258 = .ok (.aload_n 0, 1) := by decide +kernel
theorem dL_law_259 : decode cL_law 259 = .ok (.iload 4, 2) := by decide +kernel
theorem dL_law_261 : decode cL_law 261 = .ok (.iconst 1, 1) := by decide +kernel
theorem dL_law_262 : decode cL_law 262 = .ok (.iadd, 1) := by decide +kernel
theorem dL_law_263 : decode cL_law 263 = .ok (.iaload, 1) := by decide +kernel
theorem dL_law_264 : decode cL_law 264 = .ok (.aload_n 3, 1) := by decide +kernel
theorem dL_law_265 : decode cL_law 265 = .ok (.invokestatic 89, 3) := by decide +kernel
theorem dL_law_268 : decode cL_law 268 = .ok (.istore 5, 2) := by decide +kernel
theorem dL_law_270 : decode cL_law 270 = .ok (.aload_n 2, 1) := by decide +kernel
theorem dL_law_271 : decode cL_law 271 = .ok (.aload_n 0, 1) := by decide +kernel
theorem dL_law_272 : decode cL_law 272 = .ok (.iload 4, 2) := by decide +kernel
theorem dL_law_274 : decode cL_law 274 = .ok (.iconst 1, 1) := by decide +kernel
theorem dL_law_275 : decode cL_law 275 = .ok (.iadd, 1) := by decide +kernel
theorem dL_law_276 : decode cL_law 276 = .ok (.iaload, 1) := by decide +kernel
theorem dL_law_277 : decode cL_law 277 = .ok (.invokevirtual 94, 3) := by decide +kernel
theorem dL_law_280 : decode cL_law 280 = .ok (.istore 6, 2) := by decide +kernel
theorem dL_law_282 : decode cL_law 282 = .ok (.aload_n 2, 1) := by decide +kernel
theorem dL_law_283 : decode cL_law 283 = .ok (.invokevirtual 95, 3) := by decide +kernel
theorem dL_law_286 : decode cL_law 286 = .ok (.iload 5, 2) := by decide +kernel
theorem dL_law_288 : decode cL_law 288 = .ok (.if_icmp .eq 5, 3) := by decide +kernel
theorem dL_law_291 : decode cL_law 291 = .ok (.iconst 0, 1) := by decide +kernel
theorem dL_law_292 : decode cL_law 292 = .ok (.ireturn, 1) := by decide +kernel
theorem dL_law_293 : decode cL_law 293 = .ok (.iload 5, 2) := by decide +kernel
theorem dL_law_295 : decode cL_law 295 = .ok (.ifCond .ne 15, 3) := by decide +kernel
theorem dL_law_298 : decode cL_law 298 = .ok (.aload_n 3, 1) := by decide +kernel
theorem dL_law_299 : decode cL_law 299 = .ok (.iconst 0, 1) := by decide +kernel
theorem dL_law_300 : decode cL_law 300 = .ok (.laload, 1) := by decide +kernel
theorem dL_law_301 : decode cL_law 301 = .ok (.iload 6, 2) := by decide +kernel
theorem dL_law_303 : decode cL_law 303 = .ok (.i2l, 1) := by decide +kernel
theorem dL_law_304 : decode cL_law 304 = .ok (.lcmp, 1) := by decide +kernel
theorem dL_law_305 : decode cL_law 305 = .ok (.ifCond .eq 5, 3) := by decide +kernel
theorem dL_law_308 : decode cL_law 308 = .ok (.iconst 0, 1) := by decide +kernel
theorem dL_law_309 : decode cL_law 309 = .ok (.ireturn, 1) := by decide +kernel
theorem dL_law_310 : decode cL_law 310 = .ok (.goto 1483, 3) := by decide +kernel
theorem dL_law_313 : decode cL_law 313 = .ok (.aload_n 1, 1) := by decide +kernel
theorem dL_law_314 : decode cL_law 314 = .ok (.aload_n 0, 1) := by decide +kernel
theorem dL_law_315 : decode cL_law 315 = .ok (.iload 4, 2) := by decide +kernel
theorem dL_law_317 : decode cL_law 317 = .ok (.iconst 1, 1) := by decide +kernel
theorem dL_law_318 : decode cL_law 318 = .ok (.iadd, 1) := by decide +kernel
theorem dL_law_319 : decode cL_law 319 = .ok (.iaload, 1) := by decide +kernel
theorem dL_law_320 : decode cL_law 320 = .ok (.aload_n 3, 1) := by decide +kernel
theorem dL_law_321 : decode cL_law 321 = .ok (.invokestatic 99, 3) := by decide +kernel
theorem dL_law_324 : decode cL_law 324 = .ok (.istore 5, 2) := by decide +kernel
theorem dL_law_326 : decode cL_law 326 = .ok (.aload_n 2, 1) := by decide +kernel
theorem dL_law_327 : decode cL_law 327 = .ok (.aload_n 0, 1) := by decide +kernel
theorem dL_law_328 : decode cL_law 328 = .ok (.iload 4, 2) := by decide +kernel
theorem dL_law_330 : decode cL_law 330 = .ok (.iconst 1, 1) := by decide +kernel
theorem dL_law_331 : decode cL_law 331 = .ok (.iadd, 1) := by decide +kernel
theorem dL_law_332 : decode cL_law 332 = .ok (.iaload, 1) := by decide +kernel
theorem dL_law_333 : decode cL_law 333 = .ok (.invokevirtual 101, 3) := by decide +kernel
theorem dL_law_336 : decode cL_law 336 = .ok (.istore 6, 2) := by decide +kernel
theorem dL_law_338 : decode cL_law 338 = .ok (.aload_n 2, 1) := by decide +kernel
theorem dL_law_339 : decode cL_law 339 = .ok (.invokevirtual 95, 3) := by decide +kernel
theorem dL_law_342 : decode cL_law 342 = .ok (.iload 5, 2) := by decide +kernel
theorem dL_law_344 : decode cL_law 344 = .ok (.if_icmp .eq 5, 3) := by decide +kernel
theorem dL_law_347 : decode cL_law 347 = .ok (.iconst 0, 1) := by decide +kernel
theorem dL_law_348 : decode cL_law 348 = .ok (.ireturn, 1) := by decide +kernel
theorem dL_law_349 : decode cL_law 349 = .ok (.iload 5, 2) := by decide +kernel
theorem dL_law_351 : decode cL_law 351 = .ok (.ifCond .ne 15, 3) := by decide +kernel
theorem dL_law_354 : decode cL_law 354 = .ok (.aload_n 3, 1) := by decide +kernel
theorem dL_law_355 : decode cL_law 355 = .ok (.iconst 0, 1) := by decide +kernel
theorem dL_law_356 : decode cL_law 356 = .ok (.laload, 1) := by decide +kernel
theorem dL_law_357 : decode cL_law 357 = .ok (.iload 6, 2) := by decide +kernel
theorem dL_law_359 : decode cL_law 359 = .ok (.i2l, 1) := by decide +kernel
theorem dL_law_360 : decode cL_law 360 = .ok (.lcmp, 1) := by decide +kernel
theorem dL_law_361 : decode cL_law 361 = .ok (.ifCond .eq 5, 3) := by decide +kernel
theorem dL_law_364 : decode cL_law 364 = .ok (.iconst 0, 1) := by decide +kernel
theorem dL_law_365 : decode cL_law 365 = .ok (.ireturn, 1) := by decide +kernel
theorem dL_law_366 : decode cL_law 366 = .ok (.goto 1427, 3) := by decide +kernel
theorem dL_law_369 : decode cL_law 369 = .ok (.aload_n 1, 1) := by decide +kernel
theorem dL_law_370 : decode cL_law 370 = .ok (.aload_n 0, 1) := by decide +kernel
theorem dL_law_371 : decode cL_law 371 = .ok (.iload 4, 2) := by decide +kernel
theorem dL_law_373 : decode cL_law 373 = .ok (.iconst 1, 1) := by decide +kernel
theorem dL_law_374 : decode cL_law 374 = .ok (.iadd, 1) := by decide +kernel
theorem dL_law_375 : decode cL_law 375 = .ok (.iaload, 1) := by decide +kernel
theorem dL_law_376 : decode cL_law 376 = .ok (.aload_n 3, 1) := by decide +kernel
theorem dL_law_377 : decode cL_law 377 = .ok (.invokestatic 102, 3) := by decide +kernel
theorem dL_law_380 : decode cL_law 380 = .ok (.istore 5, 2) := by decide +kernel
theorem dL_law_382 : decode cL_law 382 = .ok (.aload_n 2, 1) := by decide +kernel
theorem dL_law_383 : decode cL_law 383 = .ok (.aload_n 0, 1) := by decide +kernel
theorem dL_law_384 : decode cL_law 384 = .ok (.iload 4, 2) := by decide +kernel
theorem dL_law_386 : decode cL_law 386 = .ok (.iconst 1, 1) := by decide +kernel
theorem dL_law_387 : decode cL_law 387 = .ok (.iadd, 1) := by decide +kernel
theorem dL_law_388 : decode cL_law 388 = .ok (.iaload, 1) := by decide +kernel
theorem dL_law_389 : decode cL_law 389 = .ok (.invokevirtual 104, 3) := by decide +kernel
theorem dL_law_392 : decode cL_law 392 = .ok (.istore 6, 2) := by decide +kernel
theorem dL_law_394 : decode cL_law 394 = .ok (.aload_n 2, 1) := by decide +kernel
theorem dL_law_395 : decode cL_law 395 = .ok (.invokevirtual 95, 3) := by decide +kernel
theorem dL_law_398 : decode cL_law 398 = .ok (.iload 5, 2) := by decide +kernel
theorem dL_law_400 : decode cL_law 400 = .ok (.if_icmp .eq 5, 3) := by decide +kernel
theorem dL_law_403 : decode cL_law 403 = .ok (.iconst 0, 1) := by decide +kernel
theorem dL_law_404 : decode cL_law 404 = .ok (.ireturn, 1) := by decide +kernel
theorem dL_law_405 : decode cL_law 405 = .ok (.iload 5, 2) := by decide +kernel
theorem dL_law_407 : decode cL_law 407 = .ok (.ifCond .ne 15, 3) := by decide +kernel
theorem dL_law_410 : decode cL_law 410 = .ok (.aload_n 3, 1) := by decide +kernel
theorem dL_law_411 : decode cL_law 411 = .ok (.iconst 0, 1) := by decide +kernel
theorem dL_law_412 : decode cL_law 412 = .ok (.laload, 1) := by decide +kernel
theorem dL_law_413 : decode cL_law 413 = .ok (.iload 6, 2) := by decide +kernel
theorem dL_law_415 : decode cL_law 415 = .ok (.i2l, 1) := by decide +kernel
theorem dL_law_416 : decode cL_law 416 = .ok (.lcmp, 1) := by decide +kernel
theorem dL_law_417 : decode cL_law 417 = .ok (.ifCond .eq 5, 3) := by decide +kernel
theorem dL_law_420 : decode cL_law 420 = .ok (.iconst 0, 1) := by decide +kernel
theorem dL_law_421 : decode cL_law 421 = .ok (.ireturn, 1) := by decide +kernel
theorem dL_law_422 : decode cL_law 422 = .ok (.goto 1371, 3) := by decide +kernel
theorem dL_law_425 : decode cL_law 425 = .ok (.aload_n 1, 1) := by decide +kernel
theorem dL_law_426 : decode cL_law 426 = .ok (.aload_n 0, 1) := by decide +kernel
theorem dL_law_427 : decode cL_law 427 = .ok (.iload 4, 2) := by decide +kernel
theorem dL_law_429 : decode cL_law 429 = .ok (.iconst 1, 1) := by decide +kernel
theorem dL_law_430 : decode cL_law 430 = .ok (.iadd, 1) := by decide +kernel
theorem dL_law_431 : decode cL_law 431 = .ok (.iaload, 1) := by decide +kernel
theorem dL_law_432 : decode cL_law 432 = .ok (.aload_n 3, 1) := by decide +kernel
theorem dL_law_433 : decode cL_law 433 = .ok (.invokestatic 105, 3) := by decide +kernel
theorem dL_law_436 : decode cL_law 436 = .ok (.istore 5, 2) := by decide +kernel
theorem dL_law_438 : decode cL_law 438 = .ok (.aload_n 2, 1) := by decide +kernel
theorem dL_law_439 : decode cL_law 439 = .ok (.aload_n 0, 1) := by decide +kernel
theorem dL_law_440 : decode cL_law 440 = .ok (.iload 4, 2) := by decide +kernel
theorem dL_law_442 : decode cL_law 442 = .ok (.iconst 1, 1) := by decide +kernel
theorem dL_law_443 : decode cL_law 443 = .ok (.iadd, 1) := by decide +kernel
theorem dL_law_444 : decode cL_law 444 = .ok (.iaload, 1) := by decide +kernel
theorem dL_law_445 : decode cL_law 445 = .ok (.invokevirtual 107, 3) := by decide +kernel
theorem dL_law_448 : decode cL_law 448 = .ok (.istore 6, 2) := by decide +kernel
theorem dL_law_450 : decode cL_law 450 = .ok (.aload_n 2, 1) := by decide +kernel
theorem dL_law_451 : decode cL_law 451 = .ok (.invokevirtual 95, 3) := by decide +kernel
theorem dL_law_454 : decode cL_law 454 = .ok (.iload 5, 2) := by decide +kernel
theorem dL_law_456 : decode cL_law 456 = .ok (.if_icmp .eq 5, 3) := by decide +kernel
theorem dL_law_459 : decode cL_law 459 = .ok (.iconst 0, 1) := by decide +kernel
theorem dL_law_460 : decode cL_law 460 = .ok (.ireturn, 1) := by decide +kernel
theorem dL_law_461 : decode cL_law 461 = .ok (.iload 5, 2) := by decide +kernel
theorem dL_law_463 : decode cL_law 463 = .ok (.ifCond .ne 15, 3) := by decide +kernel
theorem dL_law_466 : decode cL_law 466 = .ok (.aload_n 3, 1) := by decide +kernel
theorem dL_law_467 : decode cL_law 467 = .ok (.iconst 0, 1) := by decide +kernel
theorem dL_law_468 : decode cL_law 468 = .ok (.laload, 1) := by decide +kernel
theorem dL_law_469 : decode cL_law 469 = .ok (.iload 6, 2) := by decide +kernel
theorem dL_law_471 : decode cL_law 471 = .ok (.i2l, 1) := by decide +kernel
theorem dL_law_472 : decode cL_law 472 = .ok (.lcmp, 1) := by decide +kernel
theorem dL_law_473 : decode cL_law 473 = .ok (.ifCond .eq 5, 3) := by decide +kernel
theorem dL_law_476 : decode cL_law 476 = .ok (.iconst 0, 1) := by decide +kernel
theorem dL_law_477 : decode cL_law 477 = .ok (.ireturn, 1) := by decide +kernel
theorem dL_law_478 : decode cL_law 478 = .ok (.goto 1315, 3) := by decide +kernel
theorem dL_law_481 : decode cL_law 481 = .ok (.aload_n 1, 1) := by decide +kernel
theorem dL_law_482 : decode cL_law 482 = .ok (.invokevirtual 108, 3) := by decide +kernel
theorem dL_law_485 : decode cL_law 485 = .ok (.aload_n 2, 1) := by decide +kernel
theorem dL_law_486 : decode cL_law 486 = .ok (.invokevirtual 111, 3) := by decide +kernel
theorem dL_law_489 : decode cL_law 489 = .ok (.if_icmp .eq 1304, 3) := by decide +kernel
theorem dL_law_492 : decode cL_law 492 = .ok (.iconst 0, 1) := by decide +kernel
theorem dL_law_493 : decode cL_law 493 = .ok (.ireturn, 1) := by decide +kernel
theorem dL_law_494 : decode cL_law 494 = .ok (.aload_n 1, 1) := by decide +kernel
theorem dL_law_495 : decode cL_law 495 = .ok (.aload_n 0, 1) := by decide +kernel
theorem dL_law_496 : decode cL_law 496 = .ok (.iload 4, 2) := by decide +kernel
theorem dL_law_498 : decode cL_law 498 = .ok (.iconst 1, 1) := by decide +kernel
theorem dL_law_499 : decode cL_law 499 = .ok (.iadd, 1) := by decide +kernel
theorem dL_law_500 : decode cL_law 500 = .ok (.iaload, 1) := by decide +kernel
theorem dL_law_501 : decode cL_law 501 = .ok (.aload_n 3, 1) := by decide +kernel
theorem dL_law_502 : decode cL_law 502 = .ok (.invokestatic 112, 3) := by decide +kernel
theorem dL_law_505 : decode cL_law 505 = .ok (.istore 5, 2) := by decide +kernel
theorem dL_law_507 : decode cL_law 507 = .ok (.aload_n 2, 1) := by decide +kernel
theorem dL_law_508 : decode cL_law 508 = .ok (.aload_n 0, 1) := by decide +kernel
theorem dL_law_509 : decode cL_law 509 = .ok (.iload 4, 2) := by decide +kernel
theorem dL_law_511 : decode cL_law 511 = .ok (.iconst 1, 1) := by decide +kernel
theorem dL_law_512 : decode cL_law 512 = .ok (.iadd, 1) := by decide +kernel
theorem dL_law_513 : decode cL_law 513 = .ok (.iaload, 1) := by decide +kernel
theorem dL_law_514 : decode cL_law 514 = .ok (.invokevirtual 114, 3) := by decide +kernel
theorem dL_law_517 : decode cL_law 517 = .ok (.istore 6, 2) := by decide +kernel
theorem dL_law_519 : decode cL_law 519 = .ok (.aload_n 2, 1) := by decide +kernel
theorem dL_law_520 : decode cL_law 520 = .ok (.invokevirtual 95, 3) := by decide +kernel
theorem dL_law_523 : decode cL_law 523 = .ok (.iload 5, 2) := by decide +kernel
theorem dL_law_525 : decode cL_law 525 = .ok (.if_icmp .eq 5, 3) := by decide +kernel
theorem dL_law_528 : decode cL_law 528 = .ok (.iconst 0, 1) := by decide +kernel
theorem dL_law_529 : decode cL_law 529 = .ok (.ireturn, 1) := by decide +kernel
theorem dL_law_530 : decode cL_law 530 = .ok (.iload 5, 2) := by decide +kernel
theorem dL_law_532 : decode cL_law 532 = .ok (.ifCond .ne 15, 3) := by decide +kernel
theorem dL_law_535 : decode cL_law 535 = .ok (.aload_n 3, 1) := by decide +kernel
theorem dL_law_536 : decode cL_law 536 = .ok (.iconst 0, 1) := by decide +kernel
theorem dL_law_537 : decode cL_law 537 = .ok (.laload, 1) := by decide +kernel
theorem dL_law_538 : decode cL_law 538 = .ok (.iload 6, 2) := by decide +kernel
theorem dL_law_540 : decode cL_law 540 = .ok (.i2l, 1) := by decide +kernel
theorem dL_law_541 : decode cL_law 541 = .ok (.lcmp, 1) := by decide +kernel
theorem dL_law_542 : decode cL_law 542 = .ok (.ifCond .eq 5, 3) := by decide +kernel
theorem dL_law_545 : decode cL_law 545 = .ok (.iconst 0, 1) := by decide +kernel
theorem dL_law_546 : decode cL_law 546 = .ok (.ireturn, 1) := by decide +kernel
theorem dL_law_547 : decode cL_law 547 = .ok (.goto 1246, 3) := by decide +kernel
theorem dL_law_550 : decode cL_law 550 = .ok (.aload_n 1, 1) := by decide +kernel
theorem dL_law_551 : decode cL_law 551 = .ok (.aload_n 0, 1) := by decide +kernel
theorem dL_law_552 : decode cL_law 552 = .ok (.iload 4, 2) := by decide +kernel
theorem dL_law_554 : decode cL_law 554 = .ok (.iconst 1, 1) := by decide +kernel
theorem dL_law_555 : decode cL_law 555 = .ok (.iadd, 1) := by decide +kernel
theorem dL_law_556 : decode cL_law 556 = .ok (.iaload, 1) := by decide +kernel
theorem dL_law_557 : decode cL_law 557 = .ok (.aload_n 0, 1) := by decide +kernel
theorem dL_law_558 : decode cL_law 558 = .ok (.iload 4, 2) := by decide +kernel
theorem dL_law_560 : decode cL_law 560 = .ok (.iconst 2, 1) := by decide +kernel
theorem dL_law_561 : decode cL_law 561 = .ok (.iadd, 1) := by decide +kernel
theorem dL_law_562 : decode cL_law 562 = .ok (.iaload, 1) := by decide +kernel
theorem dL_law_563 : decode cL_law 563 = .ok (.aload_n 3, 1) := by decide +kernel
theorem dL_law_564 : decode cL_law 564 = .ok (.invokestatic 115, 3) := by decide +kernel
theorem dL_law_567 : decode cL_law 567 = .ok (.istore 5, 2) := by decide +kernel
theorem dL_law_569 : decode cL_law 569 = .ok (.aload_n 2, 1) := by decide +kernel
theorem dL_law_570 : decode cL_law 570 = .ok (.aload_n 0, 1) := by decide +kernel
theorem dL_law_571 : decode cL_law 571 = .ok (.iload 4, 2) := by decide +kernel
theorem dL_law_573 : decode cL_law 573 = .ok (.iconst 1, 1) := by decide +kernel
theorem dL_law_574 : decode cL_law 574 = .ok (.iadd, 1) := by decide +kernel
theorem dL_law_575 : decode cL_law 575 = .ok (.iaload, 1) := by decide +kernel
theorem dL_law_576 : decode cL_law 576 = .ok (.aload_n 0, 1) := by decide +kernel
theorem dL_law_577 : decode cL_law 577 = .ok (.iload 4, 2) := by decide +kernel
theorem dL_law_579 : decode cL_law 579 = .ok (.iconst 2, 1) := by decide +kernel
theorem dL_law_580 : decode cL_law 580 = .ok (.iadd, 1) := by decide +kernel
theorem dL_law_581 : decode cL_law 581 = .ok (.iaload, 1) := by decide +kernel
theorem dL_law_582 : decode cL_law 582 = .ok (.invokevirtual 118, 3) := by decide +kernel
theorem dL_law_585 : decode cL_law 585 = .ok (.istore 6, 2) := by decide +kernel
theorem dL_law_587 : decode cL_law 587 = .ok (.aload_n 2, 1) := by decide +kernel
theorem dL_law_588 : decode cL_law 588 = .ok (.invokevirtual 95, 3) := by decide +kernel
theorem dL_law_591 : decode cL_law 591 = .ok (.iload 5, 2) := by decide +kernel
theorem dL_law_593 : decode cL_law 593 = .ok (.if_icmp .eq 5, 3) := by decide +kernel
theorem dL_law_596 : decode cL_law 596 = .ok (.iconst 0, 1) := by decide +kernel
theorem dL_law_597 : decode cL_law 597 = .ok (.ireturn, 1) := by decide +kernel
theorem dL_law_598 : decode cL_law 598 = .ok (.iload 5, 2) := by decide +kernel
theorem dL_law_600 : decode cL_law 600 = .ok (.ifCond .ne 15, 3) := by decide +kernel
theorem dL_law_603 : decode cL_law 603 = .ok (.aload_n 3, 1) := by decide +kernel
theorem dL_law_604 : decode cL_law 604 = .ok (.iconst 0, 1) := by decide +kernel
theorem dL_law_605 : decode cL_law 605 = .ok (.laload, 1) := by decide +kernel
theorem dL_law_606 : decode cL_law 606 = .ok (.iload 6, 2) := by decide +kernel
theorem dL_law_608 : decode cL_law 608 = .ok (.i2l, 1) := by decide +kernel
theorem dL_law_609 : decode cL_law 609 = .ok (.lcmp, 1) := by decide +kernel
theorem dL_law_610 : decode cL_law 610 = .ok (.ifCond .eq 5, 3) := by decide +kernel
theorem dL_law_613 : decode cL_law 613 = .ok (.iconst 0, 1) := by decide +kernel
theorem dL_law_614 : decode cL_law 614 = .ok (.ireturn, 1) := by decide +kernel
theorem dL_law_615 : decode cL_law 615 = .ok (.goto 1178, 3) := by decide +kernel
theorem dL_law_618 : decode cL_law 618 = .ok (.aload_n 1, 1) := by decide +kernel
theorem dL_law_619 : decode cL_law 619 = .ok (.aload_n 0, 1) := by decide +kernel
theorem dL_law_620 : decode cL_law 620 = .ok (.iload 4, 2) := by decide +kernel
theorem dL_law_622 : decode cL_law 622 = .ok (.iconst 1, 1) := by decide +kernel
theorem dL_law_623 : decode cL_law 623 = .ok (.iadd, 1) := by decide +kernel
theorem dL_law_624 : decode cL_law 624 = .ok (.iaload, 1) := by decide +kernel
theorem dL_law_625 : decode cL_law 625 = .ok (.aload_n 0, 1) := by decide +kernel
theorem dL_law_626 : decode cL_law 626 = .ok (.iload 4, 2) := by decide +kernel
theorem dL_law_628 : decode cL_law 628 = .ok (.iconst 2, 1) := by decide +kernel
theorem dL_law_629 : decode cL_law 629 = .ok (.iadd, 1) := by decide +kernel
theorem dL_law_630 : decode cL_law 630 = .ok (.iaload, 1) := by decide +kernel
theorem dL_law_631 : decode cL_law 631 = .ok (.aload_n 0, 1) := by decide +kernel
theorem dL_law_632 : decode cL_law 632 = .ok (.iload 4, 2) := by decide +kernel
theorem dL_law_634 : decode cL_law 634 = .ok (.iconst 3, 1) := by decide +kernel
theorem dL_law_635 : decode cL_law 635 = .ok (.iadd, 1) := by decide +kernel
theorem dL_law_636 : decode cL_law 636 = .ok (.iaload, 1) := by decide +kernel
theorem dL_law_637 : decode cL_law 637 = .ok (.aload_n 3, 1) := by decide +kernel
theorem dL_law_638 : decode cL_law 638 = .ok (.invokestatic 119, 3) := by decide +kernel
theorem dL_law_641 : decode cL_law 641 = .ok (.istore 5, 2) := by decide +kernel
theorem dL_law_643 : decode cL_law 643 = .ok (.aload_n 2, 1) := by decide +kernel
theorem dL_law_644 : decode cL_law 644 = .ok (.aload_n 0, 1) := by decide +kernel
theorem dL_law_645 : decode cL_law 645 = .ok (.iload 4, 2) := by decide +kernel
theorem dL_law_647 : decode cL_law 647 = .ok (.iconst 1, 1) := by decide +kernel
theorem dL_law_648 : decode cL_law 648 = .ok (.iadd, 1) := by decide +kernel
theorem dL_law_649 : decode cL_law 649 = .ok (.iaload, 1) := by decide +kernel
theorem dL_law_650 : decode cL_law 650 = .ok (.aload_n 0, 1) := by decide +kernel
theorem dL_law_651 : decode cL_law 651 = .ok (.iload 4, 2) := by decide +kernel
theorem dL_law_653 : decode cL_law 653 = .ok (.iconst 2, 1) := by decide +kernel
theorem dL_law_654 : decode cL_law 654 = .ok (.iadd, 1) := by decide +kernel
theorem dL_law_655 : decode cL_law 655 = .ok (.iaload, 1) := by decide +kernel
theorem dL_law_656 : decode cL_law 656 = .ok (.aload_n 0, 1) := by decide +kernel
theorem dL_law_657 : decode cL_law 657 = .ok (.iload 4, 2) := by decide +kernel
theorem dL_law_659 : decode cL_law 659 = .ok (.iconst 3, 1) := by decide +kernel
theorem dL_law_660 : decode cL_law 660 = .ok (.iadd, 1) := by decide +kernel
theorem dL_law_661 : decode cL_law 661 = .ok (.iaload, 1) := by decide +kernel
theorem dL_law_662 : decode cL_law 662 = .ok (.invokevirtual 122, 3) := by decide +kernel
theorem dL_law_665 : decode cL_law 665 = .ok (.istore 6, 2) := by decide +kernel
theorem dL_law_667 : decode cL_law 667 = .ok (.aload_n 2, 1) := by decide +kernel
theorem dL_law_668 : decode cL_law 668 = .ok (.invokevirtual 95, 3) := by decide +kernel
theorem dL_law_671 : decode cL_law 671 = .ok (.iload 5, 2) := by decide +kernel
theorem dL_law_673 : decode cL_law 673 = .ok (.if_icmp .eq 5, 3) := by decide +kernel
theorem dL_law_676 : decode cL_law 676 = .ok (.iconst 0, 1) := by decide +kernel
theorem dL_law_677 : decode cL_law 677 = .ok (.ireturn, 1) := by decide +kernel
theorem dL_law_678 : decode cL_law 678 = .ok (.iload 5, 2) := by decide +kernel
theorem dL_law_680 : decode cL_law 680 = .ok (.ifCond .ne 15, 3) := by decide +kernel
theorem dL_law_683 : decode cL_law 683 = .ok (.aload_n 3, 1) := by decide +kernel
theorem dL_law_684 : decode cL_law 684 = .ok (.iconst 0, 1) := by decide +kernel
theorem dL_law_685 : decode cL_law 685 = .ok (.laload, 1) := by decide +kernel
theorem dL_law_686 : decode cL_law 686 = .ok (.iload 6, 2) := by decide +kernel
theorem dL_law_688 : decode cL_law 688 = .ok (.i2l, 1) := by decide +kernel
theorem dL_law_689 : decode cL_law 689 = .ok (.lcmp, 1) := by decide +kernel
theorem dL_law_690 : decode cL_law 690 = .ok (.ifCond .eq 5, 3) := by decide +kernel
theorem dL_law_693 : decode cL_law 693 = .ok (.iconst 0, 1) := by decide +kernel
theorem dL_law_694 : decode cL_law 694 = .ok (.ireturn, 1) := by decide +kernel
theorem dL_law_695 : decode cL_law 695 = .ok (.goto 1098, 3) := by decide +kernel
theorem dL_law_698 : decode cL_law 698 = .ok (.aload_n 1, 1) := by decide +kernel
theorem dL_law_699 : decode cL_law 699 = .ok (.aload_n 0, 1) := by decide +kernel
theorem dL_law_700 : decode cL_law 700 = .ok (.iload 4, 2) := by decide +kernel
theorem dL_law_702 : decode cL_law 702 = .ok (.iconst 1, 1) := by decide +kernel
theorem dL_law_703 : decode cL_law 703 = .ok (.iadd, 1) := by decide +kernel
theorem dL_law_704 : decode cL_law 704 = .ok (.iaload, 1) := by decide +kernel
theorem dL_law_705 : decode cL_law 705 = .ok (.aload_n 0, 1) := by decide +kernel
theorem dL_law_706 : decode cL_law 706 = .ok (.iload 4, 2) := by decide +kernel
theorem dL_law_708 : decode cL_law 708 = .ok (.iconst 2, 1) := by decide +kernel
theorem dL_law_709 : decode cL_law 709 = .ok (.iadd, 1) := by decide +kernel
theorem dL_law_710 : decode cL_law 710 = .ok (.iaload, 1) := by decide +kernel
theorem dL_law_711 : decode cL_law 711 = .ok (.aload_n 3, 1) := by decide +kernel
theorem dL_law_712 : decode cL_law 712 = .ok (.invokestatic 123, 3) := by decide +kernel
theorem dL_law_715 : decode cL_law 715 = .ok (.istore 5, 2) := by decide +kernel
theorem dL_law_717 : decode cL_law 717 = .ok (.aload_n 2, 1) := by decide +kernel
theorem dL_law_718 : decode cL_law 718 = .ok (.aload_n 0, 1) := by decide +kernel
theorem dL_law_719 : decode cL_law 719 = .ok (.iload 4, 2) := by decide +kernel
theorem dL_law_721 : decode cL_law 721 = .ok (.iconst 1, 1) := by decide +kernel
theorem dL_law_722 : decode cL_law 722 = .ok (.iadd, 1) := by decide +kernel
theorem dL_law_723 : decode cL_law 723 = .ok (.iaload, 1) := by decide +kernel
theorem dL_law_724 : decode cL_law 724 = .ok (.aload_n 0, 1) := by decide +kernel
theorem dL_law_725 : decode cL_law 725 = .ok (.iload 4, 2) := by decide +kernel
theorem dL_law_727 : decode cL_law 727 = .ok (.iconst 2, 1) := by decide +kernel
theorem dL_law_728 : decode cL_law 728 = .ok (.iadd, 1) := by decide +kernel
theorem dL_law_729 : decode cL_law 729 = .ok (.iaload, 1) := by decide +kernel
theorem dL_law_730 : decode cL_law 730 = .ok (.invokevirtual 125, 3) := by decide +kernel
theorem dL_law_733 : decode cL_law 733 = .ok (.istore 6, 2) := by decide +kernel
theorem dL_law_735 : decode cL_law 735 = .ok (.aload_n 2, 1) := by decide +kernel
theorem dL_law_736 : decode cL_law 736 = .ok (.invokevirtual 95, 3) := by decide +kernel
theorem dL_law_739 : decode cL_law 739 = .ok (.iload 5, 2) := by decide +kernel
theorem dL_law_741 : decode cL_law 741 = .ok (.if_icmp .eq 5, 3) := by decide +kernel
theorem dL_law_744 : decode cL_law 744 = .ok (.iconst 0, 1) := by decide +kernel
theorem dL_law_745 : decode cL_law 745 = .ok (.ireturn, 1) := by decide +kernel
theorem dL_law_746 : decode cL_law 746 = .ok (.iload 5, 2) := by decide +kernel
theorem dL_law_748 : decode cL_law 748 = .ok (.ifCond .ne 15, 3) := by decide +kernel
theorem dL_law_751 : decode cL_law 751 = .ok (.aload_n 3, 1) := by decide +kernel
theorem dL_law_752 : decode cL_law 752 = .ok (.iconst 0, 1) := by decide +kernel
theorem dL_law_753 : decode cL_law 753 = .ok (.laload, 1) := by decide +kernel
theorem dL_law_754 : decode cL_law 754 = .ok (.iload 6, 2) := by decide +kernel
theorem dL_law_756 : decode cL_law 756 = .ok (.i2l, 1) := by decide +kernel
theorem dL_law_757 : decode cL_law 757 = .ok (.lcmp, 1) := by decide +kernel
theorem dL_law_758 : decode cL_law 758 = .ok (.ifCond .eq 5, 3) := by decide +kernel
theorem dL_law_761 : decode cL_law 761 = .ok (.iconst 0, 1) := by decide +kernel
theorem dL_law_762 : decode cL_law 762 = .ok (.ireturn, 1) := by decide +kernel
theorem dL_law_763 : decode cL_law 763 = .ok (.goto 1030, 3) := by decide +kernel
theorem dL_law_766 : decode cL_law 766 = .ok (.aload_n 1, 1) := by decide +kernel
theorem dL_law_767 : decode cL_law 767 = .ok (.aload_n 0, 1) := by decide +kernel
theorem dL_law_768 : decode cL_law 768 = .ok (.iload 4, 2) := by decide +kernel
theorem dL_law_770 : decode cL_law 770 = .ok (.iconst 1, 1) := by decide +kernel
theorem dL_law_771 : decode cL_law 771 = .ok (.iadd, 1) := by decide +kernel
theorem dL_law_772 : decode cL_law 772 = .ok (.iaload, 1) := by decide +kernel
theorem dL_law_773 : decode cL_law 773 = .ok (.aload_n 0, 1) := by decide +kernel
theorem dL_law_774 : decode cL_law 774 = .ok (.iload 4, 2) := by decide +kernel
theorem dL_law_776 : decode cL_law 776 = .ok (.iconst 2, 1) := by decide +kernel
theorem dL_law_777 : decode cL_law 777 = .ok (.iadd, 1) := by decide +kernel
theorem dL_law_778 : decode cL_law 778 = .ok (.iaload, 1) := by decide +kernel
theorem dL_law_779 : decode cL_law 779 = .ok (.aload_n 3, 1) := by decide +kernel
theorem dL_law_780 : decode cL_law 780 = .ok (.invokestatic 126, 3) := by decide +kernel
theorem dL_law_783 : decode cL_law 783 = .ok (.istore 5, 2) := by decide +kernel
theorem dL_law_785 : decode cL_law 785 = .ok (.aload_n 2, 1) := by decide +kernel
theorem dL_law_786 : decode cL_law 786 = .ok (.aload_n 0, 1) := by decide +kernel
theorem dL_law_787 : decode cL_law 787 = .ok (.iload 4, 2) := by decide +kernel
theorem dL_law_789 : decode cL_law 789 = .ok (.iconst 1, 1) := by decide +kernel
theorem dL_law_790 : decode cL_law 790 = .ok (.iadd, 1) := by decide +kernel
theorem dL_law_791 : decode cL_law 791 = .ok (.iaload, 1) := by decide +kernel
theorem dL_law_792 : decode cL_law 792 = .ok (.aload_n 0, 1) := by decide +kernel
theorem dL_law_793 : decode cL_law 793 = .ok (.iload 4, 2) := by decide +kernel
theorem dL_law_795 : decode cL_law 795 = .ok (.iconst 2, 1) := by decide +kernel
theorem dL_law_796 : decode cL_law 796 = .ok (.iadd, 1) := by decide +kernel
theorem dL_law_797 : decode cL_law 797 = .ok (.iaload, 1) := by decide +kernel
theorem dL_law_798 : decode cL_law 798 = .ok (.invokevirtual 128, 3) := by decide +kernel
theorem dL_law_801 : decode cL_law 801 = .ok (.istore 6, 2) := by decide +kernel
theorem dL_law_803 : decode cL_law 803 = .ok (.aload_n 2, 1) := by decide +kernel
theorem dL_law_804 : decode cL_law 804 = .ok (.invokevirtual 95, 3) := by decide +kernel
theorem dL_law_807 : decode cL_law 807 = .ok (.iload 5, 2) := by decide +kernel
theorem dL_law_809 : decode cL_law 809 = .ok (.if_icmp .eq 5, 3) := by decide +kernel
theorem dL_law_812 : decode cL_law 812 = .ok (.iconst 0, 1) := by decide +kernel
theorem dL_law_813 : decode cL_law 813 = .ok (.ireturn, 1) := by decide +kernel
theorem dL_law_814 : decode cL_law 814 = .ok (.iload 5, 2) := by decide +kernel
theorem dL_law_816 : decode cL_law 816 = .ok (.ifCond .ne 15, 3) := by decide +kernel
theorem dL_law_819 : decode cL_law 819 = .ok (.aload_n 3, 1) := by decide +kernel
theorem dL_law_820 : decode cL_law 820 = .ok (.iconst 0, 1) := by decide +kernel
theorem dL_law_821 : decode cL_law 821 = .ok (.laload, 1) := by decide +kernel
theorem dL_law_822 : decode cL_law 822 = .ok (.iload 6, 2) := by decide +kernel
theorem dL_law_824 : decode cL_law 824 = .ok (.i2l, 1) := by decide +kernel
theorem dL_law_825 : decode cL_law 825 = .ok (.lcmp, 1) := by decide +kernel
theorem dL_law_826 : decode cL_law 826 = .ok (.ifCond .eq 5, 3) := by decide +kernel
theorem dL_law_829 : decode cL_law 829 = .ok (.iconst 0, 1) := by decide +kernel
theorem dL_law_830 : decode cL_law 830 = .ok (.ireturn, 1) := by decide +kernel
theorem dL_law_831 : decode cL_law 831 = .ok (.goto 962, 3) := by decide +kernel
theorem dL_law_834 : decode cL_law 834 = .ok (.aload_n 1, 1) := by decide +kernel
theorem dL_law_835 : decode cL_law 835 = .ok (.aload_n 0, 1) := by decide +kernel
theorem dL_law_836 : decode cL_law 836 = .ok (.iload 4, 2) := by decide +kernel
theorem dL_law_838 : decode cL_law 838 = .ok (.iconst 1, 1) := by decide +kernel
theorem dL_law_839 : decode cL_law 839 = .ok (.iadd, 1) := by decide +kernel
theorem dL_law_840 : decode cL_law 840 = .ok (.iaload, 1) := by decide +kernel
theorem dL_law_841 : decode cL_law 841 = .ok (.aload_n 0, 1) := by decide +kernel
theorem dL_law_842 : decode cL_law 842 = .ok (.iload 4, 2) := by decide +kernel
theorem dL_law_844 : decode cL_law 844 = .ok (.iconst 2, 1) := by decide +kernel
theorem dL_law_845 : decode cL_law 845 = .ok (.iadd, 1) := by decide +kernel
theorem dL_law_846 : decode cL_law 846 = .ok (.iaload, 1) := by decide +kernel
theorem dL_law_847 : decode cL_law 847 = .ok (.aload_n 3, 1) := by decide +kernel
theorem dL_law_848 : decode cL_law 848 = .ok (.invokestatic 129, 3) := by decide +kernel
theorem dL_law_851 : decode cL_law 851 = .ok (.istore 5, 2) := by decide +kernel
theorem dL_law_853 : decode cL_law 853 = .ok (.aload_n 2, 1) := by decide +kernel
theorem dL_law_854 : decode cL_law 854 = .ok (.aload_n 0, 1) := by decide +kernel
theorem dL_law_855 : decode cL_law 855 = .ok (.iload 4, 2) := by decide +kernel
theorem dL_law_857 : decode cL_law 857 = .ok (.iconst 1, 1) := by decide +kernel
theorem dL_law_858 : decode cL_law 858 = .ok (.iadd, 1) := by decide +kernel
theorem dL_law_859 : decode cL_law 859 = .ok (.iaload, 1) := by decide +kernel
theorem dL_law_860 : decode cL_law 860 = .ok (.aload_n 0, 1) := by decide +kernel
theorem dL_law_861 : decode cL_law 861 = .ok (.iload 4, 2) := by decide +kernel
theorem dL_law_863 : decode cL_law 863 = .ok (.iconst 2, 1) := by decide +kernel
theorem dL_law_864 : decode cL_law 864 = .ok (.iadd, 1) := by decide +kernel
theorem dL_law_865 : decode cL_law 865 = .ok (.iaload, 1) := by decide +kernel
theorem dL_law_866 : decode cL_law 866 = .ok (.invokevirtual 131, 3) := by decide +kernel
theorem dL_law_869 : decode cL_law 869 = .ok (.istore 6, 2) := by decide +kernel
theorem dL_law_871 : decode cL_law 871 = .ok (.aload_n 2, 1) := by decide +kernel
theorem dL_law_872 : decode cL_law 872 = .ok (.invokevirtual 95, 3) := by decide +kernel
theorem dL_law_875 : decode cL_law 875 = .ok (.iload 5, 2) := by decide +kernel
theorem dL_law_877 : decode cL_law 877 = .ok (.if_icmp .eq 5, 3) := by decide +kernel
theorem dL_law_880 : decode cL_law 880 = .ok (.iconst 0, 1) := by decide +kernel
theorem dL_law_881 : decode cL_law 881 = .ok (.ireturn, 1) := by decide +kernel
theorem dL_law_882 : decode cL_law 882 = .ok (.iload 5, 2) := by decide +kernel
theorem dL_law_884 : decode cL_law 884 = .ok (.ifCond .ne 15, 3) := by decide +kernel
theorem dL_law_887 : decode cL_law 887 = .ok (.aload_n 3, 1) := by decide +kernel
theorem dL_law_888 : decode cL_law 888 = .ok (.iconst 0, 1) := by decide +kernel
theorem dL_law_889 : decode cL_law 889 = .ok (.laload, 1) := by decide +kernel
theorem dL_law_890 : decode cL_law 890 = .ok (.iload 6, 2) := by decide +kernel
theorem dL_law_892 : decode cL_law 892 = .ok (.i2l, 1) := by decide +kernel
theorem dL_law_893 : decode cL_law 893 = .ok (.lcmp, 1) := by decide +kernel
theorem dL_law_894 : decode cL_law 894 = .ok (.ifCond .eq 5, 3) := by decide +kernel
theorem dL_law_897 : decode cL_law 897 = .ok (.iconst 0, 1) := by decide +kernel
theorem dL_law_898 : decode cL_law 898 = .ok (.ireturn, 1) := by decide +kernel
theorem dL_law_899 : decode cL_law 899 = .ok (.goto 894, 3) := by decide +kernel
theorem dL_law_902 : decode cL_law 902 = .ok (.aload_n 1, 1) := by decide +kernel
theorem dL_law_903 : decode cL_law 903 = .ok (.aload_n 0, 1) := by decide +kernel
theorem dL_law_904 : decode cL_law 904 = .ok (.iload 4, 2) := by decide +kernel
theorem dL_law_906 : decode cL_law 906 = .ok (.iconst 1, 1) := by decide +kernel
theorem dL_law_907 : decode cL_law 907 = .ok (.iadd, 1) := by decide +kernel
theorem dL_law_908 : decode cL_law 908 = .ok (.iaload, 1) := by decide +kernel
theorem dL_law_909 : decode cL_law 909 = .ok (.aload_n 0, 1) := by decide +kernel
theorem dL_law_910 : decode cL_law 910 = .ok (.iload 4, 2) := by decide +kernel
theorem dL_law_912 : decode cL_law 912 = .ok (.iconst 2, 1) := by decide +kernel
theorem dL_law_913 : decode cL_law 913 = .ok (.iadd, 1) := by decide +kernel
theorem dL_law_914 : decode cL_law 914 = .ok (.iaload, 1) := by decide +kernel
theorem dL_law_915 : decode cL_law 915 = .ok (.aload_n 0, 1) := by decide +kernel
theorem dL_law_916 : decode cL_law 916 = .ok (.iload 4, 2) := by decide +kernel
theorem dL_law_918 : decode cL_law 918 = .ok (.iconst 3, 1) := by decide +kernel
theorem dL_law_919 : decode cL_law 919 = .ok (.iadd, 1) := by decide +kernel
theorem dL_law_920 : decode cL_law 920 = .ok (.iaload, 1) := by decide +kernel
theorem dL_law_921 : decode cL_law 921 = .ok (.aload_n 3, 1) := by decide +kernel
theorem dL_law_922 : decode cL_law 922 = .ok (.invokestatic 132, 3) := by decide +kernel
theorem dL_law_925 : decode cL_law 925 = .ok (.istore 5, 2) := by decide +kernel
theorem dL_law_927 : decode cL_law 927 = .ok (.aload_n 2, 1) := by decide +kernel
theorem dL_law_928 : decode cL_law 928 = .ok (.aload_n 0, 1) := by decide +kernel
theorem dL_law_929 : decode cL_law 929 = .ok (.iload 4, 2) := by decide +kernel
theorem dL_law_931 : decode cL_law 931 = .ok (.iconst 1, 1) := by decide +kernel
theorem dL_law_932 : decode cL_law 932 = .ok (.iadd, 1) := by decide +kernel
theorem dL_law_933 : decode cL_law 933 = .ok (.iaload, 1) := by decide +kernel
theorem dL_law_934 : decode cL_law 934 = .ok (.aload_n 0, 1) := by decide +kernel
theorem dL_law_935 : decode cL_law 935 = .ok (.iload 4, 2) := by decide +kernel
theorem dL_law_937 : decode cL_law 937 = .ok (.iconst 2, 1) := by decide +kernel
theorem dL_law_938 : decode cL_law 938 = .ok (.iadd, 1) := by decide +kernel
theorem dL_law_939 : decode cL_law 939 = .ok (.iaload, 1) := by decide +kernel
theorem dL_law_940 : decode cL_law 940 = .ok (.aload_n 0, 1) := by decide +kernel
theorem dL_law_941 : decode cL_law 941 = .ok (.iload 4, 2) := by decide +kernel
theorem dL_law_943 : decode cL_law 943 = .ok (.iconst 3, 1) := by decide +kernel
theorem dL_law_944 : decode cL_law 944 = .ok (.iadd, 1) := by decide +kernel
theorem dL_law_945 : decode cL_law 945 = .ok (.iaload, 1) := by decide +kernel
theorem dL_law_946 : decode cL_law 946 = .ok (.invokevirtual 134, 3) := by decide +kernel
theorem dL_law_949 : decode cL_law 949 = .ok (.istore 6, 2) := by decide +kernel
theorem dL_law_951 : decode cL_law 951 = .ok (.aload_n 2, 1) := by decide +kernel
theorem dL_law_952 : decode cL_law 952 = .ok (.invokevirtual 95, 3) := by decide +kernel
theorem dL_law_955 : decode cL_law 955 = .ok (.iload 5, 2) := by decide +kernel
theorem dL_law_957 : decode cL_law 957 = .ok (.if_icmp .eq 5, 3) := by decide +kernel
theorem dL_law_960 : decode cL_law 960 = .ok (.iconst 0, 1) := by decide +kernel
theorem dL_law_961 : decode cL_law 961 = .ok (.ireturn, 1) := by decide +kernel
theorem dL_law_962 : decode cL_law 962 = .ok (.iload 5, 2) := by decide +kernel
theorem dL_law_964 : decode cL_law 964 = .ok (.ifCond .ne 15, 3) := by decide +kernel
theorem dL_law_967 : decode cL_law 967 = .ok (.aload_n 3, 1) := by decide +kernel
theorem dL_law_968 : decode cL_law 968 = .ok (.iconst 0, 1) := by decide +kernel
theorem dL_law_969 : decode cL_law 969 = .ok (.laload, 1) := by decide +kernel
theorem dL_law_970 : decode cL_law 970 = .ok (.iload 6, 2) := by decide +kernel
theorem dL_law_972 : decode cL_law 972 = .ok (.i2l, 1) := by decide +kernel
theorem dL_law_973 : decode cL_law 973 = .ok (.lcmp, 1) := by decide +kernel
theorem dL_law_974 : decode cL_law 974 = .ok (.ifCond .eq 5, 3) := by decide +kernel
theorem dL_law_977 : decode cL_law 977 = .ok (.iconst 0, 1) := by decide +kernel
theorem dL_law_978 : decode cL_law 978 = .ok (.ireturn, 1) := by decide +kernel
theorem dL_law_979 : decode cL_law 979 = .ok (.goto 814, 3) := by decide +kernel
theorem dL_law_982 : decode cL_law 982 = .ok (.aload_n 1, 1) := by decide +kernel
theorem dL_law_983 : decode cL_law 983 = .ok (.invokevirtual 135, 3) := by decide +kernel
theorem dL_law_986 : decode cL_law 986 = .ok (.aload_n 2, 1) := by decide +kernel
theorem dL_law_987 : decode cL_law 987 = .ok (.invokevirtual 138, 3) := by decide +kernel
theorem dL_law_990 : decode cL_law 990 = .ok (.if_icmp .eq 803, 3) := by decide +kernel
theorem dL_law_993 : decode cL_law 993 = .ok (.iconst 0, 1) := by decide +kernel
theorem dL_law_994 : decode cL_law 994 = .ok (.ireturn, 1) := by decide +kernel
theorem dL_law_995 : decode cL_law 995 = .ok (.aload_n 1, 1) := by decide +kernel
theorem dL_law_996 : decode cL_law 996 = .ok (.invokevirtual 139, 3) := by decide +kernel
theorem dL_law_999 : decode cL_law 999 = .ok (.aload_n 2, 1) := by decide +kernel
theorem dL_law_1000 : decode cL_law 1000 = .ok (.invokevirtual 142, 3) := by decide +kernel
theorem dL_law_1003 : decode cL_law 1003 = .ok (.if_icmp .eq 790, 3) := by decide +kernel
theorem dL_law_1006 : decode cL_law 1006 = .ok (.iconst 0, 1) := by decide +kernel
theorem dL_law_1007 : decode cL_law 1007 = .ok (.ireturn, 1) := by decide +kernel
theorem dL_law_1008 : decode cL_law 1008 = .ok (.aload_n 1, 1) := by decide +kernel
theorem dL_law_1009 : decode cL_law 1009 = .ok (.invokevirtual 143, 3) := by decide +kernel
theorem dL_law_1012 : decode cL_law 1012 = .ok (.aload_n 2, 1) := by decide +kernel
theorem dL_law_1013 : decode cL_law 1013 = .ok (.invokevirtual 146, 3) := by decide +kernel
theorem dL_law_1016 : decode cL_law 1016 = .ok (.if_icmp .eq 777, 3) := by decide +kernel
theorem dL_law_1019 : decode cL_law 1019 = .ok (.iconst 0, 1) := by decide +kernel
theorem dL_law_1020 : decode cL_law 1020 = .ok (.ireturn, 1) := by decide +kernel
theorem dL_law_1021 : decode cL_law 1021 = .ok (.aload_n 1, 1) := by decide +kernel
theorem dL_law_1022 : decode cL_law 1022 = .ok (.aload_n 0, 1) := by decide +kernel
theorem dL_law_1023 : decode cL_law 1023 = .ok (.iload 4, 2) := by decide +kernel
theorem dL_law_1025 : decode cL_law 1025 = .ok (.iconst 1, 1) := by decide +kernel
theorem dL_law_1026 : decode cL_law 1026 = .ok (.iadd, 1) := by decide +kernel
theorem dL_law_1027 : decode cL_law 1027 = .ok (.iaload, 1) := by decide +kernel
theorem dL_law_1028 : decode cL_law 1028 = .ok (.invokestatic 147, 3) := by decide +kernel
theorem dL_law_1031 : decode cL_law 1031 = .ok (.istore 5, 2) := by decide +kernel
theorem dL_law_1033 : decode cL_law 1033 = .ok (.aload_n 2, 1) := by decide +kernel
theorem dL_law_1034 : decode cL_law 1034 = .ok (.aload_n 0, 1) := by decide +kernel
theorem dL_law_1035 : decode cL_law 1035 = .ok (.iload 4, 2) := by decide +kernel
theorem dL_law_1037 : decode cL_law 1037 = .ok (.iconst 1, 1) := by decide +kernel
theorem dL_law_1038 : decode cL_law 1038 = .ok (.iadd, 1) := by decide +kernel
theorem dL_law_1039 : decode cL_law 1039 = .ok (.iaload, 1) := by decide +kernel
theorem dL_law_1040 : decode cL_law 1040 = .ok (.invokevirtual 150, 3) := by decide +kernel
theorem dL_law_1043 : decode cL_law 1043 = .ok (.aload_n 2, 1) := by decide +kernel
theorem dL_law_1044 : decode cL_law 1044 = .ok (.invokevirtual 95, 3) := by decide +kernel
theorem dL_law_1047 : decode cL_law 1047 = .ok (.iload 5, 2) := by decide +kernel
theorem dL_law_1049 : decode cL_law 1049 = .ok (.if_icmp .eq 5, 3) := by decide +kernel
theorem dL_law_1052 : decode cL_law 1052 = .ok (.iconst 0, 1) := by decide +kernel
theorem dL_law_1053 : decode cL_law 1053 = .ok (.ireturn, 1) := by decide +kernel
theorem dL_law_1054 : decode cL_law 1054 = .ok (.goto 739, 3) := by decide +kernel
theorem dL_law_1057 : decode cL_law 1057 = .ok (.aload_n 1, 1) := by decide +kernel
theorem dL_law_1058 : decode cL_law 1058 = .ok (.aload_n 0, 1) := by decide +kernel
theorem dL_law_1059 : decode cL_law 1059 = .ok (.iload 4, 2) := by decide +kernel
theorem dL_law_1061 : decode cL_law 1061 = .ok (.iconst 1, 1) := by decide +kernel
theorem dL_law_1062 : decode cL_law 1062 = .ok (.iadd, 1) := by decide +kernel
theorem dL_law_1063 : decode cL_law 1063 = .ok (.iaload, 1) := by decide +kernel
theorem dL_law_1064 : decode cL_law 1064 = .ok (.aload_n 0, 1) := by decide +kernel
theorem dL_law_1065 : decode cL_law 1065 = .ok (.iload 4, 2) := by decide +kernel
theorem dL_law_1067 : decode cL_law 1067 = .ok (.iconst 2, 1) := by decide +kernel
theorem dL_law_1068 : decode cL_law 1068 = .ok (.iadd, 1) := by decide +kernel
theorem dL_law_1069 : decode cL_law 1069 = .ok (.iaload, 1) := by decide +kernel
theorem dL_law_1070 : decode cL_law 1070 = .ok (.aload_n 3, 1) := by decide +kernel
theorem dL_law_1071 : decode cL_law 1071 = .ok (.invokestatic 151, 3) := by decide +kernel
theorem dL_law_1074 : decode cL_law 1074 = .ok (.istore 5, 2) := by decide +kernel
theorem dL_law_1076 : decode cL_law 1076 = .ok (.aload_n 2, 1) := by decide +kernel
theorem dL_law_1077 : decode cL_law 1077 = .ok (.aload_n 0, 1) := by decide +kernel
theorem dL_law_1078 : decode cL_law 1078 = .ok (.iload 4, 2) := by decide +kernel
theorem dL_law_1080 : decode cL_law 1080 = .ok (.iconst 1, 1) := by decide +kernel
theorem dL_law_1081 : decode cL_law 1081 = .ok (.iadd, 1) := by decide +kernel
theorem dL_law_1082 : decode cL_law 1082 = .ok (.iaload, 1) := by decide +kernel
theorem dL_law_1083 : decode cL_law 1083 = .ok (.aload_n 0, 1) := by decide +kernel
theorem dL_law_1084 : decode cL_law 1084 = .ok (.iload 4, 2) := by decide +kernel
theorem dL_law_1086 : decode cL_law 1086 = .ok (.iconst 2, 1) := by decide +kernel
theorem dL_law_1087 : decode cL_law 1087 = .ok (.iadd, 1) := by decide +kernel
theorem dL_law_1088 : decode cL_law 1088 = .ok (.iaload, 1) := by decide +kernel
theorem dL_law_1089 : decode cL_law 1089 = .ok (.invokevirtual 153, 3) := by decide +kernel
theorem dL_law_1092 : decode cL_law 1092 = .ok (.istore 6, 2) := by decide +kernel
theorem dL_law_1094 : decode cL_law 1094 = .ok (.aload_n 2, 1) := by decide +kernel
theorem dL_law_1095 : decode cL_law 1095 = .ok (.invokevirtual 95, 3) := by decide +kernel
theorem dL_law_1098 : decode cL_law 1098 = .ok (.iload 5, 2) := by decide +kernel
theorem dL_law_1100 : decode cL_law 1100 = .ok (.if_icmp .eq 5, 3) := by decide +kernel
theorem dL_law_1103 : decode cL_law 1103 = .ok (.iconst 0, 1) := by decide +kernel
theorem dL_law_1104 : decode cL_law 1104 = .ok (.ireturn, 1) := by decide +kernel
theorem dL_law_1105 : decode cL_law 1105 = .ok (.iload 5, 2) := by decide +kernel
theorem dL_law_1107 : decode cL_law 1107 = .ok (.ifCond .ne 15, 3) := by decide +kernel
theorem dL_law_1110 : decode cL_law 1110 = .ok (.aload_n 3, 1) := by decide +kernel
theorem dL_law_1111 : decode cL_law 1111 = .ok (.iconst 0, 1) := by decide +kernel
theorem dL_law_1112 : decode cL_law 1112 = .ok (.laload, 1) := by decide +kernel
theorem dL_law_1113 : decode cL_law 1113 = .ok (.iload 6, 2) := by decide +kernel
theorem dL_law_1115 : decode cL_law 1115 = .ok (.i2l, 1) := by decide +kernel
theorem dL_law_1116 : decode cL_law 1116 = .ok (.lcmp, 1) := by decide +kernel
theorem dL_law_1117 : decode cL_law 1117 = .ok (.ifCond .eq 5, 3) := by decide +kernel
theorem dL_law_1120 : decode cL_law 1120 = .ok (.iconst 0, 1) := by decide +kernel
theorem dL_law_1121 : decode cL_law 1121 = .ok (.ireturn, 1) := by decide +kernel
theorem dL_law_1122 : decode cL_law 1122 = .ok (.goto 671, 3) := by decide +kernel
theorem dL_law_1125 : decode cL_law 1125 = .ok (.aload_n 1, 1) := by decide +kernel
theorem dL_law_1126 : decode cL_law 1126 = .ok (.aload_n 0, 1) := by decide +kernel
theorem dL_law_1127 : decode cL_law 1127 = .ok (.iload 4, 2) := by decide +kernel
theorem dL_law_1129 : decode cL_law 1129 = .ok (.iconst 1, 1) := by decide +kernel
theorem dL_law_1130 : decode cL_law 1130 = .ok (.iadd, 1) := by decide +kernel
theorem dL_law_1131 : decode cL_law 1131 = .ok (.iaload, 1) := by decide +kernel
theorem dL_law_1132 : decode cL_law 1132 = .ok (.aload_n 3, 1) := by decide +kernel
theorem dL_law_1133 : decode cL_law 1133 = .ok (.invokestatic 154, 3) := by decide +kernel
theorem dL_law_1136 : decode cL_law 1136 = .ok (.istore 5, 2) := by decide +kernel
theorem dL_law_1138 : decode cL_law 1138 = .ok (.aload_n 2, 1) := by decide +kernel
theorem dL_law_1139 : decode cL_law 1139 = .ok (.aload_n 0, 1) := by decide +kernel
theorem dL_law_1140 : decode cL_law 1140 = .ok (.iload 4, 2) := by decide +kernel
theorem dL_law_1142 : decode cL_law 1142 = .ok (.iconst 1, 1) := by decide +kernel
theorem dL_law_1143 : decode cL_law 1143 = .ok (.iadd, 1) := by decide +kernel
theorem dL_law_1144 : decode cL_law 1144 = .ok (.iaload, 1) := by decide +kernel
theorem dL_law_1145 : decode cL_law 1145 = .ok (.invokevirtual 156, 3) := by decide +kernel
theorem dL_law_1148 : decode cL_law 1148 = .ok (.istore 6, 2) := by decide +kernel
theorem dL_law_1150 : decode cL_law 1150 = .ok (.aload_n 2, 1) := by decide +kernel
theorem dL_law_1151 : decode cL_law 1151 = .ok (.invokevirtual 95, 3) := by decide +kernel
theorem dL_law_1154 : decode cL_law 1154 = .ok (.iload 5, 2) := by decide +kernel
theorem dL_law_1156 : decode cL_law 1156 = .ok (.if_icmp .eq 5, 3) := by decide +kernel
theorem dL_law_1159 : decode cL_law 1159 = .ok (.iconst 0, 1) := by decide +kernel
theorem dL_law_1160 : decode cL_law 1160 = .ok (.ireturn, 1) := by decide +kernel
theorem dL_law_1161 : decode cL_law 1161 = .ok (.iload 5, 2) := by decide +kernel
theorem dL_law_1163 : decode cL_law 1163 = .ok (.ifCond .ne 15, 3) := by decide +kernel
theorem dL_law_1166 : decode cL_law 1166 = .ok (.aload_n 3, 1) := by decide +kernel
theorem dL_law_1167 : decode cL_law 1167 = .ok (.iconst 0, 1) := by decide +kernel
theorem dL_law_1168 : decode cL_law 1168 = .ok (.laload, 1) := by decide +kernel
theorem dL_law_1169 : decode cL_law 1169 = .ok (.iload 6, 2) := by decide +kernel
theorem dL_law_1171 : decode cL_law 1171 = .ok (.i2l, 1) := by decide +kernel
theorem dL_law_1172 : decode cL_law 1172 = .ok (.lcmp, 1) := by decide +kernel
theorem dL_law_1173 : decode cL_law 1173 = .ok (.ifCond .eq 5, 3) := by decide +kernel
theorem dL_law_1176 : decode cL_law 1176 = .ok (.iconst 0, 1) := by decide +kernel
theorem dL_law_1177 : decode cL_law 1177 = .ok (.ireturn, 1) := by decide +kernel
theorem dL_law_1178 : decode cL_law 1178 = .ok (.goto 615, 3) := by decide +kernel
theorem dL_law_1181 : decode cL_law 1181 = .ok (.aload_n 1, 1) := by decide +kernel
theorem dL_law_1182 : decode cL_law 1182 = .ok (.aload_n 0, 1) := by decide +kernel
theorem dL_law_1183 : decode cL_law 1183 = .ok (.iload 4, 2) := by decide +kernel
theorem dL_law_1185 : decode cL_law 1185 = .ok (.iconst 1, 1) := by decide +kernel
theorem dL_law_1186 : decode cL_law 1186 = .ok (.iadd, 1) := by decide +kernel
theorem dL_law_1187 : decode cL_law 1187 = .ok (.iaload, 1) := by decide +kernel
theorem dL_law_1188 : decode cL_law 1188 = .ok (.aload_n 0, 1) := by decide +kernel
theorem dL_law_1189 : decode cL_law 1189 = .ok (.iload 4, 2) := by decide +kernel
theorem dL_law_1191 : decode cL_law 1191 = .ok (.iconst 2, 1) := by decide +kernel
theorem dL_law_1192 : decode cL_law 1192 = .ok (.iadd, 1) := by decide +kernel
theorem dL_law_1193 : decode cL_law 1193 = .ok (.iaload, 1) := by decide +kernel
theorem dL_law_1194 : decode cL_law 1194 = .ok (.aload_n 0, 1) := by decide +kernel
theorem dL_law_1195 : decode cL_law 1195 = .ok (.iload 4, 2) := by decide +kernel
theorem dL_law_1197 : decode cL_law 1197 = .ok (.iconst 3, 1) := by decide +kernel
theorem dL_law_1198 : decode cL_law 1198 = .ok (.iadd, 1) := by decide +kernel
theorem dL_law_1199 : decode cL_law 1199 = .ok (.iaload, 1) := by decide +kernel
theorem dL_law_1200 : decode cL_law 1200 = .ok (.invokevirtual 157, 3) := by decide +kernel
theorem dL_law_1203 : decode cL_law 1203 = .ok (.aload_n 2, 1) := by decide +kernel
theorem dL_law_1204 : decode cL_law 1204 = .ok (.aload_n 0, 1) := by decide +kernel
theorem dL_law_1205 : decode cL_law 1205 = .ok (.iload 4, 2) := by decide +kernel
theorem dL_law_1207 : decode cL_law 1207 = .ok (.iconst 1, 1) := by decide +kernel
theorem dL_law_1208 : decode cL_law 1208 = .ok (.iadd, 1) := by decide +kernel
theorem dL_law_1209 : decode cL_law 1209 = .ok (.iaload, 1) := by decide +kernel
theorem dL_law_1210 : decode cL_law 1210 = .ok (.aload_n 0, 1) := by decide +kernel
theorem dL_law_1211 : decode cL_law 1211 = .ok (.iload 4, 2) := by decide +kernel
theorem dL_law_1213 : decode cL_law 1213 = .ok (.iconst 2, 1) := by decide +kernel
theorem dL_law_1214 : decode cL_law 1214 = .ok (.iadd, 1) := by decide +kernel
theorem dL_law_1215 : decode cL_law 1215 = .ok (.iaload, 1) := by decide +kernel
theorem dL_law_1216 : decode cL_law 1216 = .ok (.aload_n 0, 1) := by decide +kernel
theorem dL_law_1217 : decode cL_law 1217 = .ok (.iload 4, 2) := by decide +kernel
theorem dL_law_1219 : decode cL_law 1219 = .ok (.iconst 3, 1) := by decide +kernel
theorem dL_law_1220 : decode cL_law 1220 = .ok (.iadd, 1) := by decide +kernel
theorem dL_law_1221 : decode cL_law 1221 = .ok (.iaload, 1) := by decide +kernel
theorem dL_law_1222 : decode cL_law 1222 = .ok (.invokevirtual 160, 3) := by decide +kernel
theorem dL_law_1225 : decode cL_law 1225 = .ok (.if_icmp .eq 568, 3) := by decide +kernel
theorem dL_law_1228 : decode cL_law 1228 = .ok (.iconst 0, 1) := by decide +kernel
theorem dL_law_1229 : decode cL_law 1229 = .ok (.ireturn, 1) := by decide +kernel
theorem dL_law_1230 : decode cL_law 1230 = .ok (.aload_n 1, 1) := by decide +kernel
theorem dL_law_1231 : decode cL_law 1231 = .ok (.invokevirtual 161, 3) := by decide +kernel
theorem dL_law_1234 : decode cL_law 1234 = .ok (.aload_n 2, 1) := by decide +kernel
theorem dL_law_1235 : decode cL_law 1235 = .ok (.invokevirtual 164, 3) := by decide +kernel
theorem dL_law_1238 : decode cL_law 1238 = .ok (.if_icmp .eq 555, 3) := by decide +kernel
theorem dL_law_1241 : decode cL_law 1241 = .ok (.iconst 0, 1) := by decide +kernel
theorem dL_law_1242 : decode cL_law 1242 = .ok (.ireturn, 1) := by decide +kernel
theorem dL_law_1243 : decode cL_law 1243 = .ok (.aload_n 1, 1) := by decide +kernel
theorem dL_law_1244 : decode cL_law 1244 = .ok (.aload_n 0, 1) := by decide +kernel
theorem dL_law_1245 : decode cL_law 1245 = .ok (.iload 4, 2) := by decide +kernel
theorem dL_law_1247 : decode cL_law 1247 = .ok (.iconst 1, 1) := by decide +kernel
theorem dL_law_1248 : decode cL_law 1248 = .ok (.iadd, 1) := by decide +kernel
theorem dL_law_1249 : decode cL_law 1249 = .ok (.iaload, 1) := by decide +kernel
theorem dL_law_1250 : decode cL_law 1250 = .ok (.aload_n 0, 1) := by decide +kernel
theorem dL_law_1251 : decode cL_law 1251 = .ok (.iload 4, 2) := by decide +kernel
theorem dL_law_1253 : decode cL_law 1253 = .ok (.iconst 2, 1) := by decide +kernel
theorem dL_law_1254 : decode cL_law 1254 = .ok (.iadd, 1) := by decide +kernel
theorem dL_law_1255 : decode cL_law 1255 = .ok (.iaload, 1) := by decide +kernel
theorem dL_law_1256 : decode cL_law 1256 = .ok (.aload_n 0, 1) := by decide +kernel
theorem dL_law_1257 : decode cL_law 1257 = .ok (.iload 4, 2) := by decide +kernel
theorem dL_law_1259 : decode cL_law 1259 = .ok (.iconst 3, 1) := by decide +kernel
theorem dL_law_1260 : decode cL_law 1260 = .ok (.iadd, 1) := by decide +kernel
theorem dL_law_1261 : decode cL_law 1261 = .ok (.iaload, 1) := by decide +kernel
theorem dL_law_1262 : decode cL_law 1262 = .ok (.aload_n 3, 1) := by decide +kernel
theorem dL_law_1263 : decode cL_law 1263 = .ok (.invokestatic 165, 3) := by decide +kernel
theorem dL_law_1266 : decode cL_law 1266 = .ok (.istore 5, 2) := by decide +kernel
theorem dL_law_1268 : decode cL_law 1268 = .ok (.aload_n 2, 1) := by decide +kernel
theorem dL_law_1269 : decode cL_law 1269 = .ok (.aload_n 0, 1) := by decide +kernel
theorem dL_law_1270 : decode cL_law 1270 = .ok (.iload 4, 2) := by decide +kernel
theorem dL_law_1272 : decode cL_law 1272 = .ok (.iconst 1, 1) := by decide +kernel
theorem dL_law_1273 : decode cL_law 1273 = .ok (.iadd, 1) := by decide +kernel
theorem dL_law_1274 : decode cL_law 1274 = .ok (.iaload, 1) := by decide +kernel
theorem dL_law_1275 : decode cL_law 1275 = .ok (.aload_n 0, 1) := by decide +kernel
theorem dL_law_1276 : decode cL_law 1276 = .ok (.iload 4, 2) := by decide +kernel
theorem dL_law_1278 : decode cL_law 1278 = .ok (.iconst 2, 1) := by decide +kernel
theorem dL_law_1279 : decode cL_law 1279 = .ok (.iadd, 1) := by decide +kernel
theorem dL_law_1280 : decode cL_law 1280 = .ok (.iaload, 1) := by decide +kernel
theorem dL_law_1281 : decode cL_law 1281 = .ok (.aload_n 0, 1) := by decide +kernel
theorem dL_law_1282 : decode cL_law 1282 = .ok (.iload 4, 2) := by decide +kernel
theorem dL_law_1284 : decode cL_law 1284 = .ok (.iconst 3, 1) := by decide +kernel
theorem dL_law_1285 : decode cL_law 1285 = .ok (.iadd, 1) := by decide +kernel
theorem dL_law_1286 : decode cL_law 1286 = .ok (.iaload, 1) := by decide +kernel
theorem dL_law_1287 : decode cL_law 1287 = .ok (.invokevirtual 167, 3) := by decide +kernel
theorem dL_law_1290 : decode cL_law 1290 = .ok (.istore 6, 2) := by decide +kernel
theorem dL_law_1292 : decode cL_law 1292 = .ok (.aload_n 2, 1) := by decide +kernel
theorem dL_law_1293 : decode cL_law 1293 = .ok (.invokevirtual 95, 3) := by decide +kernel
theorem dL_law_1296 : decode cL_law 1296 = .ok (.iload 5, 2) := by decide +kernel
theorem dL_law_1298 : decode cL_law 1298 = .ok (.if_icmp .eq 5, 3) := by decide +kernel
theorem dL_law_1301 : decode cL_law 1301 = .ok (.iconst 0, 1) := by decide +kernel
theorem dL_law_1302 : decode cL_law 1302 = .ok (.ireturn, 1) := by decide +kernel
theorem dL_law_1303 : decode cL_law 1303 = .ok (.iload 5, 2) := by decide +kernel
theorem dL_law_1305 : decode cL_law 1305 = .ok (.ifCond .ne 15, 3) := by decide +kernel
theorem dL_law_1308 : decode cL_law 1308 = .ok (.aload_n 3, 1) := by decide +kernel
theorem dL_law_1309 : decode cL_law 1309 = .ok (.iconst 0, 1) := by decide +kernel
theorem dL_law_1310 : decode cL_law 1310 = .ok (.laload, 1) := by decide +kernel
theorem dL_law_1311 : decode cL_law 1311 = .ok (.iload 6, 2) := by decide +kernel
theorem dL_law_1313 : decode cL_law 1313 = .ok (.i2l, 1) := by decide +kernel
theorem dL_law_1314 : decode cL_law 1314 = .ok (.lcmp, 1) := by decide +kernel
theorem dL_law_1315 : decode cL_law 1315 = .ok (.ifCond .eq 5, 3) := by decide +kernel
theorem dL_law_1318 : decode cL_law 1318 = .ok (.iconst 0, 1) := by decide +kernel
theorem dL_law_1319 : decode cL_law 1319 = .ok (.ireturn, 1) := by decide +kernel
theorem dL_law_1320 : decode cL_law 1320 = .ok (.goto 473, 3) := by decide +kernel
theorem dL_law_1323 : decode cL_law 1323 = .ok (.aload_n 1, 1) := by decide +kernel
theorem dL_law_1324 : decode cL_law 1324 = .ok (.aload_n 0, 1) := by decide +kernel
theorem dL_law_1325 : decode cL_law 1325 = .ok (.iload 4, 2) := by decide +kernel
theorem dL_law_1327 : decode cL_law 1327 = .ok (.iconst 1, 1) := by decide +kernel
theorem dL_law_1328 : decode cL_law 1328 = .ok (.iadd, 1) := by decide +kernel
theorem dL_law_1329 : decode cL_law 1329 = .ok (.iaload, 1) := by decide +kernel
theorem dL_law_1330 : decode cL_law 1330 = .ok (.aload_n 0, 1) := by decide +kernel
theorem dL_law_1331 : decode cL_law 1331 = .ok (.iload 4, 2) := by decide +kernel
theorem dL_law_1333 : decode cL_law 1333 = .ok (.iconst 2, 1) := by decide +kernel
theorem dL_law_1334 : decode cL_law 1334 = .ok (.iadd, 1) := by decide +kernel
theorem dL_law_1335 : decode cL_law 1335 = .ok (.iaload, 1) := by decide +kernel
theorem dL_law_1336 : decode cL_law 1336 = .ok (.aload_n 0, 1) := by decide +kernel
theorem dL_law_1337 : decode cL_law 1337 = .ok (.iload 4, 2) := by decide +kernel
theorem dL_law_1339 : decode cL_law 1339 = .ok (.iconst 3, 1) := by decide +kernel
theorem dL_law_1340 : decode cL_law 1340 = .ok (.iadd, 1) := by decide +kernel
theorem dL_law_1341 : decode cL_law 1341 = .ok (.iaload, 1) := by decide +kernel
theorem dL_law_1342 : decode cL_law 1342 = .ok (.aload_n 3, 1) := by decide +kernel
theorem dL_law_1343 : decode cL_law 1343 = .ok (.invokestatic 168, 3) := by decide +kernel
theorem dL_law_1346 : decode cL_law 1346 = .ok (.istore 5, 2) := by decide +kernel
theorem dL_law_1348 : decode cL_law 1348 = .ok (.aload_n 2, 1) := by decide +kernel
theorem dL_law_1349 : decode cL_law 1349 = .ok (.aload_n 0, 1) := by decide +kernel
theorem dL_law_1350 : decode cL_law 1350 = .ok (.iload 4, 2) := by decide +kernel
theorem dL_law_1352 : decode cL_law 1352 = .ok (.iconst 1, 1) := by decide +kernel
theorem dL_law_1353 : decode cL_law 1353 = .ok (.iadd, 1) := by decide +kernel
theorem dL_law_1354 : decode cL_law 1354 = .ok (.iaload, 1) := by decide +kernel
theorem dL_law_1355 : decode cL_law 1355 = .ok (.aload_n 0, 1) := by decide +kernel
theorem dL_law_1356 : decode cL_law 1356 = .ok (.iload 4, 2) := by decide +kernel
theorem dL_law_1358 : decode cL_law 1358 = .ok (.iconst 2, 1) := by decide +kernel
theorem dL_law_1359 : decode cL_law 1359 = .ok (.iadd, 1) := by decide +kernel
theorem dL_law_1360 : decode cL_law 1360 = .ok (.iaload, 1) := by decide +kernel
theorem dL_law_1361 : decode cL_law 1361 = .ok (.aload_n 0, 1) := by decide +kernel
theorem dL_law_1362 : decode cL_law 1362 = .ok (.iload 4, 2) := by decide +kernel
theorem dL_law_1364 : decode cL_law 1364 = .ok (.iconst 3, 1) := by decide +kernel
theorem dL_law_1365 : decode cL_law 1365 = .ok (.iadd, 1) := by decide +kernel
theorem dL_law_1366 : decode cL_law 1366 = .ok (.iaload, 1) := by decide +kernel
theorem dL_law_1367 : decode cL_law 1367 = .ok (.invokevirtual 170, 3) := by decide +kernel
theorem dL_law_1370 : decode cL_law 1370 = .ok (.istore 6, 2) := by decide +kernel
theorem dL_law_1372 : decode cL_law 1372 = .ok (.aload_n 2, 1) := by decide +kernel
theorem dL_law_1373 : decode cL_law 1373 = .ok (.invokevirtual 95, 3) := by decide +kernel
theorem dL_law_1376 : decode cL_law 1376 = .ok (.iload 5, 2) := by decide +kernel
theorem dL_law_1378 : decode cL_law 1378 = .ok (.if_icmp .eq 5, 3) := by decide +kernel
theorem dL_law_1381 : decode cL_law 1381 = .ok (.iconst 0, 1) := by decide +kernel
theorem dL_law_1382 : decode cL_law 1382 = .ok (.ireturn, 1) := by decide +kernel
theorem dL_law_1383 : decode cL_law 1383 = .ok (.iload 5, 2) := by decide +kernel
theorem dL_law_1385 : decode cL_law 1385 = .ok (.ifCond .ne 15, 3) := by decide +kernel
theorem dL_law_1388 : decode cL_law 1388 = .ok (.aload_n 3, 1) := by decide +kernel
theorem dL_law_1389 : decode cL_law 1389 = .ok (.iconst 0, 1) := by decide +kernel
theorem dL_law_1390 : decode cL_law 1390 = .ok (.laload, 1) := by decide +kernel
theorem dL_law_1391 : decode cL_law 1391 = .ok (.iload 6, 2) := by decide +kernel
theorem dL_law_1393 : decode cL_law 1393 = .ok (.i2l, 1) := by decide +kernel
theorem dL_law_1394 : decode cL_law 1394 = .ok (.lcmp, 1) := by decide +kernel
theorem dL_law_1395 : decode cL_law 1395 = .ok (.ifCond .eq 5, 3) := by decide +kernel
theorem dL_law_1398 : decode cL_law 1398 = .ok (.iconst 0, 1) := by decide +kernel
theorem dL_law_1399 : decode cL_law 1399 = .ok (.ireturn, 1) := by decide +kernel
theorem dL_law_1400 : decode cL_law 1400 = .ok (.goto 393, 3) := by decide +kernel
theorem dL_law_1403 : decode cL_law 1403 = .ok (.aload_n 1, 1) := by decide +kernel
theorem dL_law_1404 : decode cL_law 1404 = .ok (.aload_n 0, 1) := by decide +kernel
theorem dL_law_1405 : decode cL_law 1405 = .ok (.iload 4, 2) := by decide +kernel
theorem dL_law_1407 : decode cL_law 1407 = .ok (.iconst 1, 1) := by decide +kernel
theorem dL_law_1408 : decode cL_law 1408 = .ok (.iadd, 1) := by decide +kernel
theorem dL_law_1409 : decode cL_law 1409 = .ok (.iaload, 1) := by decide +kernel
theorem dL_law_1410 : decode cL_law 1410 = .ok (.aload_n 3, 1) := by decide +kernel
theorem dL_law_1411 : decode cL_law 1411 = .ok (.invokestatic 171, 3) := by decide +kernel
theorem dL_law_1414 : decode cL_law 1414 = .ok (.istore 5, 2) := by decide +kernel
theorem dL_law_1416 : decode cL_law 1416 = .ok (.aload_n 2, 1) := by decide +kernel
theorem dL_law_1417 : decode cL_law 1417 = .ok (.aload_n 0, 1) := by decide +kernel
theorem dL_law_1418 : decode cL_law 1418 = .ok (.iload 4, 2) := by decide +kernel
theorem dL_law_1420 : decode cL_law 1420 = .ok (.iconst 1, 1) := by decide +kernel
theorem dL_law_1421 : decode cL_law 1421 = .ok (.iadd, 1) := by decide +kernel
theorem dL_law_1422 : decode cL_law 1422 = .ok (.iaload, 1) := by decide +kernel
theorem dL_law_1423 : decode cL_law 1423 = .ok (.invokevirtual 173, 3) := by decide +kernel
theorem dL_law_1426 : decode cL_law 1426 = .ok (.istore 6, 2) := by decide +kernel
theorem dL_law_1428 : decode cL_law 1428 = .ok (.aload_n 2, 1) := by decide +kernel
theorem dL_law_1429 : decode cL_law 1429 = .ok (.invokevirtual 95, 3) := by decide +kernel
theorem dL_law_1432 : decode cL_law 1432 = .ok (.iload 5, 2) := by decide +kernel
theorem dL_law_1434 : decode cL_law 1434 = .ok (.if_icmp .eq 5, 3) := by decide +kernel
theorem dL_law_1437 : decode cL_law 1437 = .ok (.iconst 0, 1) := by decide +kernel
theorem dL_law_1438 : decode cL_law 1438 = .ok (.ireturn, 1) := by decide +kernel
theorem dL_law_1439 : decode cL_law 1439 = .ok (.iload 5, 2) := by decide +kernel
theorem dL_law_1441 : decode cL_law 1441 = .ok (.ifCond .ne 15, 3) := by decide +kernel
theorem dL_law_1444 : decode cL_law 1444 = .ok (.aload_n 3, 1) := by decide +kernel
theorem dL_law_1445 : decode cL_law 1445 = .ok (.iconst 0, 1) := by decide +kernel
theorem dL_law_1446 : decode cL_law 1446 = .ok (.laload, 1) := by decide +kernel
theorem dL_law_1447 : decode cL_law 1447 = .ok (.iload 6, 2) := by decide +kernel
theorem dL_law_1449 : decode cL_law 1449 = .ok (.i2l, 1) := by decide +kernel
theorem dL_law_1450 : decode cL_law 1450 = .ok (.lcmp, 1) := by decide +kernel
theorem dL_law_1451 : decode cL_law 1451 = .ok (.ifCond .eq 5, 3) := by decide +kernel
theorem dL_law_1454 : decode cL_law 1454 = .ok (.iconst 0, 1) := by decide +kernel
theorem dL_law_1455 : decode cL_law 1455 = .ok (.ireturn, 1) := by decide +kernel
theorem dL_law_1456 : decode cL_law 1456 = .ok (.goto 337, 3) := by decide +kernel
theorem dL_law_1459 : decode cL_law 1459 = .ok (.aload_n 1, 1) := by decide +kernel
theorem dL_law_1460 : decode cL_law 1460 = .ok (.aload_n 0, 1) := by decide +kernel
theorem dL_law_1461 : decode cL_law 1461 = .ok (.iload 4, 2) := by decide +kernel
theorem dL_law_1463 : decode cL_law 1463 = .ok (.iconst 1, 1) := by decide +kernel
theorem dL_law_1464 : decode cL_law 1464 = .ok (.iadd, 1) := by decide +kernel
theorem dL_law_1465 : decode cL_law 1465 = .ok (.iaload, 1) := by decide +kernel
theorem dL_law_1466 : decode cL_law 1466 = .ok (.invokevirtual 174, 3) := by decide +kernel
theorem dL_law_1469 : decode cL_law 1469 = .ok (.aload_n 2, 1) := by decide +kernel
theorem dL_law_1470 : decode cL_law 1470 = .ok (.aload_n 0, 1) := by decide +kernel
theorem dL_law_1471 : decode cL_law 1471 = .ok (.iload 4, 2) := by decide +kernel
theorem dL_law_1473 : decode cL_law 1473 = .ok (.iconst 1, 1) := by decide +kernel
theorem dL_law_1474 : decode cL_law 1474 = .ok (.iadd, 1) := by decide +kernel
theorem dL_law_1475 : decode cL_law 1475 = .ok (.iaload, 1) := by decide +kernel
theorem dL_law_1476 : decode cL_law 1476 = .ok (.invokevirtual 177, 3) := by decide +kernel
theorem dL_law_1479 : decode cL_law 1479 = .ok (.if_icmp .eq 314, 3) := by decide +kernel
theorem dL_law_1482 : decode cL_law 1482 = .ok (.iconst 0, 1) := by decide +kernel
theorem dL_law_1483 : decode cL_law 1483 = .ok (.ireturn, 1) := by decide +kernel
theorem dL_law_1484 : decode cL_law 1484 = .ok (.aload_n 1, 1) := by decide +kernel
theorem dL_law_1485 : decode cL_law 1485 = .ok (.invokevirtual 178, 3) := by decide +kernel
theorem dL_law_1488 : decode cL_law 1488 = .ok (.aload_n 2, 1) := by decide +kernel
theorem dL_law_1489 : decode cL_law 1489 = .ok (.invokevirtual 181, 3) := by decide +kernel
theorem dL_law_1492 : decode cL_law 1492 = .ok (.if_icmp .eq 301, 3) := by decide +kernel
theorem dL_law_1495 : decode cL_law 1495 = .ok (.iconst 0, 1) := by decide +kernel
theorem dL_law_1496 : decode cL_law 1496 = .ok (.ireturn, 1) := by decide +kernel
theorem dL_law_1497 : decode cL_law 1497 = .ok (.aload_n 1, 1) := by decide +kernel
theorem dL_law_1498 : decode cL_law 1498 = .ok (.aload_n 0, 1) := by decide +kernel
theorem dL_law_1499 : decode cL_law 1499 = .ok (.iload 4, 2) := by decide +kernel
theorem dL_law_1501 : decode cL_law 1501 = .ok (.iconst 1, 1) := by decide +kernel
theorem dL_law_1502 : decode cL_law 1502 = .ok (.iadd, 1) := by decide +kernel
theorem dL_law_1503 : decode cL_law 1503 = .ok (.iaload, 1) := by decide +kernel
theorem dL_law_1504 : decode cL_law 1504 = .ok (.aload_n 3, 1) := by decide +kernel
theorem dL_law_1505 : decode cL_law 1505 = .ok (.invokestatic 182, 3) := by decide +kernel
theorem dL_law_1508 : decode cL_law 1508 = .ok (.istore 5, 2) := by decide +kernel
theorem dL_law_1510 : decode cL_law 1510 = .ok (.aload_n 2, 1) := by decide +kernel
theorem dL_law_1511 : decode cL_law 1511 = .ok (.aload_n 0, 1) := by decide +kernel
theorem dL_law_1512 : decode cL_law 1512 = .ok (.iload 4, 2) := by decide +kernel
theorem dL_law_1514 : decode cL_law 1514 = .ok (.iconst 1, 1) := by decide +kernel
theorem dL_law_1515 : decode cL_law 1515 = .ok (.iadd, 1) := by decide +kernel
theorem dL_law_1516 : decode cL_law 1516 = .ok (.iaload, 1) := by decide +kernel
theorem dL_law_1517 : decode cL_law 1517 = .ok (.invokevirtual 184, 3) := by decide +kernel
theorem dL_law_1520 : decode cL_law 1520 = .ok (.istore 6, 2) := by decide +kernel
theorem dL_law_1522 : decode cL_law 1522 = .ok (.aload_n 2, 1) := by decide +kernel
theorem dL_law_1523 : decode cL_law 1523 = .ok (.invokevirtual 95, 3) := by decide +kernel
theorem dL_law_1526 : decode cL_law 1526 = .ok (.iload 5, 2) := by decide +kernel
theorem dL_law_1528 : decode cL_law 1528 = .ok (.if_icmp .eq 5, 3) := by decide +kernel
theorem dL_law_1531 : decode cL_law 1531 = .ok (.iconst 0, 1) := by decide +kernel
theorem dL_law_1532 : decode cL_law 1532 = .ok (.ireturn, 1) := by decide +kernel
theorem dL_law_1533 : decode cL_law 1533 = .ok (.iload 5, 2) := by decide +kernel
theorem dL_law_1535 : decode cL_law 1535 = .ok (.ifCond .ne 15, 3) := by decide +kernel
theorem dL_law_1538 : decode cL_law 1538 = .ok (.aload_n 3, 1) := by decide +kernel
theorem dL_law_1539 : decode cL_law 1539 = .ok (.iconst 0, 1) := by decide +kernel
theorem dL_law_1540 : decode cL_law 1540 = .ok (.laload, 1) := by decide +kernel
theorem dL_law_1541 : decode cL_law 1541 = .ok (.iload 6, 2) := by decide +kernel
theorem dL_law_1543 : decode cL_law 1543 = .ok (.i2l, 1) := by decide +kernel
theorem dL_law_1544 : decode cL_law 1544 = .ok (.lcmp, 1) := by decide +kernel
theorem dL_law_1545 : decode cL_law 1545 = .ok (.ifCond .eq 5, 3) := by decide +kernel
theorem dL_law_1548 : decode cL_law 1548 = .ok (.iconst 0, 1) := by decide +kernel
theorem dL_law_1549 : decode cL_law 1549 = .ok (.ireturn, 1) := by decide +kernel
theorem dL_law_1550 : decode cL_law 1550 = .ok (.goto 243, 3) := by decide +kernel
theorem dL_law_1553 : decode cL_law 1553 = .ok (.aload_n 1, 1) := by decide +kernel
theorem dL_law_1554 : decode cL_law 1554 = .ok (.aload_n 0, 1) := by decide +kernel
theorem dL_law_1555 : decode cL_law 1555 = .ok (.iload 4, 2) := by decide +kernel
theorem dL_law_1557 : decode cL_law 1557 = .ok (.iconst 1, 1) := by decide +kernel
theorem dL_law_1558 : decode cL_law 1558 = .ok (.iadd, 1) := by decide +kernel
theorem dL_law_1559 : decode cL_law 1559 = .ok (.iaload, 1) := by decide +kernel
theorem dL_law_1560 : decode cL_law 1560 = .ok (.aload_n 0, 1) := by decide +kernel
theorem dL_law_1561 : decode cL_law 1561 = .ok (.iload 4, 2) := by decide +kernel
theorem dL_law_1563 : decode cL_law 1563 = .ok (.iconst 2, 1) := by decide +kernel
theorem dL_law_1564 : decode cL_law 1564 = .ok (.iadd, 1) := by decide +kernel
theorem dL_law_1565 : decode cL_law 1565 = .ok (.iaload, 1) := by decide +kernel
theorem dL_law_1566 : decode cL_law 1566 = .ok (.aload_n 0, 1) := by decide +kernel
theorem dL_law_1567 : decode cL_law 1567 = .ok (.iload 4, 2) := by decide +kernel
theorem dL_law_1569 : decode cL_law 1569 = .ok (.iconst 3, 1) := by decide +kernel
theorem dL_law_1570 : decode cL_law 1570 = .ok (.iadd, 1) := by decide +kernel
theorem dL_law_1571 : decode cL_law 1571 = .ok (.iaload, 1) := by decide +kernel
theorem dL_law_1572 : decode cL_law 1572 = .ok (.aload_n 0, 1) := by decide +kernel
theorem dL_law_1573 : decode cL_law 1573 = .ok (.iload 4, 2) := by decide +kernel
theorem dL_law_1575 : decode cL_law 1575 = .ok (.iconst 4, 1) := by decide +kernel
theorem dL_law_1576 : decode cL_law 1576 = .ok (.iadd, 1) := by decide +kernel
theorem dL_law_1577 : decode cL_law 1577 = .ok (.iaload, 1) := by decide +kernel
theorem dL_law_1578 : decode cL_law 1578 = .ok (.aload_n 0, 1) := by decide +kernel
theorem dL_law_1579 : decode cL_law 1579 = .ok (.iload 4, 2) := by decide +kernel
theorem dL_law_1581 : decode cL_law 1581 = .ok (.iconst 5, 1) := by decide +kernel
theorem dL_law_1582 : decode cL_law 1582 = .ok (.iadd, 1) := by decide +kernel
theorem dL_law_1583 : decode cL_law 1583 = .ok (.iaload, 1) := by decide +kernel
theorem dL_law_1584 : decode cL_law 1584 = .ok (.aload_n 3, 1) := by decide +kernel
theorem dL_law_1585 : decode cL_law 1585 = .ok (.invokestatic 185, 3) := by decide +kernel
theorem dL_law_1588 : decode cL_law 1588 = .ok (.istore 5, 2) := by decide +kernel
theorem dL_law_1590 : decode cL_law 1590 = .ok (.aload_n 2, 1) := by decide +kernel
theorem dL_law_1591 : decode cL_law 1591 = .ok (.aload_n 0, 1) := by decide +kernel
theorem dL_law_1592 : decode cL_law 1592 = .ok (.iload 4, 2) := by decide +kernel
theorem dL_law_1594 : decode cL_law 1594 = .ok (.iconst 1, 1) := by decide +kernel
theorem dL_law_1595 : decode cL_law 1595 = .ok (.iadd, 1) := by decide +kernel
theorem dL_law_1596 : decode cL_law 1596 = .ok (.iaload, 1) := by decide +kernel
theorem dL_law_1597 : decode cL_law 1597 = .ok (.aload_n 0, 1) := by decide +kernel
theorem dL_law_1598 : decode cL_law 1598 = .ok (.iload 4, 2) := by decide +kernel
theorem dL_law_1600 : decode cL_law 1600 = .ok (.iconst 2, 1) := by decide +kernel
theorem dL_law_1601 : decode cL_law 1601 = .ok (.iadd, 1) := by decide +kernel
theorem dL_law_1602 : decode cL_law 1602 = .ok (.iaload, 1) := by decide +kernel
theorem dL_law_1603 : decode cL_law 1603 = .ok (.aload_n 0, 1) := by decide +kernel
theorem dL_law_1604 : decode cL_law 1604 = .ok (.iload 4, 2) := by decide +kernel
theorem dL_law_1606 : decode cL_law 1606 = .ok (.iconst 3, 1) := by decide +kernel
theorem dL_law_1607 : decode cL_law 1607 = .ok (.iadd, 1) := by decide +kernel
theorem dL_law_1608 : decode cL_law 1608 = .ok (.iaload, 1) := by decide +kernel
theorem dL_law_1609 : decode cL_law 1609 = .ok (.aload_n 0, 1) := by decide +kernel
theorem dL_law_1610 : decode cL_law 1610 = .ok (.iload 4, 2) := by decide +kernel
theorem dL_law_1612 : decode cL_law 1612 = .ok (.iconst 4, 1) := by decide +kernel
theorem dL_law_1613 : decode cL_law 1613 = .ok (.iadd, 1) := by decide +kernel
theorem dL_law_1614 : decode cL_law 1614 = .ok (.iaload, 1) := by decide +kernel
theorem dL_law_1615 : decode cL_law 1615 = .ok (.aload_n 0, 1) := by decide +kernel
theorem dL_law_1616 : decode cL_law 1616 = .ok (.iload 4, 2) := by decide +kernel
theorem dL_law_1618 : decode cL_law 1618 = .ok (.iconst 5, 1) := by decide +kernel
theorem dL_law_1619 : decode cL_law 1619 = .ok (.iadd, 1) := by decide +kernel
theorem dL_law_1620 : decode cL_law 1620 = .ok (.iaload, 1) := by decide +kernel
theorem dL_law_1621 : decode cL_law 1621 = .ok (.invokevirtual 188, 3) := by decide +kernel
theorem dL_law_1624 : decode cL_law 1624 = .ok (.istore 6, 2) := by decide +kernel
theorem dL_law_1626 : decode cL_law 1626 = .ok (.aload_n 2, 1) := by decide +kernel
theorem dL_law_1627 : decode cL_law 1627 = .ok (.invokevirtual 95, 3) := by decide +kernel
theorem dL_law_1630 : decode cL_law 1630 = .ok (.iload 5, 2) := by decide +kernel
theorem dL_law_1632 : decode cL_law 1632 = .ok (.if_icmp .eq 5, 3) := by decide +kernel
theorem dL_law_1635 : decode cL_law 1635 = .ok (.iconst 0, 1) := by decide +kernel
theorem dL_law_1636 : decode cL_law 1636 = .ok (.ireturn, 1) := by decide +kernel
theorem dL_law_1637 : decode cL_law 1637 = .ok (.iload 5, 2) := by decide +kernel
theorem dL_law_1639 : decode cL_law 1639 = .ok (.ifCond .ne 15, 3) := by decide +kernel
theorem dL_law_1642 : decode cL_law 1642 = .ok (.aload_n 3, 1) := by decide +kernel
theorem dL_law_1643 : decode cL_law 1643 = .ok (.iconst 0, 1) := by decide +kernel
theorem dL_law_1644 : decode cL_law 1644 = .ok (.laload, 1) := by decide +kernel
theorem dL_law_1645 : decode cL_law 1645 = .ok (.iload 6, 2) := by decide +kernel
theorem dL_law_1647 : decode cL_law 1647 = .ok (.i2l, 1) := by decide +kernel
theorem dL_law_1648 : decode cL_law 1648 = .ok (.lcmp, 1) := by decide +kernel
theorem dL_law_1649 : decode cL_law 1649 = .ok (.ifCond .eq 5, 3) := by decide +kernel
theorem dL_law_1652 : decode cL_law 1652 = .ok (.iconst 0, 1) := by decide +kernel
theorem dL_law_1653 : decode cL_law 1653 = .ok (.ireturn, 1) := by decide +kernel
theorem dL_law_1654 : decode cL_law 1654 = .ok (.goto 139, 3) := by decide +kernel
theorem dL_law_1657 : decode cL_law 1657 = .ok (.aload_n 1, 1) := by decide +kernel
theorem dL_law_1658 : decode cL_law 1658 = .ok (.aload_n 0, 1) := by decide +kernel
theorem dL_law_1659 : decode cL_law 1659 = .ok (.iload 4, 2) := by decide +kernel
theorem dL_law_1661 : decode cL_law 1661 = .ok (.iconst 1, 1) := by decide +kernel
theorem dL_law_1662 : decode cL_law 1662 = .ok (.iadd, 1) := by decide +kernel
theorem dL_law_1663 : decode cL_law 1663 = .ok (.iaload, 1) := by decide +kernel
theorem dL_law_1664 : decode cL_law 1664 = .ok (.aload_n 3, 1) := by decide +kernel
theorem dL_law_1665 : decode cL_law 1665 = .ok (.invokestatic 189, 3) := by decide +kernel
theorem dL_law_1668 : decode cL_law 1668 = .ok (.istore 5, 2) := by decide +kernel
theorem dL_law_1670 : decode cL_law 1670 = .ok (.aload_n 2, 1) := by decide +kernel
theorem dL_law_1671 : decode cL_law 1671 = .ok (.aload_n 0, 1) := by decide +kernel
theorem dL_law_1672 : decode cL_law 1672 = .ok (.iload 4, 2) := by decide +kernel
theorem dL_law_1674 : decode cL_law 1674 = .ok (.iconst 1, 1) := by decide +kernel
theorem dL_law_1675 : decode cL_law 1675 = .ok (.iadd, 1) := by decide +kernel
theorem dL_law_1676 : decode cL_law 1676 = .ok (.iaload, 1) := by decide +kernel
theorem dL_law_1677 : decode cL_law 1677 = .ok (.invokevirtual 191, 3) := by decide +kernel
theorem dL_law_1680 : decode cL_law 1680 = .ok (.istore 6, 2) := by decide +kernel
theorem dL_law_1682 : decode cL_law 1682 = .ok (.aload_n 2, 1) := by decide +kernel
theorem dL_law_1683 : decode cL_law 1683 = .ok (.invokevirtual 95, 3) := by decide +kernel
theorem dL_law_1686 : decode cL_law 1686 = .ok (.iload 5, 2) := by decide +kernel
theorem dL_law_1688 : decode cL_law 1688 = .ok (.if_icmp .eq 5, 3) := by decide +kernel
theorem dL_law_1691 : decode cL_law 1691 = .ok (.iconst 0, 1) := by decide +kernel
theorem dL_law_1692 : decode cL_law 1692 = .ok (.ireturn, 1) := by decide +kernel
theorem dL_law_1693 : decode cL_law 1693 = .ok (.iload 5, 2) := by decide +kernel
theorem dL_law_1695 : decode cL_law 1695 = .ok (.ifCond .ne 15, 3) := by decide +kernel
theorem dL_law_1698 : decode cL_law 1698 = .ok (.aload_n 3, 1) := by decide +kernel
theorem dL_law_1699 : decode cL_law 1699 = .ok (.iconst 0, 1) := by decide +kernel
theorem dL_law_1700 : decode cL_law 1700 = .ok (.laload, 1) := by decide +kernel
theorem dL_law_1701 : decode cL_law 1701 = .ok (.iload 6, 2) := by decide +kernel
theorem dL_law_1703 : decode cL_law 1703 = .ok (.i2l, 1) := by decide +kernel
theorem dL_law_1704 : decode cL_law 1704 = .ok (.lcmp, 1) := by decide +kernel
theorem dL_law_1705 : decode cL_law 1705 = .ok (.ifCond .eq 5, 3) := by decide +kernel
theorem dL_law_1708 : decode cL_law 1708 = .ok (.iconst 0, 1) := by decide +kernel
theorem dL_law_1709 : decode cL_law 1709 = .ok (.ireturn, 1) := by decide +kernel
theorem dL_law_1710 : decode cL_law 1710 = .ok (.goto 83, 3) := by decide +kernel
theorem dL_law_1713 : decode cL_law 1713 = .ok (.aload_n 1, 1) := by decide +kernel
theorem dL_law_1714 : decode cL_law 1714 = .ok (.aload_n 0, 1) := by decide +kernel
theorem dL_law_1715 : decode cL_law 1715 = .ok (.iload 4, 2) := by decide +kernel
theorem dL_law_1717 : decode cL_law 1717 = .ok (.iconst 1, 1) := by decide +kernel
theorem dL_law_1718 : decode cL_law 1718 = .ok (.iadd, 1) := by decide +kernel
theorem dL_law_1719 : decode cL_law 1719 = .ok (.iaload, 1) := by decide +kernel
theorem dL_law_1720 : decode cL_law 1720 = .ok (.aload_n 3, 1) := by decide +kernel
theorem dL_law_1721 : decode cL_law 1721 = .ok (.invokestatic 192, 3) := by decide +kernel
theorem dL_law_1724 : decode cL_law 1724 = .ok (.istore 5, 2) := by decide +kernel
theorem dL_law_1726 : decode cL_law 1726 = .ok (.aload_n 2, 1) := by decide +kernel
theorem dL_law_1727 : decode cL_law 1727 = .ok (.aload_n 0, 1) := by decide +kernel
theorem dL_law_1728 : decode cL_law 1728 = .ok (.iload 4, 2) := by decide +kernel
theorem dL_law_1730 : decode cL_law 1730 = .ok (.iconst 1, 1) := by decide +kernel
theorem dL_law_1731 : decode cL_law 1731 = .ok (.iadd, 1) := by decide +kernel
theorem dL_law_1732 : decode cL_law 1732 = .ok (.iaload, 1) := by decide +kernel
theorem dL_law_1733 : decode cL_law 1733 = .ok (.invokevirtual 194, 3) := by decide +kernel
theorem dL_law_1736 : decode cL_law 1736 = .ok (.istore 6, 2) := by decide +kernel
theorem dL_law_1738 : decode cL_law 1738 = .ok (.aload_n 2, 1) := by decide +kernel
theorem dL_law_1739 : decode cL_law 1739 = .ok (.invokevirtual 95, 3) := by decide +kernel
theorem dL_law_1742 : decode cL_law 1742 = .ok (.iload 5, 2) := by decide +kernel
theorem dL_law_1744 : decode cL_law 1744 = .ok (.if_icmp .eq 5, 3) := by decide +kernel
theorem dL_law_1747 : decode cL_law 1747 = .ok (.iconst 0, 1) := by decide +kernel
theorem dL_law_1748 : decode cL_law 1748 = .ok (.ireturn, 1) := by decide +kernel
theorem dL_law_1749 : decode cL_law 1749 = .ok (.iload 5, 2) := by decide +kernel
theorem dL_law_1751 : decode cL_law 1751 = .ok (.ifCond .ne 15, 3) := by decide +kernel
theorem dL_law_1754 : decode cL_law 1754 = .ok (.aload_n 3, 1) := by decide +kernel
theorem dL_law_1755 : decode cL_law 1755 = .ok (.iconst 0, 1) := by decide +kernel
theorem dL_law_1756 : decode cL_law 1756 = .ok (.laload, 1) := by decide +kernel
theorem dL_law_1757 : decode cL_law 1757 = .ok (.iload 6, 2) := by decide +kernel
theorem dL_law_1759 : decode cL_law 1759 = .ok (.i2l, 1) := by decide +kernel
theorem dL_law_1760 : decode cL_law 1760 = .ok (.lcmp, 1) := by decide +kernel
theorem dL_law_1761 : decode cL_law 1761 = .ok (.ifCond .eq 5, 3) := by decide +kernel
theorem dL_law_1764 : decode cL_law 1764 = .ok (.iconst 0, 1) := by decide +kernel
theorem dL_law_1765 : decode cL_law 1765 = .ok (.ireturn, 1) := by decide +kernel
theorem dL_law_1766 : decode cL_law 1766 = .ok (.goto 27, 3) := by decide +kernel
theorem dL_law_1769 : decode cL_law 1769 = .ok (.aload_n 1, 1) := by decide +kernel
theorem dL_law_1770 : decode cL_law 1770 = .ok (.invokevirtual 195, 3) := by decide +kernel
theorem dL_law_1773 : decode cL_law 1773 = .ok (.aload_n 2, 1) := by decide +kernel
theorem dL_law_1774 : decode cL_law 1774 = .ok (.invokevirtual 198, 3) := by decide +kernel
theorem dL_law_1777 : decode cL_law 1777 = .ok (.goto 16, 3) := by decide +kernel
theorem dL_law_1780 : decode cL_law 1780 = .ok (.aload_n 1, 1) := by decide +kernel
theorem dL_law_1781 : decode cL_law 1781 = .ok (.invokevirtual 199, 3) := by decide +kernel
theorem dL_law_1784 : decode cL_law 1784 = .ok (.aload_n 2, 1) := by decide +kernel
theorem dL_law_1785 : decode cL_law 1785 = .ok (.invokevirtual 203, 3) := by decide +kernel
theorem dL_law_1788 : decode cL_law 1788 = .ok (.if_icmp .eq 5, 3) := by decide +kernel
theorem dL_law_1791 : decode cL_law 1791 = .ok (.iconst 0, 1) := by decide +kernel
theorem dL_law_1792 : decode cL_law 1792 = .ok (.ireturn, 1) := by decide +kernel
theorem dL_law_1793 : decode cL_law 1793 = .ok (.iinc 4 6, 3) := by decide +kernel
theorem dL_law_1796 : decode cL_law 1796 = .ok (.goto (-1773), 3) := by decide +kernel
theorem dL_law_1799 : decode cL_law 1799 = .ok (.iconst 1, 1) := by decide +kernel
theorem dL_law_1800 : decode cL_law 1800 = .ok (.ireturn, 1) := by decide +kernel
