theorem dX11_penNow_17 : decode cX11_penNow 17 = .ok (.aload_n 0, 1) := by decide +kernel
theorem dX11_penNow_18 : decode cX11_penNow 18 = .ok (.getfield 219, 3) := by decide +kernel
theorem dX11_penNow_21 : decode cX11_penNow 21 = .ok (.if_icmp .ge 42, 3) := by decide +kernel
theorem dX11_penNow_24 : decode cX11_penNow 24 = .ok (.iload_n 3, 1) := by decide +kernel
theorem dX11_penNow_25 : decode cX11_penNow 25 = .ok (.aload_n 0, 1) := by decide +kernel
theorem dX11_penNow_26 : decode cX11_penNow 26 = .ok (.getfield 22, 3) := by decide +kernel
theorem dX11_penNow_29 : decode cX11_penNow 29 = .ok (.iconst 3, 1) := by decide +kernel
theorem dX11_penNow_30 : decode cX11_penNow 30 = .ok (.iload 4, 2) := by decide +kernel
theorem dX11_penNow_32 : decode cX11_penNow 32 = .ok (.imul, 1) := by decide +kernel
theorem dX11_penNow_33 : decode cX11_penNow 33 = .ok (.iaload, 1) := by decide +kernel
theorem dX11_penNow_34 : decode cX11_penNow 34 = .ok (.iload_n 1, 1) := by decide +kernel
theorem dX11_penNow_35 : decode cX11_penNow 35 = .ok (.if_icmp .gt 19, 3) := by decide +kernel
theorem dX11_penNow_38 : decode cX11_penNow 38 = .ok (.aload_n 0, 1) := by decide +kernel
theorem dX11_penNow_39 : decode cX11_penNow 39 = .ok (.getfield 22, 3) := by decide +kernel
theorem dX11_penNow_42 : decode cX11_penNow 42 = .ok (.iconst 3, 1) := by decide +kernel
theorem dX11_penNow_43 : decode cX11_penNow 43 = .ok (.iload 4, 2) := by decide +kernel
theorem dX11_penNow_45 : decode cX11_penNow 45 = .ok (.imul, 1) := by decide +kernel
theorem dX11_penNow_46 : decode cX11_penNow 46 = .ok (.iconst 1, 1) := by decide +kernel
theorem dX11_penNow_47 : decode cX11_penNow 47 = .ok (.iadd, 1) := by decide +kernel
theorem dX11_penNow_48 : decode cX11_penNow 48 = .ok (.iload_n 2, 1) := by decide +kernel
theorem dX11_penNow_49 : decode cX11_penNow 49 = .ok (.iadd, 1) := by decide +kernel
theorem dX11_penNow_50 : decode cX11_penNow 50 = .ok (.iaload, 1) := by decide +kernel
theorem dX11_penNow_51 : decode cX11_penNow 51 = .ok (.goto 4, 3) := by decide +kernel
theorem dX11_penNow_54 : decode cX11_penNow 54 = .ok (.iconst 0, 1) := by decide +kernel
theorem dX11_penNow_55 : decode cX11_penNow 55 = .ok (.iadd, 1) := by decide +kernel
theorem dX11_penNow_56 : decode cX11_penNow 56 = .ok (.istore_n 3, 1) := by decide +kernel
theorem dX11_penNow_57 : decode cX11_penNow 57 = .ok (.iinc 4 1, 3) := by decide +kernel
theorem dX11_penNow_60 : decode cX11_penNow 60 = .ok (.goto (-45), 3) := by decide +kernel
theorem dX11_penNow_63 : decode cX11_penNow 63 = .ok (.iload_n 3, 1) := by decide +kernel
theorem dX11_penNow_64 : decode cX11_penNow 64 = .ok (.ireturn, 1) := by decide +kernel
theorem dX11_swing_0 : decode cX11_swing 0 = .ok (.aload_n 0, 1) := by decide +kernel
theorem dX11_swing_1 : decode cX11_swing 1 = .ok (.iconst 0, 1) := by decide +kernel
theorem dX11_swing_2 : decode cX11_swing 2 = .ok (.putfield 113, 3) := by decide +kernel
theorem dX11_swing_5 : decode cX11_swing 5 = .ok (.aload_n 0, 1) := by decide +kernel
theorem dX11_swing_6 : decode cX11_swing 6 = .ok (.iload_n 1, 1) := by decide +kernel
theorem dX11_swing_7 : decode cX11_swing 7 = .ok (.invokevirtual 242, 3) := by decide +kernel
theorem dX11_swing_10 : decode cX11_swing 10 = .ok (.ifCond .eq 26, 3) := by decide +kernel
theorem dX11_swing_13 : decode cX11_swing 13 = .ok (.aload_n 0, 1) := by decide +kernel
theorem dX11_swing_14 : decode cX11_swing 14 = .ok (.iload_n 2, 1) := by decide +kernel
theorem dX11_swing_15 : decode cX11_swing 15 = .ok (.iconst 2, 1) := by decide +kernel
theorem dX11_swing_16 : decode cX11_swing 16 = .ok (.invokevirtual 259, 3) := by decide +kernel
theorem dX11_swing_19 : decode cX11_swing 19 = .ok (.ifCond .eq 17, 3) := by decide +kernel
theorem dX11_swing_22 : decode cX11_swing 22 = .ok (.aload_n 0, 1) := by decide +kernel
theorem dX11_swing_23 : decode cX11_swing 23 = .ok (.aload_n 0, 1) := by decide +kernel
theorem dX11_swing_24 : decode cX11_swing 24 = .ok (.getfield 19, 3) := by decide +kernel
theorem dX11_swing_27 : decode cX11_swing 27 = .ok (.iconst 0, 1) := by decide +kernel
theorem dX11_swing_28 : decode cX11_swing 28 = .ok (.iload_n 1, 1) := by decide +kernel
theorem dX11_swing_29 : decode cX11_swing 29 = .ok (.iload_n 2, 1) := by decide +kernel
theorem dX11_swing_30 : decode cX11_swing 30 = .ok (.invokevirtual 252, 3) := by decide +kernel
theorem dX11_swing_33 : decode cX11_swing 33 = .ok (.goto 4, 3) := by decide +kernel
theorem dX11_swing_36 : decode cX11_swing 36 = .ok (.iconst 0, 1) := by decide +kernel
theorem dX11_swing_37 : decode cX11_swing 37 = .ok (.ireturn, 1) := by decide +kernel
theorem dX11_pen_0 : decode cX11_pen 0 = .ok (.aload_n 0, 1) := by decide +kernel
theorem dX11_pen_1 : decode cX11_pen 1 = .ok (.iconst 0, 1) := by decide +kernel
theorem dX11_pen_2 : decode cX11_pen 2 = .ok (.putfield 113, 3) := by decide +kernel
theorem dX11_pen_5 : decode cX11_pen 5 = .ok (.aload_n 0, 1) := by decide +kernel
theorem dX11_pen_6 : decode cX11_pen 6 = .ok (.iload_n 2, 1) := by decide +kernel
theorem dX11_pen_7 : decode cX11_pen 7 = .ok (.ifCond .eq 8, 3) := by decide +kernel
theorem dX11_pen_10 : decode cX11_pen 10 = .ok (.iload_n 2, 1) := by decide +kernel
theorem dX11_pen_11 : decode cX11_pen 11 = .ok (.iconst 1, 1) := by decide +kernel
theorem dX11_pen_12 : decode cX11_pen 12 = .ok (.if_icmp .ne 7, 3) := by decide +kernel
theorem dX11_pen_15 : decode cX11_pen 15 = .ok (.iconst 1, 1) := by decide +kernel
theorem dX11_pen_16 : decode cX11_pen 16 = .ok (.goto 4, 3) := by decide +kernel
theorem dX11_pen_19 : decode cX11_pen 19 = .ok (.iconst 0, 1) := by decide +kernel
theorem dX11_pen_20 : decode cX11_pen 20 = .ok (.iconst 1, 1) := by decide +kernel
theorem dX11_pen_21 : decode cX11_pen 21 = .ok (.invokevirtual 209, 3) := by decide +kernel
theorem dX11_pen_24 : decode cX11_pen 24 = .ok (.ifCond .eq 21, 3) := by decide +kernel
theorem dX11_pen_27 : decode cX11_pen 27 = .ok (.aload_n 0, 1) := by decide +kernel
theorem dX11_pen_28 : decode cX11_pen 28 = .ok (.iload_n 1, 1) := by decide +kernel
theorem dX11_pen_29 : decode cX11_pen 29 = .ok (.iconst 2, 1) := by decide +kernel
theorem dX11_pen_30 : decode cX11_pen 30 = .ok (.invokevirtual 259, 3) := by decide +kernel
theorem dX11_pen_33 : decode cX11_pen 33 = .ok (.ifCond .eq 12, 3) := by decide +kernel
theorem dX11_pen_36 : decode cX11_pen 36 = .ok (.aload_n 0, 1) := by decide +kernel
theorem dX11_pen_37 : decode cX11_pen 37 = .ok (.iload_n 1, 1) := by decide +kernel
theorem dX11_pen_38 : decode cX11_pen 38 = .ok (.iload_n 2, 1) := by decide +kernel
theorem dX11_pen_39 : decode cX11_pen 39 = .ok (.invokevirtual 263, 3) := by decide +kernel
theorem dX11_pen_42 : decode cX11_pen 42 = .ok (.goto 4, 3) := by decide +kernel
theorem dX11_pen_45 : decode cX11_pen 45 = .ok (.iconst 0, 1) := by decide +kernel
theorem dX11_pen_46 : decode cX11_pen 46 = .ok (.ireturn, 1) := by decide +kernel
theorem dX11_cellOf_0 : decode cX11_cellOf 0 = .ok (.bipush 27, 2) := by decide +kernel
theorem dX11_cellOf_2 : decode cX11_cellOf 2 = .ok (.iload_n 1, 1) := by decide +kernel
theorem dX11_cellOf_3 : decode cX11_cellOf 3 = .ok (.sipush 260, 3) := by decide +kernel
theorem dX11_cellOf_6 : decode cX11_cellOf 6 = .ok (.iadd, 1) := by decide +kernel
theorem dX11_cellOf_7 : decode cX11_cellOf 7 = .ok (.bipush 20, 2) := by decide +kernel
theorem dX11_cellOf_9 : decode cX11_cellOf 9 = .ok (.idiv, 1) := by decide +kernel
theorem dX11_cellOf_10 : decode cX11_cellOf 10 = .ok (.imul, 1) := by decide +kernel
theorem dX11_cellOf_11 : decode cX11_cellOf 11 = .ok (.iload_n 0, 1) := by decide +kernel
theorem dX11_cellOf_12 : decode cX11_cellOf 12 = .ok (.sipush 260, 3) := by decide +kernel
theorem dX11_cellOf_15 : decode cX11_cellOf 15 = .ok (.iadd, 1) := by decide +kernel
theorem dX11_cellOf_16 : decode cX11_cellOf 16 = .ok (.bipush 20, 2) := by decide +kernel
theorem dX11_cellOf_18 : decode cX11_cellOf 18 = .ok (.idiv, 1) := by decide +kernel
theorem dX11_cellOf_19 : decode cX11_cellOf 19 = .ok (.iadd, 1) := by decide +kernel
theorem dX11_cellOf_20 : decode cX11_cellOf 20 = .ok (.ireturn, 1) := by decide +kernel
theorem dX11_isSpan_0 : decode cX11_isSpan 0 = .ok (.aload_n 0, 1) := by decide +kernel
theorem dX11_isSpan_1 : decode cX11_isSpan 1 = .ok (.iload_n 1, 1) := by decide +kernel
theorem dX11_isSpan_2 : decode cX11_isSpan 2 = .ok (.ifCond .lt 28, 3) := by decide +kernel
theorem dX11_isSpan_5 : decode cX11_isSpan 5 = .ok (.iload_n 2, 1) := by decide +kernel
theorem dX11_isSpan_6 : decode cX11_isSpan 6 = .ok (.sipush 10000, 3) := by decide +kernel
theorem dX11_isSpan_9 : decode cX11_isSpan 9 = .ok (.if_icmp .ge 21, 3) := by decide +kernel
theorem dX11_isSpan_12 : decode cX11_isSpan 12 = .ok (.iload_n 1, 1) := by decide +kernel
theorem dX11_isSpan_13 : decode cX11_isSpan 13 = .ok (.iload_n 2, 1) := by decide +kernel
theorem dX11_isSpan_14 : decode cX11_isSpan 14 = .ok (.if_icmp .gt 16, 3) := by decide +kernel
theorem dX11_isSpan_17 : decode cX11_isSpan 17 = .ok (.iload_n 2, 1) := by decide +kernel
theorem dX11_isSpan_18 : decode cX11_isSpan 18 = .ok (.iload_n 1, 1) := by decide +kernel
theorem dX11_isSpan_19 : decode cX11_isSpan 19 = .ok (.isub, 1) := by decide +kernel
theorem dX11_isSpan_20 : decode cX11_isSpan 20 = .ok (.sipush 999, 3) := by decide +kernel
theorem dX11_isSpan_23 : decode cX11_isSpan 23 = .ok (.if_icmp .gt 7, 3) := by decide +kernel
theorem dX11_isSpan_26 : decode cX11_isSpan 26 = .ok (.iconst 1, 1) := by decide +kernel
theorem dX11_isSpan_27 : decode cX11_isSpan 27 = .ok (.goto 4, 3) := by decide +kernel
theorem dX11_isSpan_30 : decode cX11_isSpan 30 = .ok (.iconst 0, 1) := by decide +kernel
theorem dX11_isSpan_31 : decode cX11_isSpan 31 = .ok (.iload_n 3, 1) := by decide +kernel
theorem dX11_isSpan_32 : decode cX11_isSpan 32 = .ok (.invokevirtual 209, 3) := by decide +kernel
theorem dX11_isSpan_35 : decode cX11_isSpan 35 = .ok (.ireturn, 1) := by decide +kernel
theorem dX11_clears_0 : decode cX11_clears 0 = .ok (.iconst 0, 1) := by decide +kernel
theorem dX11_clears_1 : decode cX11_clears 1 = .ok (.istore_n 1, 1) := by decide +kernel
theorem dX11_clears_2 : decode cX11_clears 2 = .ok (.iload_n 1, 1) := by decide +kernel
theorem dX11_clears_3 : decode cX11_clears 3 = .ok (.sipush 729, 3) := by decide +kernel
theorem dX11_clears_6 : decode cX11_clears 6 = .ok (.if_icmp .ge 16, 3) := by decide +kernel
theorem dX11_clears_9 : decode cX11_clears 9 = .ok (.aload_n 0, 1) := by decide +kernel
theorem dX11_clears_10 : decode cX11_clears 10 = .ok (.getfield 50, 3) := by decide +kernel
theorem dX11_clears_13 : decode cX11_clears 13 = .ok (.iload_n 1, 1) := by decide +kernel
theorem dX11_clears_14 : decode cX11_clears 14 = .ok (.iconst 0, 1) := by decide +kernel
theorem dX11_clears_15 : decode cX11_clears 15 = .ok (.iastore, 1) := by decide +kernel
theorem dX11_clears_16 : decode cX11_clears 16 = .ok (.iinc 1 1, 3) := by decide +kernel
theorem dX11_clears_19 : decode cX11_clears 19 = .ok (.goto (-17), 3) := by decide +kernel
theorem dX11_clears_22 : decode cX11_clears 22 = .ok (.return_, 1) := by decide +kernel
theorem dX11_drawn_0 : decode cX11_drawn 0 = .ok (.aload_n 0, 1) := by decide +kernel
theorem dX11_drawn_1 : decode cX11_drawn 1 = .ok (.iconst 0, 1) := by decide +kernel
theorem dX11_drawn_2 : decode cX11_drawn 2 = .ok (.putfield 113, 3) := by decide +kernel
theorem dX11_drawn_5 : decode cX11_drawn 5 = .ok (.aload_n 0, 1) := by decide +kernel
theorem dX11_drawn_6 : decode cX11_drawn 6 = .ok (.iload_n 1, 1) := by decide +kernel
theorem dX11_drawn_7 : decode cX11_drawn 7 = .ok (.iload_n 2, 1) := by decide +kernel
theorem dX11_drawn_8 : decode cX11_drawn 8 = .ok (.iconst 1, 1) := by decide +kernel
theorem dX11_drawn_9 : decode cX11_drawn 9 = .ok (.invokevirtual 266, 3) := by decide +kernel
theorem dX11_drawn_12 : decode cX11_drawn 12 = .ok (.ifCond .ne 5, 3) := by decide +kernel
theorem dX11_drawn_15 : decode cX11_drawn 15 = .ok (.iconst 0, 1) := by decide +kernel
theorem dX11_drawn_16 : decode cX11_drawn 16 = .ok (.ireturn, 1) := by decide +kernel
theorem dX11_drawn_17 : decode cX11_drawn 17 = .ok (.aload_n 0, 1) := by decide +kernel
theorem dX11_drawn_18 : decode cX11_drawn 18 = .ok (.invokevirtual 269, 3) := by decide +kernel
theorem dX11_drawn_21 : decode cX11_drawn 21 = .ok (.iconst 0, 1) := by decide +kernel
theorem dX11_drawn_22 : decode cX11_drawn 22 = .ok (.istore_n 3, 1) := by decide +kernel
theorem dX11_drawn_23 : decode cX11_drawn 23 = .ok (.iload_n 1, 1) := by decide +kernel
theorem dX11_drawn_24 : decode cX11_drawn 24 = .ok (.istore 4, 2) := by decide +kernel
theorem dX11_drawn_26 : decode cX11_drawn 26 = .ok (.iload 4, 2) := by decide +kernel
theorem dX11_drawn_28 : decode cX11_drawn 28 = .ok (.iload_n 2, 1) := by decide +kernel
theorem dX11_drawn_29 : decode cX11_drawn 29 = .ok (.if_icmp .gt 54, 3) := by decide +kernel
theorem dX11_drawn_32 : decode cX11_drawn 32 = .ok (.aload_n 0, 1) := by decide +kernel
theorem dX11_drawn_33 : decode cX11_drawn 33 = .ok (.iload 4, 2) := by decide +kernel
theorem dX11_drawn_35 : decode cX11_drawn 35 = .ok (.iconst 0, 1) := by decide +kernel
theorem dX11_drawn_36 : decode cX11_drawn 36 = .ok (.invokevirtual 263, 3) := by decide +kernel
theorem dX11_drawn_39 : decode cX11_drawn 39 = .ok (.aload_n 0, 1) := by decide +kernel
theorem dX11_drawn_40 : decode cX11_drawn 40 = .ok (.iload 4, 2) := by decide +kernel
theorem dX11_drawn_42 : decode cX11_drawn 42 = .ok (.iconst 1, 1) := by decide +kernel
theorem dX11_drawn_43 : decode cX11_drawn 43 = .ok (.invokevirtual 263, 3) := by decide +kernel
theorem dX11_drawn_46 : decode cX11_drawn 46 = .ok (.invokestatic 272, 3) := by decide +kernel
theorem dX11_drawn_49 : decode cX11_drawn 49 = .ok (.istore 5, 2) := by decide +kernel
theorem dX11_drawn_51 : decode cX11_drawn 51 = .ok (.iload_n 3, 1) := by decide +kernel
theorem dX11_drawn_52 : decode cX11_drawn 52 = .ok (.aload_n 0, 1) := by decide +kernel
theorem dX11_drawn_53 : decode cX11_drawn 53 = .ok (.getfield 50, 3) := by decide +kernel
theorem dX11_drawn_56 : decode cX11_drawn 56 = .ok (.iload 5, 2) := by decide +kernel
theorem dX11_drawn_58 : decode cX11_drawn 58 = .ok (.iaload, 1) := by decide +kernel
theorem dX11_drawn_59 : decode cX11_drawn 59 = .ok (.ifCond .ne 7, 3) := by decide +kernel
theorem dX11_drawn_62 : decode cX11_drawn 62 = .ok (.iconst 1, 1) := by decide +kernel
theorem dX11_drawn_63 : decode cX11_drawn 63 = .ok (.goto 4, 3) := by decide +kernel
theorem dX11_drawn_66 : decode cX11_drawn 66 = .ok (.iconst 0, 1) := by decide +kernel
theorem dX11_drawn_67 : decode cX11_drawn 67 = .ok (.iadd, 1) := by decide +kernel
theorem dX11_drawn_68 : decode cX11_drawn 68 = .ok (.istore_n 3, 1) := by decide +kernel
theorem dX11_drawn_69 : decode cX11_drawn 69 = .ok (.aload_n 0, 1) := by decide +kernel
theorem dX11_drawn_70 : decode cX11_drawn 70 = .ok (.getfield 50, 3) := by decide +kernel
theorem dX11_drawn_73 : decode cX11_drawn 73 = .ok (.iload 5, 2) := by decide +kernel
theorem dX11_drawn_75 : decode cX11_drawn 75 = .ok (.iconst 1, 1) := by decide +kernel
theorem dX11_drawn_76 : decode cX11_drawn 76 = .ok (.iastore, 1) := by decide +kernel
theorem dX11_drawn_77 : decode cX11_drawn 77 = .ok (.iinc 4 1, 3) := by decide +kernel
theorem dX11_drawn_80 : decode cX11_drawn 80 = .ok (.goto (-54), 3) := by decide +kernel
theorem dX11_drawn_83 : decode cX11_drawn 83 = .ok (.iload_n 3, 1) := by decide +kernel
theorem dX11_drawn_84 : decode cX11_drawn 84 = .ok (.ireturn, 1) := by decide +kernel
theorem dX11_inCell_0 : decode cX11_inCell 0 = .ok (.aload_n 0, 1) := by decide +kernel
theorem dX11_inCell_1 : decode cX11_inCell 1 = .ok (.iconst 0, 1) := by decide +kernel
theorem dX11_inCell_2 : decode cX11_inCell 2 = .ok (.putfield 113, 3) := by decide +kernel
theorem dX11_inCell_5 : decode cX11_inCell 5 = .ok (.aload_n 0, 1) := by decide +kernel
theorem dX11_inCell_6 : decode cX11_inCell 6 = .ok (.iload_n 1, 1) := by decide +kernel
theorem dX11_inCell_7 : decode cX11_inCell 7 = .ok (.iconst 0, 1) := by decide +kernel
theorem dX11_inCell_8 : decode cX11_inCell 8 = .ok (.sipush 728, 3) := by decide +kernel
theorem dX11_inCell_11 : decode cX11_inCell 11 = .ok (.invokestatic 238, 3) := by decide +kernel
theorem dX11_inCell_14 : decode cX11_inCell 14 = .ok (.iconst 1, 1) := by decide +kernel
theorem dX11_inCell_15 : decode cX11_inCell 15 = .ok (.invokevirtual 209, 3) := by decide +kernel
theorem dX11_inCell_18 : decode cX11_inCell 18 = .ok (.ifCond .eq 13, 3) := by decide +kernel
theorem dX11_inCell_21 : decode cX11_inCell 21 = .ok (.aload_n 0, 1) := by decide +kernel
theorem dX11_inCell_22 : decode cX11_inCell 22 = .ok (.iload_n 2, 1) := by decide +kernel
theorem dX11_inCell_23 : decode cX11_inCell 23 = .ok (.iload_n 3, 1) := by decide +kernel
theorem dX11_inCell_24 : decode cX11_inCell 24 = .ok (.iconst 2, 1) := by decide +kernel
theorem dX11_inCell_25 : decode cX11_inCell 25 = .ok (.invokevirtual 266, 3) := by decide +kernel
theorem dX11_inCell_28 : decode cX11_inCell 28 = .ok (.ifCond .ne 5, 3) := by decide +kernel
theorem dX11_inCell_31 : decode cX11_inCell 31 = .ok (.iconst 0, 1) := by decide +kernel
theorem dX11_inCell_32 : decode cX11_inCell 32 = .ok (.ireturn, 1) := by decide +kernel
theorem dX11_inCell_33 : decode cX11_inCell 33 = .ok (.iload_n 2, 1) := by decide +kernel
theorem dX11_inCell_34 : decode cX11_inCell 34 = .ok (.istore 4, 2) := by decide +kernel
theorem dX11_inCell_36 : decode cX11_inCell 36 = .ok (.iload 4, 2) := by decide +kernel
theorem dX11_inCell_38 : decode cX11_inCell 38 = .ok (.iload_n 3, 1) := by decide +kernel
theorem dX11_inCell_39 : decode cX11_inCell 39 = .ok (.if_icmp .gt 33, 3) := by decide +kernel
theorem dX11_inCell_42 : decode cX11_inCell 42 = .ok (.aload_n 0, 1) := by decide +kernel
theorem dX11_inCell_43 : decode cX11_inCell 43 = .ok (.iload 4, 2) := by decide +kernel
theorem dX11_inCell_45 : decode cX11_inCell 45 = .ok (.iconst 0, 1) := by decide +kernel
theorem dX11_inCell_46 : decode cX11_inCell 46 = .ok (.invokevirtual 263, 3) := by decide +kernel
theorem dX11_inCell_49 : decode cX11_inCell 49 = .ok (.aload_n 0, 1) := by decide +kernel
theorem dX11_inCell_50 : decode cX11_inCell 50 = .ok (.iload 4, 2) := by decide +kernel
theorem dX11_inCell_52 : decode cX11_inCell 52 = .ok (.iconst 1, 1) := by decide +kernel
theorem dX11_inCell_53 : decode cX11_inCell 53 = .ok (.invokevirtual 263, 3) := by decide +kernel
theorem dX11_inCell_56 : decode cX11_inCell 56 = .ok (.invokestatic 272, 3) := by decide +kernel
theorem dX11_inCell_59 : decode cX11_inCell 59 = .ok (.iload_n 1, 1) := by decide +kernel
theorem dX11_inCell_60 : decode cX11_inCell 60 = .ok (.if_icmp .ne 6, 3) := by decide +kernel
theorem dX11_inCell_63 : decode cX11_inCell 63 = .ok (.iload 4, 2) := by decide +kernel
theorem dX11_inCell_65 : decode cX11_inCell 65 = .ok (.ireturn, 1) := by decide +kernel
theorem dX11_inCell_66 : decode cX11_inCell 66 = .ok (.iinc 4 1, 3) := by decide +kernel
theorem dX11_inCell_69 : decode cX11_inCell 69 = .ok (.goto (-33), 3) := by decide +kernel
theorem dX11_inCell_72 : decode cX11_inCell 72 = .ok (.iconst (-1), 1) := by decide +kernel
theorem dX11_inCell_73 : decode cX11_inCell 73 = .ok (.ireturn, 1) := by decide +kernel
theorem dX11_roundOf_0 : decode cX11_roundOf 0 = .ok (.iconst 1, 1) := by decide +kernel
theorem dX11_roundOf_1 : decode cX11_roundOf 1 = .ok (.istore_n 3, 1) := by decide +kernel
theorem dX11_roundOf_2 : decode cX11_roundOf 2 = .ok (.iconst 0, 1) := by decide +kernel
theorem dX11_roundOf_3 : decode cX11_roundOf 3 = .ok (.istore 4, 2) := by decide +kernel
theorem dX11_roundOf_5 : decode cX11_roundOf 5 = .ok (.iload 4, 2) := by decide +kernel
theorem dX11_roundOf_7 : decode cX11_roundOf 7 = .ok (.iconst 4, 1) := by decide +kernel
theorem dX11_roundOf_8 : decode cX11_roundOf 8 = .ok (.if_icmp .ge 48, 3) := by decide +kernel
theorem dX11_roundOf_11 : decode cX11_roundOf 11 = .ok (.aload_n 1, 1) := by decide +kernel
theorem dX11_roundOf_12 : decode cX11_roundOf 12 = .ok (.iload_n 2, 1) := by decide +kernel
theorem dX11_roundOf_13 : decode cX11_roundOf 13 = .ok (.bipush 8, 2) := by decide +kernel
theorem dX11_roundOf_15 : decode cX11_roundOf 15 = .ok (.iadd, 1) := by decide +kernel
theorem dX11_roundOf_16 : decode cX11_roundOf 16 = .ok (.iload 4, 2) := by decide +kernel
theorem dX11_roundOf_18 : decode cX11_roundOf 18 = .ok (.iadd, 1) := by decide +kernel
theorem dX11_roundOf_19 : decode cX11_roundOf 19 = .ok (.iaload, 1) := by decide +kernel
theorem dX11_roundOf_20 : decode cX11_roundOf 20 = .ok (.ifCond .ne 6, 3) := by decide +kernel
theorem dX11_roundOf_23 : decode cX11_roundOf 23 = .ok (.goto 27, 3) := by decide +kernel
theorem dX11_roundOf_26 : decode cX11_roundOf 26 = .ok (.iload_n 3, 1) := by decide +kernel
theorem dX11_roundOf_27 : decode cX11_roundOf 27 = .ok (.istore 5, 2) := by decide +kernel
theorem dX11_roundOf_29 : decode cX11_roundOf 29 = .ok (.iload_n 3, 1) := by decide +kernel
theorem dX11_roundOf_30 : decode cX11_roundOf 30 = .ok (.aload_n 0, 1) := by decide +kernel
theorem dX11_roundOf_31 : decode cX11_roundOf 31 = .ok (.aload_n 1, 1) := by decide +kernel
theorem dX11_roundOf_32 : decode cX11_roundOf 32 = .ok (.iload_n 2, 1) := by decide +kernel
theorem dX11_roundOf_33 : decode cX11_roundOf 33 = .ok (.iload 4, 2) := by decide +kernel
theorem dX11_roundOf_35 : decode cX11_roundOf 35 = .ok (.invokevirtual 245, 3) := by decide +kernel
theorem dX11_roundOf_38 : decode cX11_roundOf 38 = .ok (.irem, 1) := by decide +kernel
theorem dX11_roundOf_39 : decode cX11_roundOf 39 = .ok (.ifCond .eq 11, 3) := by decide +kernel
theorem dX11_roundOf_42 : decode cX11_roundOf 42 = .ok (.iload_n 3, 1) := by decide +kernel
theorem dX11_roundOf_43 : decode cX11_roundOf 43 = .ok (.iload 5, 2) := by decide +kernel
theorem dX11_roundOf_45 : decode cX11_roundOf 45 = .ok (.iadd, 1) := by decide +kernel
theorem dX11_roundOf_46 : decode cX11_roundOf 46 = .ok (.istore_n 3, 1) := by decide +kernel
theorem dX11_roundOf_47 : decode cX11_roundOf 47 = .ok (.goto (-18), 3) := by decide +kernel
theorem dX11_roundOf_50 : decode cX11_roundOf 50 = .ok (.iinc 4 1, 3) := by decide +kernel
theorem dX11_roundOf_53 : decode cX11_roundOf 53 = .ok (.goto (-48), 3) := by decide +kernel
theorem dX11_roundOf_56 : decode cX11_roundOf 56 = .ok (.iload_n 3, 1) := by decide +kernel
theorem dX11_roundOf_57 : decode cX11_roundOf 57 = .ok (.ireturn, 1) := by decide +kernel
theorem dX11_round_0 : decode cX11_round 0 = .ok (.aload_n 0, 1) := by decide +kernel
theorem dX11_round_1 : decode cX11_round 1 = .ok (.iconst 0, 1) := by decide +kernel
theorem dX11_round_2 : decode cX11_round 2 = .ok (.putfield 113, 3) := by decide +kernel
theorem dX11_round_5 : decode cX11_round 5 = .ok (.aload_n 0, 1) := by decide +kernel
theorem dX11_round_6 : decode cX11_round 6 = .ok (.aload_n 0, 1) := by decide +kernel
theorem dX11_round_7 : decode cX11_round 7 = .ok (.getfield 19, 3) := by decide +kernel
theorem dX11_round_10 : decode cX11_round 10 = .ok (.iconst 0, 1) := by decide +kernel
theorem dX11_round_11 : decode cX11_round 11 = .ok (.invokevirtual 275, 3) := by decide +kernel
theorem dX11_round_14 : decode cX11_round 14 = .ok (.ireturn, 1) := by decide +kernel
theorem dX11_off_0 : decode cX11_off 0 = .ok (.aload_n 0, 1) := by decide +kernel
theorem dX11_off_1 : decode cX11_off 1 = .ok (.iconst 0, 1) := by decide +kernel
theorem dX11_off_2 : decode cX11_off 2 = .ok (.putfield 113, 3) := by decide +kernel
theorem dX11_off_5 : decode cX11_off 5 = .ok (.aload_n 0, 1) := by decide +kernel
theorem dX11_off_6 : decode cX11_off 6 = .ok (.aload_n 0, 1) := by decide +kernel
theorem dX11_off_7 : decode cX11_off 7 = .ok (.getfield 19, 3) := by decide +kernel
theorem dX11_off_10 : decode cX11_off 10 = .ok (.iconst 0, 1) := by decide +kernel
theorem dX11_off_11 : decode cX11_off 11 = .ok (.invokevirtual 275, 3) := by decide +kernel
theorem dX11_off_14 : decode cX11_off 14 = .ok (.istore_n 1, 1) := by decide +kernel
theorem dX11_off_15 : decode cX11_off 15 = .ok (.aload_n 0, 1) := by decide +kernel
theorem dX11_off_16 : decode cX11_off 16 = .ok (.aload_n 0, 1) := by decide +kernel
theorem dX11_off_17 : decode cX11_off 17 = .ok (.getfield 19, 3) := by decide +kernel
theorem dX11_off_20 : decode cX11_off 20 = .ok (.iconst 0, 1) := by decide +kernel
theorem dX11_off_21 : decode cX11_off 21 = .ok (.iload_n 1, 1) := by decide +kernel
theorem dX11_off_22 : decode cX11_off 22 = .ok (.iconst 0, 1) := by decide +kernel
theorem dX11_off_23 : decode cX11_off 23 = .ok (.invokevirtual 256, 3) := by decide +kernel
theorem dX11_off_26 : decode cX11_off 26 = .ok (.aload_n 0, 1) := by decide +kernel
theorem dX11_off_27 : decode cX11_off 27 = .ok (.aload_n 0, 1) := by decide +kernel
theorem dX11_off_28 : decode cX11_off 28 = .ok (.getfield 19, 3) := by decide +kernel
theorem dX11_off_31 : decode cX11_off 31 = .ok (.iconst 0, 1) := by decide +kernel
theorem dX11_off_32 : decode cX11_off 32 = .ok (.iconst 0, 1) := by decide +kernel
theorem dX11_off_33 : decode cX11_off 33 = .ok (.iconst 0, 1) := by decide +kernel
theorem dX11_off_34 : decode cX11_off 34 = .ok (.invokevirtual 256, 3) := by decide +kernel
theorem dX11_off_37 : decode cX11_off 37 = .ok (.isub, 1) := by decide +kernel
theorem dX11_off_38 : decode cX11_off 38 = .ok (.invokestatic 279, 3) := by decide +kernel
theorem dX11_off_41 : decode cX11_off 41 = .ok (.aload_n 0, 1) := by decide +kernel
theorem dX11_off_42 : decode cX11_off 42 = .ok (.aload_n 0, 1) := by decide +kernel
theorem dX11_off_43 : decode cX11_off 43 = .ok (.getfield 19, 3) := by decide +kernel
theorem dX11_off_46 : decode cX11_off 46 = .ok (.iconst 0, 1) := by decide +kernel
theorem dX11_off_47 : decode cX11_off 47 = .ok (.iload_n 1, 1) := by decide +kernel
theorem dX11_off_48 : decode cX11_off 48 = .ok (.iconst 1, 1) := by decide +kernel
theorem dX11_off_49 : decode cX11_off 49 = .ok (.invokevirtual 256, 3) := by decide +kernel
theorem dX11_off_52 : decode cX11_off 52 = .ok (.aload_n 0, 1) := by decide +kernel
theorem dX11_off_53 : decode cX11_off 53 = .ok (.aload_n 0, 1) := by decide +kernel
theorem dX11_off_54 : decode cX11_off 54 = .ok (.getfield 19, 3) := by decide +kernel
theorem dX11_off_57 : decode cX11_off 57 = .ok (.iconst 0, 1) := by decide +kernel
theorem dX11_off_58 : decode cX11_off 58 = .ok (.iconst 0, 1) := by decide +kernel
theorem dX11_off_59 : decode cX11_off 59 = .ok (.iconst 1, 1) := by decide +kernel
theorem dX11_off_60 : decode cX11_off 60 = .ok (.invokevirtual 256, 3) := by decide +kernel
theorem dX11_off_63 : decode cX11_off 63 = .ok (.isub, 1) := by decide +kernel
theorem dX11_off_64 : decode cX11_off 64 = .ok (.invokestatic 279, 3) := by decide +kernel
theorem dX11_off_67 : decode cX11_off 67 = .ok (.iadd, 1) := by decide +kernel
theorem dX11_off_68 : decode cX11_off 68 = .ok (.ireturn, 1) := by decide +kernel
theorem dX11_isPortrait_0 : decode cX11_isPortrait 0 = .ok (.aload_n 0, 1) := by decide +kernel
theorem dX11_isPortrait_1 : decode cX11_isPortrait 1 = .ok (.iload_n 1, 1) := by decide +kernel
theorem dX11_isPortrait_2 : decode cX11_isPortrait 2 = .ok (.ifCond .lt 15, 3) := by decide +kernel
theorem dX11_isPortrait_5 : decode cX11_isPortrait 5 = .ok (.iload_n 1, 1) := by decide +kernel
theorem dX11_isPortrait_6 : decode cX11_isPortrait 6 = .ok (.aload_n 0, 1) := by decide +kernel
theorem dX11_isPortrait_7 : decode cX11_isPortrait 7 = .ok (.getfield 226, 3) := by decide +kernel
theorem dX11_isPortrait_10 : decode cX11_isPortrait 10 = .ok (.if_icmp .ge 7, 3) := by decide +kernel
theorem dX11_isPortrait_13 : decode cX11_isPortrait 13 = .ok (.iconst 1, 1) := by decide +kernel
theorem dX11_isPortrait_14 : decode cX11_isPortrait 14 = .ok (.goto 4, 3) := by decide +kernel
theorem dX11_isPortrait_17 : decode cX11_isPortrait 17 = .ok (.iconst 0, 1) := by decide +kernel
theorem dX11_isPortrait_18 : decode cX11_isPortrait 18 = .ok (.iconst 1, 1) := by decide +kernel
theorem dX11_isPortrait_19 : decode cX11_isPortrait 19 = .ok (.invokevirtual 209, 3) := by decide +kernel
theorem dX11_isPortrait_22 : decode cX11_isPortrait 22 = .ok (.ireturn, 1) := by decide +kernel
theorem dX11_keep_0 : decode cX11_keep 0 = .ok (.aload_n 0, 1) := by decide +kernel
theorem dX11_keep_1 : decode cX11_keep 1 = .ok (.iconst 0, 1) := by decide +kernel
theorem dX11_keep_2 : decode cX11_keep 2 = .ok (.putfield 113, 3) := by decide +kernel
theorem dX11_keep_5 : decode cX11_keep 5 = .ok (.aload_n 0, 1) := by decide +kernel
theorem dX11_keep_6 : decode cX11_keep 6 = .ok (.getfield 226, 3) := by decide +kernel
theorem dX11_keep_9 : decode cX11_keep 9 = .ok (.bipush 8, 2) := by decide +kernel
theorem dX11_keep_11 : decode cX11_keep 11 = .ok (.if_icmp .ne 9, 3) := by decide +kernel
theorem dX11_keep_14 : decode cX11_keep 14 = .ok (.aload_n 0, 1) := by decide +kernel
theorem dX11_keep_15 : decode cX11_keep 15 = .ok (.iconst 2, 1) := by decide +kernel
theorem dX11_keep_16 : decode cX11_keep 16 = .ok (.invokevirtual 249, 3) := by decide +kernel
theorem dX11_keep_19 : decode cX11_keep 19 = .ok (.ireturn, 1) := by decide +kernel
theorem dX11_keep_20 : decode cX11_keep 20 = .ok (.iconst 0, 1) := by decide +kernel
theorem dX11_keep_21 : decode cX11_keep 21 = .ok (.istore_n 1, 1) := by decide +kernel
theorem dX11_keep_22 : decode cX11_keep 22 = .ok (.iload_n 1, 1) := by decide +kernel
theorem dX11_keep_23 : decode cX11_keep 23 = .ok (.bipush 12, 2) := by decide +kernel
theorem dX11_keep_25 : decode cX11_keep 25 = .ok (.if_icmp .ge 29, 3) := by decide +kernel
theorem dX11_keep_28 : decode cX11_keep 28 = .ok (.aload_n 0, 1) := by decide +kernel
theorem dX11_keep_29 : decode cX11_keep 29 = .ok (.getfield 53, 3) := by decide +kernel
theorem dX11_keep_32 : decode cX11_keep 32 = .ok (.bipush 12, 2) := by decide +kernel
theorem dX11_keep_34 : decode cX11_keep 34 = .ok (.aload_n 0, 1) := by decide +kernel
theorem dX11_keep_35 : decode cX11_keep 35 = .ok (.getfield 226, 3) := by decide +kernel
theorem dX11_keep_38 : decode cX11_keep 38 = .ok (.imul, 1) := by decide +kernel
theorem dX11_keep_39 : decode cX11_keep 39 = .ok (.iload_n 1, 1) := by decide +kernel
theorem dX11_keep_40 : decode cX11_keep 40 = .ok (.iadd, 1) := by decide +kernel
theorem dX11_keep_41 : decode cX11_keep 41 = .ok (.aload_n 0, 1) := by decide +kernel
theorem dX11_keep_42 : decode cX11_keep 42 = .ok (.getfield 19, 3) := by decide +kernel
theorem dX11_keep_45 : decode cX11_keep 45 = .ok (.iload_n 1, 1) := by decide +kernel
theorem dX11_keep_46 : decode cX11_keep 46 = .ok (.iaload, 1) := by decide +kernel
theorem dX11_keep_47 : decode cX11_keep 47 = .ok (.iastore, 1) := by decide +kernel
theorem dX11_keep_48 : decode cX11_keep 48 = .ok (.iinc 1 1, 3) := by decide +kernel
theorem dX11_keep_51 : decode cX11_keep 51 = .ok (.goto (-29), 3) := by decide +kernel
theorem dX11_keep_54 : decode cX11_keep 54 = .ok (.aload_n 0, 1) := by decide +kernel
theorem dX11_keep_55 : decode cX11_keep 55 = .ok (.dup, 1) := by decide +kernel
theorem dX11_keep_56 : decode cX11_keep 56 = .ok (.getfield 226, 3) := by decide +kernel
theorem dX11_keep_59 : decode cX11_keep 59 = .ok (.iconst 1, 1) := by decide +kernel
theorem dX11_keep_60 : decode cX11_keep 60 = .ok (.iadd, 1) := by decide +kernel
theorem dX11_keep_61 : decode cX11_keep 61 = .ok (.putfield 226, 3) := by decide +kernel
theorem dX11_keep_64 : decode cX11_keep 64 = .ok (.aload_n 0, 1) := by decide +kernel
theorem dX11_keep_65 : decode cX11_keep 65 = .ok (.getfield 226, 3) := by decide +kernel
theorem dX11_keep_68 : decode cX11_keep 68 = .ok (.iconst 1, 1) := by decide +kernel
theorem dX11_keep_69 : decode cX11_keep 69 = .ok (.isub, 1) := by decide +kernel
theorem dX11_keep_70 : decode cX11_keep 70 = .ok (.ireturn, 1) := by decide +kernel
theorem dX11_take_0 : decode cX11_take 0 = .ok (.aload_n 0, 1) := by decide +kernel
theorem dX11_take_1 : decode cX11_take 1 = .ok (.iconst 0, 1) := by decide +kernel
theorem dX11_take_2 : decode cX11_take 2 = .ok (.putfield 113, 3) := by decide +kernel
theorem dX11_take_5 : decode cX11_take 5 = .ok (.aload_n 0, 1) := by decide +kernel
theorem dX11_take_6 : decode cX11_take 6 = .ok (.iload_n 1, 1) := by decide +kernel
theorem dX11_take_7 : decode cX11_take 7 = .ok (.invokevirtual 282, 3) := by decide +kernel
theorem dX11_take_10 : decode cX11_take 10 = .ok (.ifCond .ne 4, 3) := by decide +kernel
theorem dX11_take_13 : decode cX11_take 13 = .ok (.return_, 1) := by decide +kernel
theorem dX11_take_14 : decode cX11_take 14 = .ok (.iconst 0, 1) := by decide +kernel
theorem dX11_take_15 : decode cX11_take 15 = .ok (.istore_n 2, 1) := by decide +kernel
theorem dX11_take_16 : decode cX11_take 16 = .ok (.iload_n 2, 1) := by decide +kernel
theorem dX11_take_17 : decode cX11_take 17 = .ok (.bipush 12, 2) := by decide +kernel
theorem dX11_take_19 : decode cX11_take 19 = .ok (.if_icmp .ge 26, 3) := by decide +kernel
theorem dX11_take_22 : decode cX11_take 22 = .ok (.aload_n 0, 1) := by decide +kernel
theorem dX11_take_23 : decode cX11_take 23 = .ok (.getfield 19, 3) := by decide +kernel
theorem dX11_take_26 : decode cX11_take 26 = .ok (.iload_n 2, 1) := by decide +kernel
theorem dX11_take_27 : decode cX11_take 27 = .ok (.aload_n 0, 1) := by decide +kernel
theorem dX11_take_28 : decode cX11_take 28 = .ok (.getfield 53, 3) := by decide +kernel
theorem dX11_take_31 : decode cX11_take 31 = .ok (.bipush 12, 2) := by decide +kernel
theorem dX11_take_33 : decode cX11_take 33 = .ok (.iload_n 1, 1) := by decide +kernel
theorem dX11_take_34 : decode cX11_take 34 = .ok (.imul, 1) := by decide +kernel
theorem dX11_take_35 : decode cX11_take 35 = .ok (.iload_n 2, 1) := by decide +kernel
theorem dX11_take_36 : decode cX11_take 36 = .ok (.iadd, 1) := by decide +kernel
theorem dX11_take_37 : decode cX11_take 37 = .ok (.iaload, 1) := by decide +kernel
theorem dX11_take_38 : decode cX11_take 38 = .ok (.iastore, 1) := by decide +kernel
theorem dX11_take_39 : decode cX11_take 39 = .ok (.iinc 2 1, 3) := by decide +kernel
theorem dX11_take_42 : decode cX11_take 42 = .ok (.goto (-26), 3) := by decide +kernel
theorem dX11_take_45 : decode cX11_take 45 = .ok (.return_, 1) := by decide +kernel
theorem dX11_becomes_0 : decode cX11_becomes 0 = .ok (.iload_n 0, 1) := by decide +kernel
theorem dX11_becomes_1 : decode cX11_becomes 1 = .ok (.iconst 2, 1) := by decide +kernel
theorem dX11_becomes_2 : decode cX11_becomes 2 = .ok (.idiv, 1) := by decide +kernel
theorem dX11_becomes_3 : decode cX11_becomes 3 = .ok (.iload_n 1, 1) := by decide +kernel
theorem dX11_becomes_4 : decode cX11_becomes 4 = .ok (.iconst 1, 1) := by decide +kernel
theorem dX11_becomes_5 : decode cX11_becomes 5 = .ok (.iand, 1) := by decide +kernel
theorem dX11_becomes_6 : decode cX11_becomes 6 = .ok (.ixor, 1) := by decide +kernel
theorem dX11_becomes_7 : decode cX11_becomes 7 = .ok (.istore_n 2, 1) := by decide +kernel
theorem dX11_becomes_8 : decode cX11_becomes 8 = .ok (.iload_n 2, 1) := by decide +kernel
theorem dX11_becomes_9 : decode cX11_becomes 9 = .ok (.ifCond .ne 11, 3) := by decide +kernel
theorem dX11_becomes_12 : decode cX11_becomes 12 = .ok (.iload_n 1, 1) := by decide +kernel
theorem dX11_becomes_13 : decode cX11_becomes 13 = .ok (.iconst 1, 1) := by decide +kernel
theorem dX11_becomes_14 : decode cX11_becomes 14 = .ok (.ishr, 1) := by decide +kernel
theorem dX11_becomes_15 : decode cX11_becomes 15 = .ok (.iconst 1, 1) := by decide +kernel
theorem dX11_becomes_16 : decode cX11_becomes 16 = .ok (.iand, 1) := by decide +kernel
theorem dX11_becomes_17 : decode cX11_becomes 17 = .ok (.goto 8, 3) := by decide +kernel
theorem dX11_becomes_20 : decode cX11_becomes 20 = .ok (.iload_n 1, 1) := by decide +kernel
theorem dX11_becomes_21 : decode cX11_becomes 21 = .ok (.iconst 2, 1) := by decide +kernel
theorem dX11_becomes_22 : decode cX11_becomes 22 = .ok (.ishr, 1) := by decide +kernel
theorem dX11_becomes_23 : decode cX11_becomes 23 = .ok (.iconst 1, 1) := by decide +kernel
theorem dX11_becomes_24 : decode cX11_becomes 24 = .ok (.iand, 1) := by decide +kernel
theorem dX11_becomes_25 : decode cX11_becomes 25 = .ok (.istore_n 3, 1) := by decide +kernel
theorem dX11_becomes_26 : decode cX11_becomes 26 = .ok (.iconst 2, 1) := by decide +kernel
theorem dX11_becomes_27 : decode cX11_becomes 27 = .ok (.iload_n 2, 1) := by decide +kernel
theorem dX11_becomes_28 : decode cX11_becomes 28 = .ok (.imul, 1) := by decide +kernel
theorem dX11_becomes_29 : decode cX11_becomes 29 = .ok (.iload_n 0, 1) := by decide +kernel
theorem dX11_becomes_30 : decode cX11_becomes 30 = .ok (.iconst 2, 1) := by decide +kernel
theorem dX11_becomes_31 : decode cX11_becomes 31 = .ok (.irem, 1) := by decide +kernel
theorem dX11_becomes_32 : decode cX11_becomes 32 = .ok (.iload_n 3, 1) := by decide +kernel
theorem dX11_becomes_33 : decode cX11_becomes 33 = .ok (.ixor, 1) := by decide +kernel
theorem dX11_becomes_34 : decode cX11_becomes 34 = .ok (.iadd, 1) := by decide +kernel
theorem dX11_becomes_35 : decode cX11_becomes 35 = .ok (.ireturn, 1) := by decide +kernel
theorem dX11_sizeOf_0 : decode cX11_sizeOf 0 = .ok (.aload_n 0, 1) := by decide +kernel
theorem dX11_sizeOf_1 : decode cX11_sizeOf 1 = .ok (.getfield 53, 3) := by decide +kernel
theorem dX11_sizeOf_4 : decode cX11_sizeOf 4 = .ok (.bipush 12, 2) := by decide +kernel
theorem dX11_sizeOf_6 : decode cX11_sizeOf 6 = .ok (.iload_n 1, 1) := by decide +kernel
theorem dX11_sizeOf_7 : decode cX11_sizeOf 7 = .ok (.imul, 1) := by decide +kernel
theorem dX11_sizeOf_8 : decode cX11_sizeOf 8 = .ok (.bipush 8, 2) := by decide +kernel
theorem dX11_sizeOf_10 : decode cX11_sizeOf 10 = .ok (.iadd, 1) := by decide +kernel
theorem dX11_sizeOf_11 : decode cX11_sizeOf 11 = .ok (.iload_n 2, 1) := by decide +kernel
theorem dX11_sizeOf_12 : decode cX11_sizeOf 12 = .ok (.iadd, 1) := by decide +kernel
theorem dX11_sizeOf_13 : decode cX11_sizeOf 13 = .ok (.iaload, 1) := by decide +kernel
theorem dX11_sizeOf_14 : decode cX11_sizeOf 14 = .ok (.ireturn, 1) := by decide +kernel
theorem dX11_isWay_0 : decode cX11_isWay 0 = .ok (.iconst (-1), 1) := by decide +kernel
theorem dX11_isWay_1 : decode cX11_isWay 1 = .ok (.istore 4, 2) := by decide +kernel
theorem dX11_isWay_3 : decode cX11_isWay 3 = .ok (.iconst 0, 1) := by decide +kernel
theorem dX11_isWay_4 : decode cX11_isWay 4 = .ok (.istore 5, 2) := by decide +kernel
theorem dX11_isWay_6 : decode cX11_isWay 6 = .ok (.iload 5, 2) := by decide +kernel
theorem dX11_isWay_8 : decode cX11_isWay 8 = .ok (.iconst 4, 1) := by decide +kernel
theorem dX11_isWay_9 : decode cX11_isWay 9 = .ok (.if_icmp .ge 164, 3) := by decide +kernel
theorem dX11_isWay_12 : decode cX11_isWay 12 = .ok (.iload 5, 2) := by decide +kernel
theorem dX11_isWay_14 : decode cX11_isWay 14 = .ok (.iload_n 3, 1) := by decide +kernel
theorem dX11_isWay_15 : decode cX11_isWay 15 = .ok (.invokestatic 285, 3) := by decide +kernel
theorem dX11_isWay_18 : decode cX11_isWay 18 = .ok (.istore 6, 2) := by decide +kernel
theorem dX11_isWay_20 : decode cX11_isWay 20 = .ok (.aload_n 0, 1) := by decide +kernel
theorem dX11_isWay_21 : decode cX11_isWay 21 = .ok (.iload_n 1, 1) := by decide +kernel
theorem dX11_isWay_22 : decode cX11_isWay 22 = .ok (.iload 5, 2) := by decide +kernel
theorem dX11_isWay_24 : decode cX11_isWay 24 = .ok (.invokevirtual 288, 3) := by decide +kernel
theorem dX11_isWay_27 : decode cX11_isWay 27 = .ok (.ifCond .le 7, 3) := by decide +kernel
theorem dX11_isWay_30 : decode cX11_isWay 30 = .ok (.iconst 1, 1) := by decide +kernel
theorem dX11_isWay_31 : decode cX11_isWay 31 = .ok (.goto 4, 3) := by decide +kernel
theorem dX11_isWay_34 : decode cX11_isWay 34 = .ok (.iconst 0, 1) := by decide +kernel
theorem dX11_isWay_35 : decode cX11_isWay 35 = .ok (.aload_n 0, 1) := by decide +kernel
theorem dX11_isWay_36 : decode cX11_isWay 36 = .ok (.iload_n 2, 1) := by decide +kernel
theorem dX11_isWay_37 : decode cX11_isWay 37 = .ok (.iload 6, 2) := by decide +kernel
theorem dX11_isWay_39 : decode cX11_isWay 39 = .ok (.invokevirtual 288, 3) := by decide +kernel
theorem dX11_isWay_42 : decode cX11_isWay 42 = .ok (.ifCond .le 7, 3) := by decide +kernel
theorem dX11_isWay_45 : decode cX11_isWay 45 = .ok (.iconst 1, 1) := by decide +kernel
theorem dX11_isWay_46 : decode cX11_isWay 46 = .ok (.goto 4, 3) := by decide +kernel
theorem dX11_isWay_49 : decode cX11_isWay 49 = .ok (.iconst 0, 1) := by decide +kernel
theorem dX11_isWay_50 : decode cX11_isWay 50 = .ok (.if_icmp .eq 5, 3) := by decide +kernel
theorem dX11_isWay_53 : decode cX11_isWay 53 = .ok (.iconst 0, 1) := by decide +kernel
theorem dX11_isWay_54 : decode cX11_isWay 54 = .ok (.ireturn, 1) := by decide +kernel
theorem dX11_isWay_55 : decode cX11_isWay 55 = .ok (.aload_n 0, 1) := by decide +kernel
theorem dX11_isWay_56 : decode cX11_isWay 56 = .ok (.iload_n 1, 1) := by decide +kernel
theorem dX11_isWay_57 : decode cX11_isWay 57 = .ok (.iload 5, 2) := by decide +kernel
theorem dX11_isWay_59 : decode cX11_isWay 59 = .ok (.invokevirtual 288, 3) := by decide +kernel
theorem dX11_isWay_62 : decode cX11_isWay 62 = .ok (.ifCond .ne 6, 3) := by decide +kernel
theorem dX11_isWay_65 : decode cX11_isWay 65 = .ok (.goto 102, 3) := by decide +kernel
theorem dX11_isWay_68 : decode cX11_isWay 68 = .ok (.aload_n 0, 1) := by decide +kernel
theorem dX11_isWay_69 : decode cX11_isWay 69 = .ok (.getfield 7, 3) := by decide +kernel
theorem dX11_isWay_72 : decode cX11_isWay 72 = .ok (.iload 5, 2) := by decide +kernel
theorem dX11_isWay_74 : decode cX11_isWay 74 = .ok (.iaload, 1) := by decide +kernel
theorem dX11_isWay_75 : decode cX11_isWay 75 = .ok (.aload_n 0, 1) := by decide +kernel
theorem dX11_isWay_76 : decode cX11_isWay 76 = .ok (.getfield 7, 3) := by decide +kernel
theorem dX11_isWay_79 : decode cX11_isWay 79 = .ok (.iload 6, 2) := by decide +kernel
theorem dX11_isWay_81 : decode cX11_isWay 81 = .ok (.iaload, 1) := by decide +kernel
theorem dX11_isWay_82 : decode cX11_isWay 82 = .ok (.if_icmp .ne 34, 3) := by decide +kernel
theorem dX11_isWay_85 : decode cX11_isWay 85 = .ok (.aload_n 0, 1) := by decide +kernel
theorem dX11_isWay_86 : decode cX11_isWay 86 = .ok (.aload_n 0, 1) := by decide +kernel
theorem dX11_isWay_87 : decode cX11_isWay 87 = .ok (.getfield 53, 3) := by decide +kernel
theorem dX11_isWay_90 : decode cX11_isWay 90 = .ok (.bipush 12, 2) := by decide +kernel
theorem dX11_isWay_92 : decode cX11_isWay 92 = .ok (.iload_n 1, 1) := by decide +kernel
theorem dX11_isWay_93 : decode cX11_isWay 93 = .ok (.imul, 1) := by decide +kernel
theorem dX11_isWay_94 : decode cX11_isWay 94 = .ok (.iload 5, 2) := by decide +kernel
theorem dX11_isWay_96 : decode cX11_isWay 96 = .ok (.invokevirtual 245, 3) := by decide +kernel
theorem dX11_isWay_99 : decode cX11_isWay 99 = .ok (.aload_n 0, 1) := by decide +kernel
theorem dX11_isWay_100 : decode cX11_isWay 100 = .ok (.aload_n 0, 1) := by decide +kernel
theorem dX11_isWay_101 : decode cX11_isWay 101 = .ok (.getfield 53, 3) := by decide +kernel
theorem dX11_isWay_104 : decode cX11_isWay 104 = .ok (.bipush 12, 2) := by decide +kernel
theorem dX11_isWay_106 : decode cX11_isWay 106 = .ok (.iload_n 2, 1) := by decide +kernel
theorem dX11_isWay_107 : decode cX11_isWay 107 = .ok (.imul, 1) := by decide +kernel
theorem dX11_isWay_108 : decode cX11_isWay 108 = .ok (.iload 6, 2) := by decide +kernel
theorem dX11_isWay_110 : decode cX11_isWay 110 = .ok (.invokevirtual 245, 3) := by decide +kernel
theorem dX11_isWay_113 : decode cX11_isWay 113 = .ok (.if_icmp .eq 5, 3) := by decide +kernel
theorem dX11_isWay_116 : decode cX11_isWay 116 = .ok (.iconst 0, 1) := by decide +kernel
theorem dX11_isWay_117 : decode cX11_isWay 117 = .ok (.ireturn, 1) := by decide +kernel
theorem dX11_isWay_118 : decode cX11_isWay 118 = .ok (.iload 4, 2) := by decide +kernel
theorem dX11_isWay_120 : decode cX11_isWay 120 = .ok (.iconst (-1), 1) := by decide +kernel
theorem dX11_isWay_121 : decode cX11_isWay 121 = .ok (.if_icmp .ne 7, 3) := by decide +kernel
theorem dX11_isWay_124 : decode cX11_isWay 124 = .ok (.iload 5, 2) := by decide +kernel
theorem dX11_isWay_126 : decode cX11_isWay 126 = .ok (.istore 4, 2) := by decide +kernel
theorem dX11_isWay_128 : decode cX11_isWay 128 = .ok (.aload_n 0, 1) := by decide +kernel
theorem dX11_isWay_129 : decode cX11_isWay 129 = .ok (.iload_n 2, 1) := by decide +kernel
theorem dX11_isWay_130 : decode cX11_isWay 130 = .ok (.iload 6, 2) := by decide +kernel
theorem dX11_isWay_132 : decode cX11_isWay 132 = .ok (.invokevirtual 288, 3) := by decide +kernel
theorem dX11_isWay_135 : decode cX11_isWay 135 = .ok (.aload_n 0, 1) := by decide +kernel
theorem dX11_isWay_136 : decode cX11_isWay 136 = .ok (.iload_n 1, 1) := by decide +kernel
theorem dX11_isWay_137 : decode cX11_isWay 137 = .ok (.iload 4, 2) := by decide +kernel
theorem dX11_isWay_139 : decode cX11_isWay 139 = .ok (.invokevirtual 288, 3) := by decide +kernel
theorem dX11_isWay_142 : decode cX11_isWay 142 = .ok (.imul, 1) := by decide +kernel
theorem dX11_isWay_143 : decode cX11_isWay 143 = .ok (.aload_n 0, 1) := by decide +kernel
theorem dX11_isWay_144 : decode cX11_isWay 144 = .ok (.iload_n 2, 1) := by decide +kernel
theorem dX11_isWay_145 : decode cX11_isWay 145 = .ok (.iload 4, 2) := by decide +kernel
theorem dX11_isWay_147 : decode cX11_isWay 147 = .ok (.iload_n 3, 1) := by decide +kernel
theorem dX11_isWay_148 : decode cX11_isWay 148 = .ok (.invokestatic 285, 3) := by decide +kernel
theorem dX11_isWay_151 : decode cX11_isWay 151 = .ok (.invokevirtual 288, 3) := by decide +kernel
theorem dX11_isWay_154 : decode cX11_isWay 154 = .ok (.aload_n 0, 1) := by decide +kernel
theorem dX11_isWay_155 : decode cX11_isWay 155 = .ok (.iload_n 1, 1) := by decide +kernel
theorem dX11_isWay_156 : decode cX11_isWay 156 = .ok (.iload 5, 2) := by decide +kernel
theorem dX11_isWay_158 : decode cX11_isWay 158 = .ok (.invokevirtual 288, 3) := by decide +kernel
theorem dX11_isWay_161 : decode cX11_isWay 161 = .ok (.imul, 1) := by decide +kernel
theorem dX11_isWay_162 : decode cX11_isWay 162 = .ok (.if_icmp .eq 5, 3) := by decide +kernel
theorem dX11_isWay_165 : decode cX11_isWay 165 = .ok (.iconst 0, 1) := by decide +kernel
theorem dX11_isWay_166 : decode cX11_isWay 166 = .ok (.ireturn, 1) := by decide +kernel
theorem dX11_isWay_167 : decode cX11_isWay 167 = .ok (.iinc 5 1, 3) := by decide +kernel
theorem dX11_isWay_170 : decode cX11_isWay 170 = .ok (.goto (-164), 3) := by decide +kernel
theorem dX11_isWay_173 : decode cX11_isWay 173 = .ok (.iconst 1, 1) := by decide +kernel
theorem dX11_isWay_174 : decode cX11_isWay 174 = .ok (.ireturn, 1) := by decide +kernel
theorem dX11_isTime_0 : decode cX11_isTime 0 = .ok (.iconst 0, 1) := by decide +kernel
theorem dX11_isTime_1 : decode cX11_isTime 1 = .ok (.istore 6, 2) := by decide +kernel
theorem dX11_isTime_3 : decode cX11_isTime 3 = .ok (.iload 6, 2) := by decide +kernel
theorem dX11_isTime_5 : decode cX11_isTime 5 = .ok (.iconst 4, 1) := by decide +kernel
theorem dX11_isTime_6 : decode cX11_isTime 6 = .ok (.if_icmp .ge 141, 3) := by decide +kernel
theorem dX11_isTime_9 : decode cX11_isTime 9 = .ok (.aload_n 0, 1) := by decide +kernel
theorem dX11_isTime_10 : decode cX11_isTime 10 = .ok (.iload_n 1, 1) := by decide +kernel
theorem dX11_isTime_11 : decode cX11_isTime 11 = .ok (.iload 6, 2) := by decide +kernel
theorem dX11_isTime_13 : decode cX11_isTime 13 = .ok (.invokevirtual 288, 3) := by decide +kernel
theorem dX11_isTime_16 : decode cX11_isTime 16 = .ok (.ifCond .ne 6, 3) := by decide +kernel
theorem dX11_isTime_19 : decode cX11_isTime 19 = .ok (.goto 122, 3) := by decide +kernel
theorem dX11_isTime_22 : decode cX11_isTime 22 = .ok (.iload 6, 2) := by decide +kernel
theorem dX11_isTime_24 : decode cX11_isTime 24 = .ok (.iload_n 3, 1) := by decide +kernel
theorem dX11_isTime_25 : decode cX11_isTime 25 = .ok (.invokestatic 285, 3) := by decide +kernel
theorem dX11_isTime_28 : decode cX11_isTime 28 = .ok (.istore 7, 2) := by decide +kernel
theorem dX11_isTime_30 : decode cX11_isTime 30 = .ok (.aload_n 0, 1) := by decide +kernel
theorem dX11_isTime_31 : decode cX11_isTime 31 = .ok (.aload_n 0, 1) := by decide +kernel
theorem dX11_isTime_32 : decode cX11_isTime 32 = .ok (.getfield 53, 3) := by decide +kernel
theorem dX11_isTime_35 : decode cX11_isTime 35 = .ok (.bipush 12, 2) := by decide +kernel
theorem dX11_isTime_37 : decode cX11_isTime 37 = .ok (.iload_n 1, 1) := by decide +kernel
theorem dX11_isTime_38 : decode cX11_isTime 38 = .ok (.imul, 1) := by decide +kernel
theorem dX11_isTime_39 : decode cX11_isTime 39 = .ok (.iload 6, 2) := by decide +kernel
theorem dX11_isTime_41 : decode cX11_isTime 41 = .ok (.invokevirtual 245, 3) := by decide +kernel
theorem dX11_isTime_44 : decode cX11_isTime 44 = .ok (.istore 8, 2) := by decide +kernel
theorem dX11_isTime_46 : decode cX11_isTime 46 = .ok (.iload 5, 2) := by decide +kernel
theorem dX11_isTime_48 : decode cX11_isTime 48 = .ok (.iload 7, 2) := by decide +kernel
theorem dX11_isTime_50 : decode cX11_isTime 50 = .ok (.iconst 2, 1) := by decide +kernel
theorem dX11_isTime_51 : decode cX11_isTime 51 = .ok (.idiv, 1) := by decide +kernel
theorem dX11_isTime_52 : decode cX11_isTime 52 = .ok (.ishr, 1) := by decide +kernel
theorem dX11_isTime_53 : decode cX11_isTime 53 = .ok (.iconst 1, 1) := by decide +kernel
theorem dX11_isTime_54 : decode cX11_isTime 54 = .ok (.iand, 1) := by decide +kernel
theorem dX11_isTime_55 : decode cX11_isTime 55 = .ok (.iconst 1, 1) := by decide +kernel
theorem dX11_isTime_56 : decode cX11_isTime 56 = .ok (.if_icmp .ne 7, 3) := by decide +kernel
theorem dX11_isTime_59 : decode cX11_isTime 59 = .ok (.iconst 1, 1) := by decide +kernel
theorem dX11_isTime_60 : decode cX11_isTime 60 = .ok (.goto 4, 3) := by decide +kernel
theorem dX11_isTime_63 : decode cX11_isTime 63 = .ok (.iconst 0, 1) := by decide +kernel
theorem dX11_isTime_64 : decode cX11_isTime 64 = .ok (.istore 9, 2) := by decide +kernel
theorem dX11_isTime_66 : decode cX11_isTime 66 = .ok (.iload 9, 2) := by decide +kernel
theorem dX11_isTime_68 : decode cX11_isTime 68 = .ok (.ifCond .eq 13, 3) := by decide +kernel
theorem dX11_isTime_71 : decode cX11_isTime 71 = .ok (.iload 8, 2) := by decide +kernel
theorem dX11_isTime_73 : decode cX11_isTime 73 = .ok (.iconst 2, 1) := by decide +kernel
theorem dX11_isTime_74 : decode cX11_isTime 74 = .ok (.irem, 1) := by decide +kernel
theorem dX11_isTime_75 : decode cX11_isTime 75 = .ok (.iconst 1, 1) := by decide +kernel
theorem dX11_isTime_76 : decode cX11_isTime 76 = .ok (.if_icmp .ne 5, 3) := by decide +kernel
theorem dX11_isTime_79 : decode cX11_isTime 79 = .ok (.iconst 0, 1) := by decide +kernel
theorem dX11_isTime_80 : decode cX11_isTime 80 = .ok (.ireturn, 1) := by decide +kernel
theorem dX11_isTime_81 : decode cX11_isTime 81 = .ok (.aload_n 0, 1) := by decide +kernel
theorem dX11_isTime_82 : decode cX11_isTime 82 = .ok (.getfield 53, 3) := by decide +kernel
theorem dX11_isTime_85 : decode cX11_isTime 85 = .ok (.bipush 12, 2) := by decide +kernel
theorem dX11_isTime_87 : decode cX11_isTime 87 = .ok (.iload_n 1, 1) := by decide +kernel
theorem dX11_isTime_88 : decode cX11_isTime 88 = .ok (.imul, 1) := by decide +kernel
theorem dX11_isTime_89 : decode cX11_isTime 89 = .ok (.iconst 4, 1) := by decide +kernel
theorem dX11_isTime_90 : decode cX11_isTime 90 = .ok (.iadd, 1) := by decide +kernel
theorem dX11_isTime_91 : decode cX11_isTime 91 = .ok (.iload 6, 2) := by decide +kernel
theorem dX11_isTime_93 : decode cX11_isTime 93 = .ok (.iadd, 1) := by decide +kernel
theorem dX11_isTime_94 : decode cX11_isTime 94 = .ok (.iaload, 1) := by decide +kernel
theorem dX11_isTime_95 : decode cX11_isTime 95 = .ok (.iload 4, 2) := by decide +kernel
theorem dX11_isTime_97 : decode cX11_isTime 97 = .ok (.iadd, 1) := by decide +kernel
theorem dX11_isTime_98 : decode cX11_isTime 98 = .ok (.iload 9, 2) := by decide +kernel
theorem dX11_isTime_100 : decode cX11_isTime 100 = .ok (.ifCond .eq 10, 3) := by decide +kernel
theorem dX11_isTime_103 : decode cX11_isTime 103 = .ok (.iload 8, 2) := by decide +kernel
theorem dX11_isTime_105 : decode cX11_isTime 105 = .ok (.iconst 2, 1) := by decide +kernel
theorem dX11_isTime_106 : decode cX11_isTime 106 = .ok (.idiv, 1) := by decide +kernel
theorem dX11_isTime_107 : decode cX11_isTime 107 = .ok (.goto 4, 3) := by decide +kernel
theorem dX11_isTime_110 : decode cX11_isTime 110 = .ok (.iconst 0, 1) := by decide +kernel
theorem dX11_isTime_111 : decode cX11_isTime 111 = .ok (.iadd, 1) := by decide +kernel
theorem dX11_isTime_112 : decode cX11_isTime 112 = .ok (.istore 10, 2) := by decide +kernel
theorem dX11_isTime_114 : decode cX11_isTime 114 = .ok (.iload 10, 2) := by decide +kernel
theorem dX11_isTime_116 : decode cX11_isTime 116 = .ok (.iload 8, 2) := by decide +kernel
theorem dX11_isTime_118 : decode cX11_isTime 118 = .ok (.irem, 1) := by decide +kernel
theorem dX11_isTime_119 : decode cX11_isTime 119 = .ok (.aload_n 0, 1) := by decide +kernel
theorem dX11_isTime_120 : decode cX11_isTime 120 = .ok (.getfield 53, 3) := by decide +kernel
theorem dX11_isTime_123 : decode cX11_isTime 123 = .ok (.bipush 12, 2) := by decide +kernel
theorem dX11_isTime_125 : decode cX11_isTime 125 = .ok (.iload_n 2, 1) := by decide +kernel
theorem dX11_isTime_126 : decode cX11_isTime 126 = .ok (.imul, 1) := by decide +kernel
theorem dX11_isTime_127 : decode cX11_isTime 127 = .ok (.iconst 4, 1) := by decide +kernel
theorem dX11_isTime_128 : decode cX11_isTime 128 = .ok (.iadd, 1) := by decide +kernel
theorem dX11_isTime_129 : decode cX11_isTime 129 = .ok (.iload 7, 2) := by decide +kernel
theorem dX11_isTime_131 : decode cX11_isTime 131 = .ok (.iadd, 1) := by decide +kernel
theorem dX11_isTime_132 : decode cX11_isTime 132 = .ok (.iaload, 1) := by decide +kernel
theorem dX11_isTime_133 : decode cX11_isTime 133 = .ok (.iload 8, 2) := by decide +kernel
theorem dX11_isTime_135 : decode cX11_isTime 135 = .ok (.irem, 1) := by decide +kernel
theorem dX11_isTime_136 : decode cX11_isTime 136 = .ok (.if_icmp .eq 5, 3) := by decide +kernel
theorem dX11_isTime_139 : decode cX11_isTime 139 = .ok (.iconst 0, 1) := by decide +kernel
theorem dX11_isTime_140 : decode cX11_isTime 140 = .ok (.ireturn, 1) := by decide +kernel
theorem dX11_isTime_141 : decode cX11_isTime 141 = .ok (.iinc 6 1, 3) := by decide +kernel
theorem dX11_isTime_144 : decode cX11_isTime 144 = .ok (.goto (-141), 3) := by decide +kernel
theorem dX11_isTime_147 : decode cX11_isTime 147 = .ok (.iconst 1, 1) := by decide +kernel
theorem dX11_isTime_148 : decode cX11_isTime 148 = .ok (.ireturn, 1) := by decide +kernel
theorem dX11_alikeOf_0 : decode cX11_alikeOf 0 = .ok (.aload_n 0, 1) := by decide +kernel
theorem dX11_alikeOf_1 : decode cX11_alikeOf 1 = .ok (.aload_n 0, 1) := by decide +kernel
theorem dX11_alikeOf_2 : decode cX11_alikeOf 2 = .ok (.getfield 53, 3) := by decide +kernel
theorem dX11_alikeOf_5 : decode cX11_alikeOf 5 = .ok (.bipush 12, 2) := by decide +kernel
theorem dX11_alikeOf_7 : decode cX11_alikeOf 7 = .ok (.iload_n 2, 1) := by decide +kernel
theorem dX11_alikeOf_8 : decode cX11_alikeOf 8 = .ok (.imul, 1) := by decide +kernel
theorem dX11_alikeOf_9 : decode cX11_alikeOf 9 = .ok (.invokevirtual 275, 3) := by decide +kernel
theorem dX11_alikeOf_12 : decode cX11_alikeOf 12 = .ok (.istore_n 3, 1) := by decide +kernel
theorem dX11_alikeOf_13 : decode cX11_alikeOf 13 = .ok (.iload_n 3, 1) := by decide +kernel
theorem dX11_alikeOf_14 : decode cX11_alikeOf 14 = .ok (.sipush 5040, 3) := by decide +kernel
theorem dX11_alikeOf_17 : decode cX11_alikeOf 17 = .ok (.if_icmp .le 6, 3) := by decide +kernel
theorem dX11_alikeOf_20 : decode cX11_alikeOf 20 = .ok (.bipush (-2), 2) := by decide +kernel
theorem dX11_alikeOf_22 : decode cX11_alikeOf 22 = .ok (.ireturn, 1) := by decide +kernel
theorem dX11_alikeOf_23 : decode cX11_alikeOf 23 = .ok (.iconst 0, 1) := by decide +kernel
theorem dX11_alikeOf_24 : decode cX11_alikeOf 24 = .ok (.istore 4, 2) := by decide +kernel
theorem dX11_alikeOf_26 : decode cX11_alikeOf 26 = .ok (.iload 4, 2) := by decide +kernel
theorem dX11_alikeOf_28 : decode cX11_alikeOf 28 = .ok (.bipush 8, 2) := by decide +kernel
theorem dX11_alikeOf_30 : decode cX11_alikeOf 30 = .ok (.if_icmp .ge 61, 3) := by decide +kernel
theorem dX11_alikeOf_33 : decode cX11_alikeOf 33 = .ok (.aload_n 0, 1) := by decide +kernel
theorem dX11_alikeOf_34 : decode cX11_alikeOf 34 = .ok (.iload_n 1, 1) := by decide +kernel
theorem dX11_alikeOf_35 : decode cX11_alikeOf 35 = .ok (.iload_n 2, 1) := by decide +kernel
theorem dX11_alikeOf_36 : decode cX11_alikeOf 36 = .ok (.iload 4, 2) := by decide +kernel
theorem dX11_alikeOf_38 : decode cX11_alikeOf 38 = .ok (.invokevirtual 291, 3) := by decide +kernel
theorem dX11_alikeOf_41 : decode cX11_alikeOf 41 = .ok (.ifCond .ne 6, 3) := by decide +kernel
theorem dX11_alikeOf_44 : decode cX11_alikeOf 44 = .ok (.goto 41, 3) := by decide +kernel
theorem dX11_alikeOf_47 : decode cX11_alikeOf 47 = .ok (.iconst 0, 1) := by decide +kernel
theorem dX11_alikeOf_48 : decode cX11_alikeOf 48 = .ok (.istore 5, 2) := by decide +kernel
theorem dX11_alikeOf_50 : decode cX11_alikeOf 50 = .ok (.iload 5, 2) := by decide +kernel
theorem dX11_alikeOf_52 : decode cX11_alikeOf 52 = .ok (.iconst 4, 1) := by decide +kernel
theorem dX11_alikeOf_53 : decode cX11_alikeOf 53 = .ok (.iload_n 3, 1) := by decide +kernel
theorem dX11_alikeOf_54 : decode cX11_alikeOf 54 = .ok (.imul, 1) := by decide +kernel
theorem dX11_alikeOf_55 : decode cX11_alikeOf 55 = .ok (.if_icmp .ge 30, 3) := by decide +kernel
theorem dX11_alikeOf_58 : decode cX11_alikeOf 58 = .ok (.aload_n 0, 1) := by decide +kernel
theorem dX11_alikeOf_59 : decode cX11_alikeOf 59 = .ok (.iload_n 1, 1) := by decide +kernel
theorem dX11_alikeOf_60 : decode cX11_alikeOf 60 = .ok (.iload_n 2, 1) := by decide +kernel
theorem dX11_alikeOf_61 : decode cX11_alikeOf 61 = .ok (.iload 4, 2) := by decide +kernel
theorem dX11_alikeOf_63 : decode cX11_alikeOf 63 = .ok (.iload 5, 2) := by decide +kernel
theorem dX11_alikeOf_65 : decode cX11_alikeOf 65 = .ok (.iconst 4, 1) := by decide +kernel
theorem dX11_alikeOf_66 : decode cX11_alikeOf 66 = .ok (.idiv, 1) := by decide +kernel
theorem dX11_alikeOf_67 : decode cX11_alikeOf 67 = .ok (.iload 5, 2) := by decide +kernel
theorem dX11_alikeOf_69 : decode cX11_alikeOf 69 = .ok (.iconst 4, 1) := by decide +kernel
theorem dX11_alikeOf_70 : decode cX11_alikeOf 70 = .ok (.irem, 1) := by decide +kernel
theorem dX11_alikeOf_71 : decode cX11_alikeOf 71 = .ok (.invokevirtual 294, 3) := by decide +kernel
theorem dX11_alikeOf_74 : decode cX11_alikeOf 74 = .ok (.ifCond .eq 5, 3) := by decide +kernel
theorem dX11_alikeOf_77 : decode cX11_alikeOf 77 = .ok (.iconst 1, 1) := by decide +kernel
theorem dX11_alikeOf_78 : decode cX11_alikeOf 78 = .ok (.ireturn, 1) := by decide +kernel
theorem dX11_alikeOf_79 : decode cX11_alikeOf 79 = .ok (.iinc 5 1, 3) := by decide +kernel
theorem dX11_alikeOf_82 : decode cX11_alikeOf 82 = .ok (.goto (-32), 3) := by decide +kernel
theorem dX11_alikeOf_85 : decode cX11_alikeOf 85 = .ok (.iinc 4 1, 3) := by decide +kernel
theorem dX11_alikeOf_88 : decode cX11_alikeOf 88 = .ok (.goto (-62), 3) := by decide +kernel
theorem dX11_alikeOf_91 : decode cX11_alikeOf 91 = .ok (.iconst 0, 1) := by decide +kernel
theorem dX11_alikeOf_92 : decode cX11_alikeOf 92 = .ok (.ireturn, 1) := by decide +kernel
theorem dX11_alike_0 : decode cX11_alike 0 = .ok (.aload_n 0, 1) := by decide +kernel
theorem dX11_alike_1 : decode cX11_alike 1 = .ok (.iconst 0, 1) := by decide +kernel
theorem dX11_alike_2 : decode cX11_alike 2 = .ok (.putfield 113, 3) := by decide +kernel
theorem dX11_alike_5 : decode cX11_alike 5 = .ok (.aload_n 0, 1) := by decide +kernel
theorem dX11_alike_6 : decode cX11_alike 6 = .ok (.iload_n 1, 1) := by decide +kernel
theorem dX11_alike_7 : decode cX11_alike 7 = .ok (.invokevirtual 282, 3) := by decide +kernel
theorem dX11_alike_10 : decode cX11_alike 10 = .ok (.ifCond .eq 20, 3) := by decide +kernel
theorem dX11_alike_13 : decode cX11_alike 13 = .ok (.aload_n 0, 1) := by decide +kernel
theorem dX11_alike_14 : decode cX11_alike 14 = .ok (.iload_n 2, 1) := by decide +kernel
theorem dX11_alike_15 : decode cX11_alike 15 = .ok (.invokevirtual 282, 3) := by decide +kernel
theorem dX11_alike_18 : decode cX11_alike 18 = .ok (.ifCond .eq 12, 3) := by decide +kernel
theorem dX11_alike_21 : decode cX11_alike 21 = .ok (.aload_n 0, 1) := by decide +kernel
theorem dX11_alike_22 : decode cX11_alike 22 = .ok (.iload_n 1, 1) := by decide +kernel
theorem dX11_alike_23 : decode cX11_alike 23 = .ok (.iload_n 2, 1) := by decide +kernel
theorem dX11_alike_24 : decode cX11_alike 24 = .ok (.invokevirtual 298, 3) := by decide +kernel
theorem dX11_alike_27 : decode cX11_alike 27 = .ok (.goto 4, 3) := by decide +kernel
theorem dX11_alike_30 : decode cX11_alike 30 = .ok (.iconst 0, 1) := by decide +kernel
theorem dX11_alike_31 : decode cX11_alike 31 = .ok (.ireturn, 1) := by decide +kernel
theorem dX11_kinds_0 : decode cX11_kinds 0 = .ok (.aload_n 0, 1) := by decide +kernel
theorem dX11_kinds_1 : decode cX11_kinds 1 = .ok (.iconst 0, 1) := by decide +kernel
theorem dX11_kinds_2 : decode cX11_kinds 2 = .ok (.putfield 113, 3) := by decide +kernel
theorem dX11_kinds_5 : decode cX11_kinds 5 = .ok (.iload_n 1, 1) := by decide +kernel
theorem dX11_kinds_6 : decode cX11_kinds 6 = .ok (.iconst (-1), 1) := by decide +kernel
theorem dX11_kinds_7 : decode cX11_kinds 7 = .ok (.if_icmp .eq 13, 3) := by decide +kernel
theorem dX11_kinds_10 : decode cX11_kinds 10 = .ok (.aload_n 0, 1) := by decide +kernel
theorem dX11_kinds_11 : decode cX11_kinds 11 = .ok (.iload_n 1, 1) := by decide +kernel
theorem dX11_kinds_12 : decode cX11_kinds 12 = .ok (.invokevirtual 282, 3) := by decide +kernel
theorem dX11_kinds_15 : decode cX11_kinds 15 = .ok (.ifCond .ne 5, 3) := by decide +kernel
theorem dX11_kinds_18 : decode cX11_kinds 18 = .ok (.iconst 0, 1) := by decide +kernel
theorem dX11_kinds_19 : decode cX11_kinds 19 = .ok (.ireturn, 1) := by decide +kernel
theorem dX11_kinds_20 : decode cX11_kinds 20 = .ok (.iconst 0, 1) := by decide +kernel
theorem dX11_kinds_21 : decode cX11_kinds 21 = .ok (.istore_n 2, 1) := by decide +kernel
theorem dX11_kinds_22 : decode cX11_kinds 22 = .ok (.iconst 0, 1) := by decide +kernel
theorem dX11_kinds_23 : decode cX11_kinds 23 = .ok (.istore_n 3, 1) := by decide +kernel
theorem dX11_kinds_24 : decode cX11_kinds 24 = .ok (.iload_n 3, 1) := by decide +kernel
theorem dX11_kinds_25 : decode cX11_kinds 25 = .ok (.aload_n 0, 1) := by decide +kernel
theorem dX11_kinds_26 : decode cX11_kinds 26 = .ok (.getfield 226, 3) := by decide +kernel
theorem dX11_kinds_29 : decode cX11_kinds 29 = .ok (.if_icmp .ge 83, 3) := by decide +kernel
theorem dX11_kinds_32 : decode cX11_kinds 32 = .ok (.aload_n 0, 1) := by decide +kernel
theorem dX11_kinds_33 : decode cX11_kinds 33 = .ok (.getfield 56, 3) := by decide +kernel
theorem dX11_kinds_36 : decode cX11_kinds 36 = .ok (.iload_n 3, 1) := by decide +kernel
theorem dX11_kinds_37 : decode cX11_kinds 37 = .ok (.iload_n 3, 1) := by decide +kernel
theorem dX11_kinds_38 : decode cX11_kinds 38 = .ok (.iastore, 1) := by decide +kernel
theorem dX11_kinds_39 : decode cX11_kinds 39 = .ok (.iconst 0, 1) := by decide +kernel
theorem dX11_kinds_40 : decode cX11_kinds 40 = .ok (.istore 4, 2) := by decide +kernel
theorem dX11_kinds_42 : decode cX11_kinds 42 = .ok (.iload 4, 2) := by decide +kernel
theorem dX11_kinds_44 : decode cX11_kinds 44 = .ok (.iload_n 3, 1) := by decide +kernel
theorem dX11_kinds_45 : decode cX11_kinds 45 = .ok (.if_icmp .ge 43, 3) := by decide +kernel
theorem dX11_kinds_48 : decode cX11_kinds 48 = .ok (.aload_n 0, 1) := by decide +kernel
theorem dX11_kinds_49 : decode cX11_kinds 49 = .ok (.getfield 56, 3) := by decide +kernel
theorem dX11_kinds_52 : decode cX11_kinds 52 = .ok (.iload_n 3, 1) := by decide +kernel
theorem dX11_kinds_53 : decode cX11_kinds 53 = .ok (.iaload, 1) := by decide +kernel
theorem dX11_kinds_54 : decode cX11_kinds 54 = .ok (.iload_n 3, 1) := by decide +kernel
theorem dX11_kinds_55 : decode cX11_kinds 55 = .ok (.if_icmp .ne 33, 3) := by decide +kernel
theorem dX11_kinds_58 : decode cX11_kinds 58 = .ok (.aload_n 0, 1) := by decide +kernel
theorem dX11_kinds_59 : decode cX11_kinds 59 = .ok (.iload 4, 2) := by decide +kernel
theorem dX11_kinds_61 : decode cX11_kinds 61 = .ok (.iload_n 3, 1) := by decide +kernel
theorem dX11_kinds_62 : decode cX11_kinds 62 = .ok (.invokevirtual 298, 3) := by decide +kernel
theorem dX11_kinds_65 : decode cX11_kinds 65 = .ok (.iconst 1, 1) := by decide +kernel
theorem dX11_kinds_66 : decode cX11_kinds 66 = .ok (.if_icmp .ne 16, 3) := by decide +kernel
theorem dX11_kinds_69 : decode cX11_kinds 69 = .ok (.aload_n 0, 1) := by decide +kernel
theorem dX11_kinds_70 : decode cX11_kinds 70 = .ok (.getfield 56, 3) := by decide +kernel
theorem dX11_kinds_73 : decode cX11_kinds 73 = .ok (.iload_n 3, 1) := by decide +kernel
theorem dX11_kinds_74 : decode cX11_kinds 74 = .ok (.aload_n 0, 1) := by decide +kernel
theorem dX11_kinds_75 : decode cX11_kinds 75 = .ok (.getfield 56, 3) := by decide +kernel
theorem dX11_kinds_78 : decode cX11_kinds 78 = .ok (.iload 4, 2) := by decide +kernel
theorem dX11_kinds_80 : decode cX11_kinds 80 = .ok (.iaload, 1) := by decide +kernel
theorem dX11_kinds_81 : decode cX11_kinds 81 = .ok (.iastore, 1) := by decide +kernel
theorem dX11_kinds_82 : decode cX11_kinds 82 = .ok (.iinc 4 1, 3) := by decide +kernel
theorem dX11_kinds_85 : decode cX11_kinds 85 = .ok (.goto (-43), 3) := by decide +kernel
theorem dX11_kinds_88 : decode cX11_kinds 88 = .ok (.iload_n 2, 1) := by decide +kernel
theorem dX11_kinds_89 : decode cX11_kinds 89 = .ok (.aload_n 0, 1) := by decide +kernel
theorem dX11_kinds_90 : decode cX11_kinds 90 = .ok (.getfield 56, 3) := by decide +kernel
theorem dX11_kinds_93 : decode cX11_kinds 93 = .ok (.iload_n 3, 1) := by decide +kernel
theorem dX11_kinds_94 : decode cX11_kinds 94 = .ok (.iaload, 1) := by decide +kernel
theorem dX11_kinds_95 : decode cX11_kinds 95 = .ok (.iload_n 3, 1) := by decide +kernel
theorem dX11_kinds_96 : decode cX11_kinds 96 = .ok (.if_icmp .ne 7, 3) := by decide +kernel
theorem dX11_kinds_99 : decode cX11_kinds 99 = .ok (.iconst 1, 1) := by decide +kernel
theorem dX11_kinds_100 : decode cX11_kinds 100 = .ok (.goto 4, 3) := by decide +kernel
theorem dX11_kinds_103 : decode cX11_kinds 103 = .ok (.iconst 0, 1) := by decide +kernel
theorem dX11_kinds_104 : decode cX11_kinds 104 = .ok (.iadd, 1) := by decide +kernel
theorem dX11_kinds_105 : decode cX11_kinds 105 = .ok (.istore_n 2, 1) := by decide +kernel
theorem dX11_kinds_106 : decode cX11_kinds 106 = .ok (.iinc 3 1, 3) := by decide +kernel
theorem dX11_kinds_109 : decode cX11_kinds 109 = .ok (.goto (-85), 3) := by decide +kernel
theorem dX11_kinds_112 : decode cX11_kinds 112 = .ok (.iload_n 1, 1) := by decide +kernel
theorem dX11_kinds_113 : decode cX11_kinds 113 = .ok (.iconst (-1), 1) := by decide +kernel
theorem dX11_kinds_114 : decode cX11_kinds 114 = .ok (.if_icmp .ne 7, 3) := by decide +kernel
theorem dX11_kinds_117 : decode cX11_kinds 117 = .ok (.iload_n 2, 1) := by decide +kernel
theorem dX11_kinds_118 : decode cX11_kinds 118 = .ok (.goto 9, 3) := by decide +kernel
theorem dX11_kinds_121 : decode cX11_kinds 121 = .ok (.aload_n 0, 1) := by decide +kernel
theorem dX11_kinds_122 : decode cX11_kinds 122 = .ok (.getfield 56, 3) := by decide +kernel
theorem dX11_kinds_125 : decode cX11_kinds 125 = .ok (.iload_n 1, 1) := by decide +kernel
theorem dX11_kinds_126 : decode cX11_kinds 126 = .ok (.iaload, 1) := by decide +kernel
theorem dX11_kinds_127 : decode cX11_kinds 127 = .ok (.ireturn, 1) := by decide +kernel
theorem dX11_point_0 : decode cX11_point 0 = .ok (.aload_n 0, 1) := by decide +kernel
theorem dX11_point_1 : decode cX11_point 1 = .ok (.iconst 0, 1) := by decide +kernel
theorem dX11_point_2 : decode cX11_point 2 = .ok (.putfield 113, 3) := by decide +kernel
theorem dX11_point_5 : decode cX11_point 5 = .ok (.aload_n 0, 1) := by decide +kernel
theorem dX11_point_6 : decode cX11_point 6 = .ok (.getfield 229, 3) := by decide +kernel
theorem dX11_point_9 : decode cX11_point 9 = .ok (.bipush 6, 2) := by decide +kernel
theorem dX11_point_11 : decode cX11_point 11 = .ok (.if_icmp .eq 40, 3) := by decide +kernel
theorem dX11_point_14 : decode cX11_point 14 = .ok (.iload_n 1, 1) := by decide +kernel
theorem dX11_point_15 : decode cX11_point 15 = .ok (.iconst 0, 1) := by decide +kernel
theorem dX11_point_16 : decode cX11_point 16 = .ok (.sipush 9999, 3) := by decide +kernel
theorem dX11_point_19 : decode cX11_point 19 = .ok (.invokestatic 238, 3) := by decide +kernel
theorem dX11_point_22 : decode cX11_point 22 = .ok (.ifCond .eq 29, 3) := by decide +kernel
theorem dX11_point_25 : decode cX11_point 25 = .ok (.iload_n 2, 1) := by decide +kernel
theorem dX11_point_26 : decode cX11_point 26 = .ok (.sipush (-260), 3) := by decide +kernel
theorem dX11_point_29 : decode cX11_point 29 = .ok (.sipush 260, 3) := by decide +kernel
theorem dX11_point_32 : decode cX11_point 32 = .ok (.invokestatic 238, 3) := by decide +kernel
theorem dX11_point_35 : decode cX11_point 35 = .ok (.ifCond .eq 16, 3) := by decide +kernel
theorem dX11_point_38 : decode cX11_point 38 = .ok (.iload_n 3, 1) := by decide +kernel
theorem dX11_point_39 : decode cX11_point 39 = .ok (.sipush (-260), 3) := by decide +kernel
theorem dX11_point_42 : decode cX11_point 42 = .ok (.sipush 260, 3) := by decide +kernel
theorem dX11_point_45 : decode cX11_point 45 = .ok (.invokestatic 238, 3) := by decide +kernel
theorem dX11_point_48 : decode cX11_point 48 = .ok (.ifCond .ne 9, 3) := by decide +kernel
theorem dX11_point_51 : decode cX11_point 51 = .ok (.aload_n 0, 1) := by decide +kernel
theorem dX11_point_52 : decode cX11_point 52 = .ok (.iconst 3, 1) := by decide +kernel
theorem dX11_point_53 : decode cX11_point 53 = .ok (.invokevirtual 249, 3) := by decide +kernel
theorem dX11_point_56 : decode cX11_point 56 = .ok (.ireturn, 1) := by decide +kernel
theorem dX11_point_57 : decode cX11_point 57 = .ok (.aload_n 0, 1) := by decide +kernel
theorem dX11_point_58 : decode cX11_point 58 = .ok (.getfield 59, 3) := by decide +kernel
theorem dX11_point_61 : decode cX11_point 61 = .ok (.iconst 3, 1) := by decide +kernel
theorem dX11_point_62 : decode cX11_point 62 = .ok (.aload_n 0, 1) := by decide +kernel
theorem dX11_point_63 : decode cX11_point 63 = .ok (.getfield 229, 3) := by decide +kernel
theorem dX11_point_66 : decode cX11_point 66 = .ok (.imul, 1) := by decide +kernel
theorem dX11_point_67 : decode cX11_point 67 = .ok (.iload_n 1, 1) := by decide +kernel
theorem dX11_point_68 : decode cX11_point 68 = .ok (.iastore, 1) := by decide +kernel
theorem dX11_point_69 : decode cX11_point 69 = .ok (.aload_n 0, 1) := by decide +kernel
theorem dX11_point_70 : decode cX11_point 70 = .ok (.getfield 59, 3) := by decide +kernel
theorem dX11_point_73 : decode cX11_point 73 = .ok (.iconst 3, 1) := by decide +kernel
theorem dX11_point_74 : decode cX11_point 74 = .ok (.aload_n 0, 1) := by decide +kernel
theorem dX11_point_75 : decode cX11_point 75 = .ok (.getfield 229, 3) := by decide +kernel
theorem dX11_point_78 : decode cX11_point 78 = .ok (.imul, 1) := by decide +kernel
theorem dX11_point_79 : decode cX11_point 79 = .ok (.iconst 1, 1) := by decide +kernel
theorem dX11_point_80 : decode cX11_point 80 = .ok (.iadd, 1) := by decide +kernel
theorem dX11_point_81 : decode cX11_point 81 = .ok (.iload_n 2, 1) := by decide +kernel
theorem dX11_point_82 : decode cX11_point 82 = .ok (.iastore, 1) := by decide +kernel
theorem dX11_point_83 : decode cX11_point 83 = .ok (.aload_n 0, 1) := by decide +kernel
theorem dX11_point_84 : decode cX11_point 84 = .ok (.getfield 59, 3) := by decide +kernel
theorem dX11_point_87 : decode cX11_point 87 = .ok (.iconst 3, 1) := by decide +kernel
theorem dX11_point_88 : decode cX11_point 88 = .ok (.aload_n 0, 1) := by decide +kernel
theorem dX11_point_89 : decode cX11_point 89 = .ok (.getfield 229, 3) := by decide +kernel
theorem dX11_point_92 : decode cX11_point 92 = .ok (.imul, 1) := by decide +kernel
theorem dX11_point_93 : decode cX11_point 93 = .ok (.iconst 2, 1) := by decide +kernel
theorem dX11_point_94 : decode cX11_point 94 = .ok (.iadd, 1) := by decide +kernel
theorem dX11_point_95 : decode cX11_point 95 = .ok (.iload_n 3, 1) := by decide +kernel
theorem dX11_point_96 : decode cX11_point 96 = .ok (.iastore, 1) := by decide +kernel
theorem dX11_point_97 : decode cX11_point 97 = .ok (.aload_n 0, 1) := by decide +kernel
theorem dX11_point_98 : decode cX11_point 98 = .ok (.dup, 1) := by decide +kernel
theorem dX11_point_99 : decode cX11_point 99 = .ok (.getfield 229, 3) := by decide +kernel
theorem dX11_point_102 : decode cX11_point 102 = .ok (.iconst 1, 1) := by decide +kernel
theorem dX11_point_103 : decode cX11_point 103 = .ok (.iadd, 1) := by decide +kernel
theorem dX11_point_104 : decode cX11_point 104 = .ok (.putfield 229, 3) := by decide +kernel
theorem dX11_point_107 : decode cX11_point 107 = .ok (.aload_n 0, 1) := by decide +kernel
theorem dX11_point_108 : decode cX11_point 108 = .ok (.getfield 229, 3) := by decide +kernel
theorem dX11_point_111 : decode cX11_point 111 = .ok (.ireturn, 1) := by decide +kernel
theorem dX11_unpoint_0 : decode cX11_unpoint 0 = .ok (.aload_n 0, 1) := by decide +kernel
theorem dX11_unpoint_1 : decode cX11_unpoint 1 = .ok (.iconst 0, 1) := by decide +kernel
theorem dX11_unpoint_2 : decode cX11_unpoint 2 = .ok (.putfield 113, 3) := by decide +kernel
theorem dX11_unpoint_5 : decode cX11_unpoint 5 = .ok (.aload_n 0, 1) := by decide +kernel
theorem dX11_unpoint_6 : decode cX11_unpoint 6 = .ok (.getfield 229, 3) := by decide +kernel
theorem dX11_unpoint_9 : decode cX11_unpoint 9 = .ok (.ifCond .ne 5, 3) := by decide +kernel
theorem dX11_unpoint_12 : decode cX11_unpoint 12 = .ok (.iconst (-1), 1) := by decide +kernel
theorem dX11_unpoint_13 : decode cX11_unpoint 13 = .ok (.ireturn, 1) := by decide +kernel
theorem dX11_unpoint_14 : decode cX11_unpoint 14 = .ok (.aload_n 0, 1) := by decide +kernel
theorem dX11_unpoint_15 : decode cX11_unpoint 15 = .ok (.dup, 1) := by decide +kernel
theorem dX11_unpoint_16 : decode cX11_unpoint 16 = .ok (.getfield 229, 3) := by decide +kernel
theorem dX11_unpoint_19 : decode cX11_unpoint 19 = .ok (.iconst 1, 1) := by decide +kernel
theorem dX11_unpoint_20 : decode cX11_unpoint 20 = .ok (.isub, 1) := by decide +kernel
theorem dX11_unpoint_21 : decode cX11_unpoint 21 = .ok (.putfield 229, 3) := by decide +kernel
theorem dX11_unpoint_24 : decode cX11_unpoint 24 = .ok (.aload_n 0, 1) := by decide +kernel
theorem dX11_unpoint_25 : decode cX11_unpoint 25 = .ok (.getfield 229, 3) := by decide +kernel
theorem dX11_unpoint_28 : decode cX11_unpoint 28 = .ok (.ireturn, 1) := by decide +kernel
theorem dX11_offOf_0 : decode cX11_offOf 0 = .ok (.iconst 0, 1) := by decide +kernel
theorem dX11_offOf_1 : decode cX11_offOf 1 = .ok (.istore_n 2, 1) := by decide +kernel
theorem dX11_offOf_2 : decode cX11_offOf 2 = .ok (.iconst 0, 1) := by decide +kernel
theorem dX11_offOf_3 : decode cX11_offOf 3 = .ok (.istore_n 3, 1) := by decide +kernel
theorem dX11_offOf_4 : decode cX11_offOf 4 = .ok (.iload_n 3, 1) := by decide +kernel
theorem dX11_offOf_5 : decode cX11_offOf 5 = .ok (.iconst 2, 1) := by decide +kernel
theorem dX11_offOf_6 : decode cX11_offOf 6 = .ok (.if_icmp .ge 110, 3) := by decide +kernel
theorem dX11_offOf_9 : decode cX11_offOf 9 = .ok (.aload_n 0, 1) := by decide +kernel
theorem dX11_offOf_10 : decode cX11_offOf 10 = .ok (.aload_n 0, 1) := by decide +kernel
theorem dX11_offOf_11 : decode cX11_offOf 11 = .ok (.getfield 62, 3) := by decide +kernel
theorem dX11_offOf_14 : decode cX11_offOf 14 = .ok (.iconst 0, 1) := by decide +kernel
theorem dX11_offOf_15 : decode cX11_offOf 15 = .ok (.aload_n 0, 1) := by decide +kernel
theorem dX11_offOf_16 : decode cX11_offOf 16 = .ok (.getfield 59, 3) := by decide +kernel
theorem dX11_offOf_19 : decode cX11_offOf 19 = .ok (.iconst 3, 1) := by decide +kernel
theorem dX11_offOf_20 : decode cX11_offOf 20 = .ok (.iload_n 1, 1) := by decide +kernel
theorem dX11_offOf_21 : decode cX11_offOf 21 = .ok (.imul, 1) := by decide +kernel
theorem dX11_offOf_22 : decode cX11_offOf 22 = .ok (.iaload, 1) := by decide +kernel
theorem dX11_offOf_23 : decode cX11_offOf 23 = .ok (.iload_n 3, 1) := by decide +kernel
theorem dX11_offOf_24 : decode cX11_offOf 24 = .ok (.invokevirtual 256, 3) := by decide +kernel
theorem dX11_offOf_27 : decode cX11_offOf 27 = .ok (.istore 4, 2) := by decide +kernel
theorem dX11_offOf_29 : decode cX11_offOf 29 = .ok (.iconst 0, 1) := by decide +kernel
theorem dX11_offOf_30 : decode cX11_offOf 30 = .ok (.istore 5, 2) := by decide +kernel
theorem dX11_offOf_32 : decode cX11_offOf 32 = .ok (.iload 5, 2) := by decide +kernel
theorem dX11_offOf_34 : decode cX11_offOf 34 = .ok (.aload_n 0, 1) := by decide +kernel
theorem dX11_offOf_35 : decode cX11_offOf 35 = .ok (.getfield 219, 3) := by decide +kernel
theorem dX11_offOf_38 : decode cX11_offOf 38 = .ok (.if_icmp .ge 51, 3) := by decide +kernel
theorem dX11_offOf_41 : decode cX11_offOf 41 = .ok (.iload 4, 2) := by decide +kernel
theorem dX11_offOf_43 : decode cX11_offOf 43 = .ok (.aload_n 0, 1) := by decide +kernel
theorem dX11_offOf_44 : decode cX11_offOf 44 = .ok (.getfield 22, 3) := by decide +kernel
theorem dX11_offOf_47 : decode cX11_offOf 47 = .ok (.iconst 3, 1) := by decide +kernel
theorem dX11_offOf_48 : decode cX11_offOf 48 = .ok (.iload 5, 2) := by decide +kernel
theorem dX11_offOf_50 : decode cX11_offOf 50 = .ok (.imul, 1) := by decide +kernel
theorem dX11_offOf_51 : decode cX11_offOf 51 = .ok (.iaload, 1) := by decide +kernel
theorem dX11_offOf_52 : decode cX11_offOf 52 = .ok (.aload_n 0, 1) := by decide +kernel
theorem dX11_offOf_53 : decode cX11_offOf 53 = .ok (.getfield 59, 3) := by decide +kernel
theorem dX11_offOf_56 : decode cX11_offOf 56 = .ok (.iconst 3, 1) := by decide +kernel
theorem dX11_offOf_57 : decode cX11_offOf 57 = .ok (.iload_n 1, 1) := by decide +kernel
theorem dX11_offOf_58 : decode cX11_offOf 58 = .ok (.imul, 1) := by decide +kernel
theorem dX11_offOf_59 : decode cX11_offOf 59 = .ok (.iaload, 1) := by decide +kernel
theorem dX11_offOf_60 : decode cX11_offOf 60 = .ok (.if_icmp .gt 19, 3) := by decide +kernel
theorem dX11_offOf_63 : decode cX11_offOf 63 = .ok (.aload_n 0, 1) := by decide +kernel
theorem dX11_offOf_64 : decode cX11_offOf 64 = .ok (.getfield 22, 3) := by decide +kernel
theorem dX11_offOf_67 : decode cX11_offOf 67 = .ok (.iconst 3, 1) := by decide +kernel
theorem dX11_offOf_68 : decode cX11_offOf 68 = .ok (.iload 5, 2) := by decide +kernel
theorem dX11_offOf_70 : decode cX11_offOf 70 = .ok (.imul, 1) := by decide +kernel
theorem dX11_offOf_71 : decode cX11_offOf 71 = .ok (.iconst 1, 1) := by decide +kernel
theorem dX11_offOf_72 : decode cX11_offOf 72 = .ok (.iadd, 1) := by decide +kernel
theorem dX11_offOf_73 : decode cX11_offOf 73 = .ok (.iload_n 3, 1) := by decide +kernel
theorem dX11_offOf_74 : decode cX11_offOf 74 = .ok (.iadd, 1) := by decide +kernel
theorem dX11_offOf_75 : decode cX11_offOf 75 = .ok (.iaload, 1) := by decide +kernel
theorem dX11_offOf_76 : decode cX11_offOf 76 = .ok (.goto 4, 3) := by decide +kernel
theorem dX11_offOf_79 : decode cX11_offOf 79 = .ok (.iconst 0, 1) := by decide +kernel
theorem dX11_offOf_80 : decode cX11_offOf 80 = .ok (.iadd, 1) := by decide +kernel
theorem dX11_offOf_81 : decode cX11_offOf 81 = .ok (.istore 4, 2) := by decide +kernel
theorem dX11_offOf_83 : decode cX11_offOf 83 = .ok (.iinc 5 1, 3) := by decide +kernel
theorem dX11_offOf_86 : decode cX11_offOf 86 = .ok (.goto (-54), 3) := by decide +kernel
theorem dX11_offOf_89 : decode cX11_offOf 89 = .ok (.iload_n 2, 1) := by decide +kernel
theorem dX11_offOf_90 : decode cX11_offOf 90 = .ok (.iload 4, 2) := by decide +kernel
theorem dX11_offOf_92 : decode cX11_offOf 92 = .ok (.aload_n 0, 1) := by decide +kernel
theorem dX11_offOf_93 : decode cX11_offOf 93 = .ok (.getfield 59, 3) := by decide +kernel
theorem dX11_offOf_96 : decode cX11_offOf 96 = .ok (.iconst 3, 1) := by decide +kernel
theorem dX11_offOf_97 : decode cX11_offOf 97 = .ok (.iload_n 1, 1) := by decide +kernel
theorem dX11_offOf_98 : decode cX11_offOf 98 = .ok (.imul, 1) := by decide +kernel
theorem dX11_offOf_99 : decode cX11_offOf 99 = .ok (.iconst 1, 1) := by decide +kernel
theorem dX11_offOf_100 : decode cX11_offOf 100 = .ok (.iadd, 1) := by decide +kernel
theorem dX11_offOf_101 : decode cX11_offOf 101 = .ok (.iload_n 3, 1) := by decide +kernel
theorem dX11_offOf_102 : decode cX11_offOf 102 = .ok (.iadd, 1) := by decide +kernel
theorem dX11_offOf_103 : decode cX11_offOf 103 = .ok (.iaload, 1) := by decide +kernel
theorem dX11_offOf_104 : decode cX11_offOf 104 = .ok (.isub, 1) := by decide +kernel
theorem dX11_offOf_105 : decode cX11_offOf 105 = .ok (.invokestatic 279, 3) := by decide +kernel
theorem dX11_offOf_108 : decode cX11_offOf 108 = .ok (.iadd, 1) := by decide +kernel
theorem dX11_offOf_109 : decode cX11_offOf 109 = .ok (.istore_n 2, 1) := by decide +kernel
theorem dX11_offOf_110 : decode cX11_offOf 110 = .ok (.iinc 3 1, 3) := by decide +kernel
theorem dX11_offOf_113 : decode cX11_offOf 113 = .ok (.goto (-109), 3) := by decide +kernel
theorem dX11_offOf_116 : decode cX11_offOf 116 = .ok (.iload_n 2, 1) := by decide +kernel
theorem dX11_offOf_117 : decode cX11_offOf 117 = .ok (.ireturn, 1) := by decide +kernel
theorem dX11_fits_0 : decode cX11_fits 0 = .ok (.aload_n 0, 1) := by decide +kernel
theorem dX11_fits_1 : decode cX11_fits 1 = .ok (.iconst 0, 1) := by decide +kernel
theorem dX11_fits_2 : decode cX11_fits 2 = .ok (.putfield 113, 3) := by decide +kernel
theorem dX11_fits_5 : decode cX11_fits 5 = .ok (.aload_n 0, 1) := by decide +kernel
theorem dX11_fits_6 : decode cX11_fits 6 = .ok (.iload_n 3, 1) := by decide +kernel
theorem dX11_fits_7 : decode cX11_fits 7 = .ok (.iconst 0, 1) := by decide +kernel
theorem dX11_fits_8 : decode cX11_fits 8 = .ok (.iconst 3, 1) := by decide +kernel
theorem dX11_fits_9 : decode cX11_fits 9 = .ok (.invokestatic 238, 3) := by decide +kernel
theorem dX11_fits_12 : decode cX11_fits 12 = .ok (.iconst 1, 1) := by decide +kernel
theorem dX11_fits_13 : decode cX11_fits 13 = .ok (.invokevirtual 209, 3) := by decide +kernel
theorem dX11_fits_16 : decode cX11_fits 16 = .ok (.ifCond .eq 35, 3) := by decide +kernel
theorem dX11_fits_19 : decode cX11_fits 19 = .ok (.aload_n 0, 1) := by decide +kernel
theorem dX11_fits_20 : decode cX11_fits 20 = .ok (.iload_n 1, 1) := by decide +kernel
theorem dX11_fits_21 : decode cX11_fits 21 = .ok (.iconst 0, 1) := by decide +kernel
theorem dX11_fits_22 : decode cX11_fits 22 = .ok (.iconst 5, 1) := by decide +kernel
theorem dX11_fits_23 : decode cX11_fits 23 = .ok (.invokestatic 238, 3) := by decide +kernel
theorem dX11_fits_26 : decode cX11_fits 26 = .ok (.ifCond .eq 17, 3) := by decide +kernel
theorem dX11_fits_29 : decode cX11_fits 29 = .ok (.iload_n 2, 1) := by decide +kernel
theorem dX11_fits_30 : decode cX11_fits 30 = .ok (.iconst 0, 1) := by decide +kernel
theorem dX11_fits_31 : decode cX11_fits 31 = .ok (.bipush 99, 2) := by decide +kernel
theorem dX11_fits_33 : decode cX11_fits 33 = .ok (.invokestatic 238, 3) := by decide +kernel
theorem dX11_fits_36 : decode cX11_fits 36 = .ok (.ifCond .eq 7, 3) := by decide +kernel
theorem dX11_fits_39 : decode cX11_fits 39 = .ok (.iconst 1, 1) := by decide +kernel
theorem dX11_fits_40 : decode cX11_fits 40 = .ok (.goto 4, 3) := by decide +kernel
theorem dX11_fits_43 : decode cX11_fits 43 = .ok (.iconst 0, 1) := by decide +kernel
theorem dX11_fits_44 : decode cX11_fits 44 = .ok (.iconst 2, 1) := by decide +kernel
theorem dX11_fits_45 : decode cX11_fits 45 = .ok (.invokevirtual 209, 3) := by decide +kernel
theorem dX11_fits_48 : decode cX11_fits 48 = .ok (.ifCond .ne 5, 3) := by decide +kernel
theorem dX11_fits_51 : decode cX11_fits 51 = .ok (.iconst 0, 1) := by decide +kernel
theorem dX11_fits_52 : decode cX11_fits 52 = .ok (.ireturn, 1) := by decide +kernel
theorem dX11_fits_53 : decode cX11_fits 53 = .ok (.aload_n 0, 1) := by decide +kernel
theorem dX11_fits_54 : decode cX11_fits 54 = .ok (.aload_n 0, 1) := by decide +kernel
theorem dX11_fits_55 : decode cX11_fits 55 = .ok (.getfield 19, 3) := by decide +kernel
theorem dX11_fits_58 : decode cX11_fits 58 = .ok (.aload_n 0, 1) := by decide +kernel
theorem dX11_fits_59 : decode cX11_fits 59 = .ok (.getfield 62, 3) := by decide +kernel
theorem dX11_fits_62 : decode cX11_fits 62 = .ok (.invokevirtual 222, 3) := by decide +kernel
theorem dX11_fits_65 : decode cX11_fits 65 = .ok (.iconst 0, 1) := by decide +kernel
theorem dX11_fits_66 : decode cX11_fits 66 = .ok (.istore 4, 2) := by decide +kernel
theorem dX11_fits_68 : decode cX11_fits 68 = .ok (.iconst (-1), 1) := by decide +kernel
theorem dX11_fits_69 : decode cX11_fits 69 = .ok (.istore 5, 2) := by decide +kernel
theorem dX11_fits_71 : decode cX11_fits 71 = .ok (.iconst (-1), 1) := by decide +kernel
theorem dX11_fits_72 : decode cX11_fits 72 = .ok (.istore 6, 2) := by decide +kernel
theorem dX11_fits_74 : decode cX11_fits 74 = .ok (.iconst 0, 1) := by decide +kernel
theorem dX11_fits_75 : decode cX11_fits 75 = .ok (.istore 7, 2) := by decide +kernel
theorem dX11_fits_77 : decode cX11_fits 77 = .ok (.iconst 0, 1) := by decide +kernel
theorem dX11_fits_78 : decode cX11_fits 78 = .ok (.istore 8, 2) := by decide +kernel
theorem dX11_fits_80 : decode cX11_fits 80 = .ok (.iload 8, 2) := by decide +kernel
theorem dX11_fits_82 : decode cX11_fits 82 = .ok (.sipush 10000, 3) := by decide +kernel
theorem dX11_fits_85 : decode cX11_fits 85 = .ok (.if_icmp .ge 188, 3) := by decide +kernel
theorem dX11_fits_88 : decode cX11_fits 88 = .ok (.iload 8, 2) := by decide +kernel
theorem dX11_fits_90 : decode cX11_fits 90 = .ok (.istore 9, 2) := by decide +kernel
theorem dX11_fits_92 : decode cX11_fits 92 = .ok (.iconst 1, 1) := by decide +kernel
theorem dX11_fits_93 : decode cX11_fits 93 = .ok (.istore 10, 2) := by decide +kernel
theorem dX11_fits_95 : decode cX11_fits 95 = .ok (.iconst 3, 1) := by decide +kernel
theorem dX11_fits_96 : decode cX11_fits 96 = .ok (.istore 11, 2) := by decide +kernel
theorem dX11_fits_98 : decode cX11_fits 98 = .ok (.iload 11, 2) := by decide +kernel
theorem dX11_fits_100 : decode cX11_fits 100 = .ok (.ifCond .lt 51, 3) := by decide +kernel
theorem dX11_fits_103 : decode cX11_fits 103 = .ok (.aload_n 0, 1) := by decide +kernel
theorem dX11_fits_104 : decode cX11_fits 104 = .ok (.getfield 62, 3) := by decide +kernel
theorem dX11_fits_107 : decode cX11_fits 107 = .ok (.iload 11, 2) := by decide +kernel
theorem dX11_fits_109 : decode cX11_fits 109 = .ok (.iload 9, 2) := by decide +kernel
theorem dX11_fits_111 : decode cX11_fits 111 = .ok (.bipush 10, 2) := by decide +kernel
theorem dX11_fits_113 : decode cX11_fits 113 = .ok (.irem, 1) := by decide +kernel
theorem dX11_fits_114 : decode cX11_fits 114 = .ok (.iastore, 1) := by decide +kernel
theorem dX11_fits_115 : decode cX11_fits 115 = .ok (.iload 10, 2) := by decide +kernel
theorem dX11_fits_117 : decode cX11_fits 117 = .ok (.ifCond .eq 18, 3) := by decide +kernel
theorem dX11_fits_120 : decode cX11_fits 120 = .ok (.aload_n 0, 1) := by decide +kernel
theorem dX11_fits_121 : decode cX11_fits 121 = .ok (.getfield 62, 3) := by decide +kernel
theorem dX11_fits_124 : decode cX11_fits 124 = .ok (.iload 11, 2) := by decide +kernel
theorem dX11_fits_126 : decode cX11_fits 126 = .ok (.iaload, 1) := by decide +kernel
theorem dX11_fits_127 : decode cX11_fits 127 = .ok (.iload_n 1, 1) := by decide +kernel
theorem dX11_fits_128 : decode cX11_fits 128 = .ok (.if_icmp .gt 7, 3) := by decide +kernel
theorem dX11_fits_131 : decode cX11_fits 131 = .ok (.iconst 1, 1) := by decide +kernel
theorem dX11_fits_132 : decode cX11_fits 132 = .ok (.goto 4, 3) := by decide +kernel
theorem dX11_fits_135 : decode cX11_fits 135 = .ok (.iconst 0, 1) := by decide +kernel
theorem dX11_fits_136 : decode cX11_fits 136 = .ok (.istore 10, 2) := by decide +kernel
theorem dX11_fits_138 : decode cX11_fits 138 = .ok (.iload 9, 2) := by decide +kernel
theorem dX11_fits_140 : decode cX11_fits 140 = .ok (.bipush 10, 2) := by decide +kernel
theorem dX11_fits_142 : decode cX11_fits 142 = .ok (.idiv, 1) := by decide +kernel
theorem dX11_fits_143 : decode cX11_fits 143 = .ok (.istore 9, 2) := by decide +kernel
theorem dX11_fits_145 : decode cX11_fits 145 = .ok (.iinc 11 (-1), 3) := by decide +kernel
theorem dX11_fits_148 : decode cX11_fits 148 = .ok (.goto (-50), 3) := by decide +kernel
theorem dX11_fits_151 : decode cX11_fits 151 = .ok (.iload 10, 2) := by decide +kernel
theorem dX11_fits_153 : decode cX11_fits 153 = .ok (.ifCond .ne 6, 3) := by decide +kernel
theorem dX11_fits_156 : decode cX11_fits 156 = .ok (.goto 111, 3) := by decide +kernel
theorem dX11_fits_159 : decode cX11_fits 159 = .ok (.iconst 0, 1) := by decide +kernel
theorem dX11_fits_160 : decode cX11_fits 160 = .ok (.istore 11, 2) := by decide +kernel
theorem dX11_fits_162 : decode cX11_fits 162 = .ok (.iconst 0, 1) := by decide +kernel
theorem dX11_fits_163 : decode cX11_fits 163 = .ok (.istore 12, 2) := by decide +kernel
theorem dX11_fits_165 : decode cX11_fits 165 = .ok (.iload 12, 2) := by decide +kernel
theorem dX11_fits_167 : decode cX11_fits 167 = .ok (.aload_n 0, 1) := by decide +kernel
theorem dX11_fits_168 : decode cX11_fits 168 = .ok (.getfield 229, 3) := by decide +kernel
theorem dX11_fits_171 : decode cX11_fits 171 = .ok (.if_icmp .ge 42, 3) := by decide +kernel
theorem dX11_fits_174 : decode cX11_fits 174 = .ok (.aload_n 0, 1) := by decide +kernel
theorem dX11_fits_175 : decode cX11_fits 175 = .ok (.iload 12, 2) := by decide +kernel
theorem dX11_fits_177 : decode cX11_fits 177 = .ok (.invokevirtual 301, 3) := by decide +kernel
theorem dX11_fits_180 : decode cX11_fits 180 = .ok (.istore 13, 2) := by decide +kernel
theorem dX11_fits_182 : decode cX11_fits 182 = .ok (.iload 11, 2) := by decide +kernel
theorem dX11_fits_184 : decode cX11_fits 184 = .ok (.iload 13, 2) := by decide +kernel
theorem dX11_fits_186 : decode cX11_fits 186 = .ok (.iadd, 1) := by decide +kernel
theorem dX11_fits_187 : decode cX11_fits 187 = .ok (.istore 11, 2) := by decide +kernel
theorem dX11_fits_189 : decode cX11_fits 189 = .ok (.iload 10, 2) := by decide +kernel
theorem dX11_fits_191 : decode cX11_fits 191 = .ok (.ifCond .eq 13, 3) := by decide +kernel
theorem dX11_fits_194 : decode cX11_fits 194 = .ok (.iload 13, 2) := by decide +kernel
theorem dX11_fits_196 : decode cX11_fits 196 = .ok (.iload_n 2, 1) := by decide +kernel
theorem dX11_fits_197 : decode cX11_fits 197 = .ok (.if_icmp .gt 7, 3) := by decide +kernel
theorem dX11_fits_200 : decode cX11_fits 200 = .ok (.iconst 1, 1) := by decide +kernel
theorem dX11_fits_201 : decode cX11_fits 201 = .ok (.goto 4, 3) := by decide +kernel
theorem dX11_fits_204 : decode cX11_fits 204 = .ok (.iconst 0, 1) := by decide +kernel
theorem dX11_fits_205 : decode cX11_fits 205 = .ok (.istore 10, 2) := by decide +kernel
theorem dX11_fits_207 : decode cX11_fits 207 = .ok (.iinc 12 1, 3) := by decide +kernel
theorem dX11_fits_210 : decode cX11_fits 210 = .ok (.goto (-45), 3) := by decide +kernel
theorem dX11_fits_213 : decode cX11_fits 213 = .ok (.iload 10, 2) := by decide +kernel
theorem dX11_fits_215 : decode cX11_fits 215 = .ok (.ifCond .eq 13, 3) := by decide +kernel
theorem dX11_fits_218 : decode cX11_fits 218 = .ok (.iload 5, 2) := by decide +kernel
theorem dX11_fits_220 : decode cX11_fits 220 = .ok (.iconst (-1), 1) := by decide +kernel
theorem dX11_fits_221 : decode cX11_fits 221 = .ok (.if_icmp .ne 7, 3) := by decide +kernel
theorem dX11_fits_224 : decode cX11_fits 224 = .ok (.iload 8, 2) := by decide +kernel
theorem dX11_fits_226 : decode cX11_fits 226 = .ok (.istore 5, 2) := by decide +kernel
theorem dX11_fits_228 : decode cX11_fits 228 = .ok (.iload 4, 2) := by decide +kernel
theorem dX11_fits_230 : decode cX11_fits 230 = .ok (.iload 10, 2) := by decide +kernel
theorem dX11_fits_232 : decode cX11_fits 232 = .ok (.ifCond .eq 7, 3) := by decide +kernel
theorem dX11_fits_235 : decode cX11_fits 235 = .ok (.iconst 1, 1) := by decide +kernel
theorem dX11_fits_236 : decode cX11_fits 236 = .ok (.goto 4, 3) := by decide +kernel
theorem dX11_fits_239 : decode cX11_fits 239 = .ok (.iconst 0, 1) := by decide +kernel
theorem dX11_fits_240 : decode cX11_fits 240 = .ok (.iadd, 1) := by decide +kernel
theorem dX11_fits_241 : decode cX11_fits 241 = .ok (.istore 4, 2) := by decide +kernel
theorem dX11_fits_243 : decode cX11_fits 243 = .ok (.iload 6, 2) := by decide +kernel
theorem dX11_fits_245 : decode cX11_fits 245 = .ok (.iconst (-1), 1) := by decide +kernel
theorem dX11_fits_246 : decode cX11_fits 246 = .ok (.if_icmp .eq 13, 3) := by decide +kernel
theorem dX11_fits_249 : decode cX11_fits 249 = .ok (.iload 11, 2) := by decide +kernel
theorem dX11_fits_251 : decode cX11_fits 251 = .ok (.iload 7, 2) := by decide +kernel
theorem dX11_fits_253 : decode cX11_fits 253 = .ok (.if_icmp .lt 6, 3) := by decide +kernel
theorem dX11_fits_256 : decode cX11_fits 256 = .ok (.goto 11, 3) := by decide +kernel
theorem dX11_fits_259 : decode cX11_fits 259 = .ok (.iload 8, 2) := by decide +kernel
theorem dX11_fits_261 : decode cX11_fits 261 = .ok (.istore 6, 2) := by decide +kernel
theorem dX11_fits_263 : decode cX11_fits 263 = .ok (.iload 11, 2) := by decide +kernel
theorem dX11_fits_265 : decode cX11_fits 265 = .ok (.istore 7, 2) := by decide +kernel
theorem dX11_fits_267 : decode cX11_fits 267 = .ok (.iinc 8 1, 3) := by decide +kernel
theorem dX11_fits_270 : decode cX11_fits 270 = .ok (.goto (-190), 3) := by decide +kernel
theorem dX11_fits_273 : decode cX11_fits 273 = .ok (.iload_n 3, 1) := by decide +kernel
theorem dX11_fits_274 : decode cX11_fits 274 = .ok (.ifCond .ne 8, 3) := by decide +kernel
theorem dX11_fits_277 : decode cX11_fits 277 = .ok (.iload 4, 2) := by decide +kernel
theorem dX11_fits_279 : decode cX11_fits 279 = .ok (.goto 25, 3) := by decide +kernel
theorem dX11_fits_282 : decode cX11_fits 282 = .ok (.iload_n 3, 1) := by decide +kernel
theorem dX11_fits_283 : decode cX11_fits 283 = .ok (.iconst 1, 1) := by decide +kernel
theorem dX11_fits_284 : decode cX11_fits 284 = .ok (.if_icmp .ne 8, 3) := by decide +kernel
theorem dX11_fits_287 : decode cX11_fits 287 = .ok (.iload 5, 2) := by decide +kernel
theorem dX11_fits_289 : decode cX11_fits 289 = .ok (.goto 15, 3) := by decide +kernel
theorem dX11_fits_292 : decode cX11_fits 292 = .ok (.iload_n 3, 1) := by decide +kernel
theorem dX11_fits_293 : decode cX11_fits 293 = .ok (.iconst 2, 1) := by decide +kernel
theorem dX11_fits_294 : decode cX11_fits 294 = .ok (.if_icmp .ne 8, 3) := by decide +kernel
theorem dX11_fits_297 : decode cX11_fits 297 = .ok (.iload 6, 2) := by decide +kernel
theorem dX11_fits_299 : decode cX11_fits 299 = .ok (.goto 5, 3) := by decide +kernel
theorem dX11_fits_302 : decode cX11_fits 302 = .ok (.iload 7, 2) := by decide +kernel
theorem dX11_fits_304 : decode cX11_fits 304 = .ok (.ireturn, 1) := by decide +kernel
theorem dX11_chord_0 : decode cX11_chord 0 = .ok (.aload_n 0, 1) := by decide +kernel
theorem dX11_chord_1 : decode cX11_chord 1 = .ok (.iconst 0, 1) := by decide +kernel
theorem dX11_chord_2 : decode cX11_chord 2 = .ok (.putfield 113, 3) := by decide +kernel
theorem dX11_chord_5 : decode cX11_chord 5 = .ok (.aload_n 0, 1) := by decide +kernel
theorem dX11_chord_6 : decode cX11_chord 6 = .ok (.iload_n 3, 1) := by decide +kernel
theorem dX11_chord_7 : decode cX11_chord 7 = .ok (.ifCond .eq 8, 3) := by decide +kernel
theorem dX11_chord_10 : decode cX11_chord 10 = .ok (.iload_n 3, 1) := by decide +kernel
theorem dX11_chord_11 : decode cX11_chord 11 = .ok (.iconst 1, 1) := by decide +kernel
theorem dX11_chord_12 : decode cX11_chord 12 = .ok (.if_icmp .ne 7, 3) := by decide +kernel
theorem dX11_chord_15 : decode cX11_chord 15 = .ok (.iconst 1, 1) := by decide +kernel
theorem dX11_chord_16 : decode cX11_chord 16 = .ok (.goto 4, 3) := by decide +kernel
theorem dX11_chord_19 : decode cX11_chord 19 = .ok (.iconst 0, 1) := by decide +kernel
theorem dX11_chord_20 : decode cX11_chord 20 = .ok (.iconst 1, 1) := by decide +kernel
theorem dX11_chord_21 : decode cX11_chord 21 = .ok (.invokevirtual 209, 3) := by decide +kernel
theorem dX11_chord_24 : decode cX11_chord 24 = .ok (.ifCond .eq 36, 3) := by decide +kernel
theorem dX11_chord_27 : decode cX11_chord 27 = .ok (.aload_n 0, 1) := by decide +kernel
theorem dX11_chord_28 : decode cX11_chord 28 = .ok (.iload_n 1, 1) := by decide +kernel
theorem dX11_chord_29 : decode cX11_chord 29 = .ok (.iconst 1, 1) := by decide +kernel
theorem dX11_chord_30 : decode cX11_chord 30 = .ok (.bipush 12, 2) := by decide +kernel
theorem dX11_chord_32 : decode cX11_chord 32 = .ok (.invokestatic 238, 3) := by decide +kernel
theorem dX11_chord_35 : decode cX11_chord 35 = .ok (.ifCond .eq 17, 3) := by decide +kernel
theorem dX11_chord_38 : decode cX11_chord 38 = .ok (.iload_n 2, 1) := by decide +kernel
theorem dX11_chord_39 : decode cX11_chord 39 = .ok (.iconst 1, 1) := by decide +kernel
theorem dX11_chord_40 : decode cX11_chord 40 = .ok (.bipush 12, 2) := by decide +kernel
theorem dX11_chord_42 : decode cX11_chord 42 = .ok (.invokestatic 238, 3) := by decide +kernel
theorem dX11_chord_45 : decode cX11_chord 45 = .ok (.ifCond .eq 7, 3) := by decide +kernel
theorem dX11_chord_48 : decode cX11_chord 48 = .ok (.iconst 1, 1) := by decide +kernel
theorem dX11_chord_49 : decode cX11_chord 49 = .ok (.goto 4, 3) := by decide +kernel
theorem dX11_chord_52 : decode cX11_chord 52 = .ok (.iconst 0, 1) := by decide +kernel
theorem dX11_chord_53 : decode cX11_chord 53 = .ok (.iconst 2, 1) := by decide +kernel
theorem dX11_chord_54 : decode cX11_chord 54 = .ok (.invokevirtual 209, 3) := by decide +kernel
theorem dX11_chord_57 : decode cX11_chord 57 = .ok (.ifCond .ne 5, 3) := by decide +kernel
theorem dX11_chord_60 : decode cX11_chord 60 = .ok (.iconst 0, 1) := by decide +kernel
theorem dX11_chord_61 : decode cX11_chord 61 = .ok (.ireturn, 1) := by decide +kernel
theorem dX11_chord_62 : decode cX11_chord 62 = .ok (.iconst (-1), 1) := by decide +kernel
theorem dX11_chord_63 : decode cX11_chord 63 = .ok (.istore 4, 2) := by decide +kernel
theorem dX11_chord_65 : decode cX11_chord 65 = .ok (.iconst 0, 1) := by decide +kernel
theorem dX11_chord_66 : decode cX11_chord 66 = .ok (.istore 5, 2) := by decide +kernel
theorem dX11_chord_68 : decode cX11_chord 68 = .ok (.iconst 0, 1) := by decide +kernel
theorem dX11_chord_69 : decode cX11_chord 69 = .ok (.istore 6, 2) := by decide +kernel
theorem dX11_chord_71 : decode cX11_chord 71 = .ok (.iload 6, 2) := by decide +kernel
theorem dX11_chord_73 : decode cX11_chord 73 = .ok (.bipush 100, 2) := by decide +kernel
theorem dX11_chord_75 : decode cX11_chord 75 = .ok (.if_icmp .ge 100, 3) := by decide +kernel
theorem dX11_chord_78 : decode cX11_chord 78 = .ok (.aload_n 0, 1) := by decide +kernel
theorem dX11_chord_79 : decode cX11_chord 79 = .ok (.getfield 13, 3) := by decide +kernel
theorem dX11_chord_82 : decode cX11_chord 82 = .ok (.iconst 0, 1) := by decide +kernel
theorem dX11_chord_83 : decode cX11_chord 83 = .ok (.iaload, 1) := by decide +kernel
theorem dX11_chord_84 : decode cX11_chord 84 = .ok (.iload 6, 2) := by decide +kernel
theorem dX11_chord_86 : decode cX11_chord 86 = .ok (.bipush 10, 2) := by decide +kernel
theorem dX11_chord_88 : decode cX11_chord 88 = .ok (.idiv, 1) := by decide +kernel
theorem dX11_chord_89 : decode cX11_chord 89 = .ok (.iadd, 1) := by decide +kernel
theorem dX11_chord_90 : decode cX11_chord 90 = .ok (.iload_n 2, 1) := by decide +kernel
theorem dX11_chord_91 : decode cX11_chord 91 = .ok (.imul, 1) := by decide +kernel
theorem dX11_chord_92 : decode cX11_chord 92 = .ok (.aload_n 0, 1) := by decide +kernel
theorem dX11_chord_93 : decode cX11_chord 93 = .ok (.getfield 13, 3) := by decide +kernel
theorem dX11_chord_96 : decode cX11_chord 96 = .ok (.iconst 2, 1) := by decide +kernel
theorem dX11_chord_97 : decode cX11_chord 97 = .ok (.iaload, 1) := by decide +kernel
theorem dX11_chord_98 : decode cX11_chord 98 = .ok (.iload 6, 2) := by decide +kernel
theorem dX11_chord_100 : decode cX11_chord 100 = .ok (.bipush 10, 2) := by decide +kernel
theorem dX11_chord_102 : decode cX11_chord 102 = .ok (.irem, 1) := by decide +kernel
theorem dX11_chord_103 : decode cX11_chord 103 = .ok (.iadd, 1) := by decide +kernel
theorem dX11_chord_104 : decode cX11_chord 104 = .ok (.iload_n 1, 1) := by decide +kernel
theorem dX11_chord_105 : decode cX11_chord 105 = .ok (.imul, 1) := by decide +kernel
theorem dX11_chord_106 : decode cX11_chord 106 = .ok (.if_icmp .eq 6, 3) := by decide +kernel
theorem dX11_chord_109 : decode cX11_chord 109 = .ok (.goto 60, 3) := by decide +kernel
theorem dX11_chord_112 : decode cX11_chord 112 = .ok (.iload 6, 2) := by decide +kernel
theorem dX11_chord_114 : decode cX11_chord 114 = .ok (.bipush 10, 2) := by decide +kernel
theorem dX11_chord_116 : decode cX11_chord 116 = .ok (.idiv, 1) := by decide +kernel
theorem dX11_chord_117 : decode cX11_chord 117 = .ok (.aload_n 0, 1) := by decide +kernel
theorem dX11_chord_118 : decode cX11_chord 118 = .ok (.getfield 19, 3) := by decide +kernel
theorem dX11_chord_121 : decode cX11_chord 121 = .ok (.iconst 0, 1) := by decide +kernel
theorem dX11_chord_122 : decode cX11_chord 122 = .ok (.iaload, 1) := by decide +kernel
theorem dX11_chord_123 : decode cX11_chord 123 = .ok (.isub, 1) := by decide +kernel
theorem dX11_chord_124 : decode cX11_chord 124 = .ok (.invokestatic 279, 3) := by decide +kernel
theorem dX11_chord_127 : decode cX11_chord 127 = .ok (.iload 6, 2) := by decide +kernel
theorem dX11_chord_129 : decode cX11_chord 129 = .ok (.bipush 10, 2) := by decide +kernel
theorem dX11_chord_131 : decode cX11_chord 131 = .ok (.irem, 1) := by decide +kernel
theorem dX11_chord_132 : decode cX11_chord 132 = .ok (.aload_n 0, 1) := by decide +kernel
theorem dX11_chord_133 : decode cX11_chord 133 = .ok (.getfield 19, 3) := by decide +kernel
theorem dX11_chord_136 : decode cX11_chord 136 = .ok (.iconst 2, 1) := by decide +kernel
theorem dX11_chord_137 : decode cX11_chord 137 = .ok (.iaload, 1) := by decide +kernel
theorem dX11_chord_138 : decode cX11_chord 138 = .ok (.isub, 1) := by decide +kernel
theorem dX11_chord_139 : decode cX11_chord 139 = .ok (.invokestatic 279, 3) := by decide +kernel
theorem dX11_chord_142 : decode cX11_chord 142 = .ok (.iadd, 1) := by decide +kernel
theorem dX11_chord_143 : decode cX11_chord 143 = .ok (.istore 7, 2) := by decide +kernel
theorem dX11_chord_145 : decode cX11_chord 145 = .ok (.iload 4, 2) := by decide +kernel
theorem dX11_chord_147 : decode cX11_chord 147 = .ok (.iconst (-1), 1) := by decide +kernel
theorem dX11_chord_148 : decode cX11_chord 148 = .ok (.if_icmp .eq 13, 3) := by decide +kernel
theorem dX11_chord_151 : decode cX11_chord 151 = .ok (.iload 7, 2) := by decide +kernel
theorem dX11_chord_153 : decode cX11_chord 153 = .ok (.iload 5, 2) := by decide +kernel
theorem dX11_chord_155 : decode cX11_chord 155 = .ok (.if_icmp .lt 6, 3) := by decide +kernel
theorem dX11_chord_158 : decode cX11_chord 158 = .ok (.goto 11, 3) := by decide +kernel
theorem dX11_chord_161 : decode cX11_chord 161 = .ok (.iload 6, 2) := by decide +kernel
theorem dX11_chord_163 : decode cX11_chord 163 = .ok (.istore 4, 2) := by decide +kernel
theorem dX11_chord_165 : decode cX11_chord 165 = .ok (.iload 7, 2) := by decide +kernel
theorem dX11_chord_167 : decode cX11_chord 167 = .ok (.istore 5, 2) := by decide +kernel
theorem dX11_chord_169 : decode cX11_chord 169 = .ok (.iinc 6 1, 3) := by decide +kernel
theorem dX11_chord_172 : decode cX11_chord 172 = .ok (.goto (-101), 3) := by decide +kernel
theorem dX11_chord_175 : decode cX11_chord 175 = .ok (.iload 4, 2) := by decide +kernel
theorem dX11_chord_177 : decode cX11_chord 177 = .ok (.iconst (-1), 1) := by decide +kernel
theorem dX11_chord_178 : decode cX11_chord 178 = .ok (.if_icmp .eq 8, 3) := by decide +kernel
theorem dX11_chord_181 : decode cX11_chord 181 = .ok (.iload_n 3, 1) := by decide +kernel
theorem dX11_chord_182 : decode cX11_chord 182 = .ok (.iconst 1, 1) := by decide +kernel
theorem dX11_chord_183 : decode cX11_chord 183 = .ok (.if_icmp .ne 8, 3) := by decide +kernel
theorem dX11_chord_186 : decode cX11_chord 186 = .ok (.iload 4, 2) := by decide +kernel
theorem dX11_chord_188 : decode cX11_chord 188 = .ok (.goto 5, 3) := by decide +kernel
theorem dX11_chord_191 : decode cX11_chord 191 = .ok (.iload 5, 2) := by decide +kernel
theorem dX11_chord_193 : decode cX11_chord 193 = .ok (.ireturn, 1) := by decide +kernel
theorem dX11_wayOf_0 : decode cX11_wayOf 0 = .ok (.aload_n 0, 1) := by decide +kernel
theorem dX11_wayOf_1 : decode cX11_wayOf 1 = .ok (.getfield 59, 3) := by decide +kernel
theorem dX11_wayOf_4 : decode cX11_wayOf 4 = .ok (.iconst 3, 1) := by decide +kernel
theorem dX11_wayOf_5 : decode cX11_wayOf 5 = .ok (.iload_n 1, 1) := by decide +kernel
theorem dX11_wayOf_6 : decode cX11_wayOf 6 = .ok (.imul, 1) := by decide +kernel
theorem dX11_wayOf_7 : decode cX11_wayOf 7 = .ok (.iconst 1, 1) := by decide +kernel
theorem dX11_wayOf_8 : decode cX11_wayOf 8 = .ok (.iadd, 1) := by decide +kernel
theorem dX11_wayOf_9 : decode cX11_wayOf 9 = .ok (.iload_n 2, 1) := by decide +kernel
theorem dX11_wayOf_10 : decode cX11_wayOf 10 = .ok (.iadd, 1) := by decide +kernel
theorem dX11_wayOf_11 : decode cX11_wayOf 11 = .ok (.iaload, 1) := by decide +kernel
theorem dX11_wayOf_12 : decode cX11_wayOf 12 = .ok (.aload_n 0, 1) := by decide +kernel
theorem dX11_wayOf_13 : decode cX11_wayOf 13 = .ok (.aload_n 0, 1) := by decide +kernel
theorem dX11_wayOf_14 : decode cX11_wayOf 14 = .ok (.getfield 19, 3) := by decide +kernel
theorem dX11_wayOf_17 : decode cX11_wayOf 17 = .ok (.iconst 0, 1) := by decide +kernel
theorem dX11_wayOf_18 : decode cX11_wayOf 18 = .ok (.aload_n 0, 1) := by decide +kernel
theorem dX11_wayOf_19 : decode cX11_wayOf 19 = .ok (.getfield 59, 3) := by decide +kernel
theorem dX11_wayOf_22 : decode cX11_wayOf 22 = .ok (.iconst 3, 1) := by decide +kernel
theorem dX11_wayOf_23 : decode cX11_wayOf 23 = .ok (.iload_n 1, 1) := by decide +kernel
theorem dX11_wayOf_24 : decode cX11_wayOf 24 = .ok (.imul, 1) := by decide +kernel
theorem dX11_wayOf_25 : decode cX11_wayOf 25 = .ok (.iaload, 1) := by decide +kernel
theorem dX11_wayOf_26 : decode cX11_wayOf 26 = .ok (.iload_n 2, 1) := by decide +kernel
theorem dX11_wayOf_27 : decode cX11_wayOf 27 = .ok (.invokevirtual 256, 3) := by decide +kernel
theorem dX11_wayOf_30 : decode cX11_wayOf 30 = .ok (.isub, 1) := by decide +kernel
theorem dX11_wayOf_31 : decode cX11_wayOf 31 = .ok (.ireturn, 1) := by decide +kernel
theorem dX11_shows_0 : decode cX11_shows 0 = .ok (.iconst (-1), 1) := by decide +kernel
theorem dX11_shows_1 : decode cX11_shows 1 = .ok (.istore_n 2, 1) := by decide +kernel
theorem dX11_shows_2 : decode cX11_shows 2 = .ok (.iconst 0, 1) := by decide +kernel
theorem dX11_shows_3 : decode cX11_shows 3 = .ok (.istore_n 3, 1) := by decide +kernel
theorem dX11_shows_4 : decode cX11_shows 4 = .ok (.iload_n 3, 1) := by decide +kernel
theorem dX11_shows_5 : decode cX11_shows 5 = .ok (.aload_n 0, 1) := by decide +kernel
theorem dX11_shows_6 : decode cX11_shows 6 = .ok (.getfield 229, 3) := by decide +kernel
theorem dX11_shows_9 : decode cX11_shows 9 = .ok (.if_icmp .ge 80, 3) := by decide +kernel
theorem dX11_shows_12 : decode cX11_shows 12 = .ok (.aload_n 0, 1) := by decide +kernel
theorem dX11_shows_13 : decode cX11_shows 13 = .ok (.getfield 59, 3) := by decide +kernel
theorem dX11_shows_16 : decode cX11_shows 16 = .ok (.iconst 3, 1) := by decide +kernel
theorem dX11_shows_17 : decode cX11_shows 17 = .ok (.iload_n 3, 1) := by decide +kernel
theorem dX11_shows_18 : decode cX11_shows 18 = .ok (.imul, 1) := by decide +kernel
theorem dX11_shows_19 : decode cX11_shows 19 = .ok (.iaload, 1) := by decide +kernel
theorem dX11_shows_20 : decode cX11_shows 20 = .ok (.iload_n 1, 1) := by decide +kernel
theorem dX11_shows_21 : decode cX11_shows 21 = .ok (.if_icmp .ge 23, 3) := by decide +kernel
theorem dX11_shows_24 : decode cX11_shows 24 = .ok (.aload_n 0, 1) := by decide +kernel
theorem dX11_shows_25 : decode cX11_shows 25 = .ok (.iload_n 3, 1) := by decide +kernel
theorem dX11_shows_26 : decode cX11_shows 26 = .ok (.iconst 0, 1) := by decide +kernel
theorem dX11_shows_27 : decode cX11_shows 27 = .ok (.invokevirtual 304, 3) := by decide +kernel
theorem dX11_shows_30 : decode cX11_shows 30 = .ok (.ifCond .ne 12, 3) := by decide +kernel
theorem dX11_shows_33 : decode cX11_shows 33 = .ok (.aload_n 0, 1) := by decide +kernel
theorem dX11_shows_34 : decode cX11_shows 34 = .ok (.iload_n 3, 1) := by decide +kernel
theorem dX11_shows_35 : decode cX11_shows 35 = .ok (.iconst 1, 1) := by decide +kernel
theorem dX11_shows_36 : decode cX11_shows 36 = .ok (.invokevirtual 304, 3) := by decide +kernel
theorem dX11_shows_39 : decode cX11_shows 39 = .ok (.ifCond .eq 44, 3) := by decide +kernel
theorem dX11_shows_42 : decode cX11_shows 42 = .ok (.iconst (-1), 1) := by decide +kernel
theorem dX11_shows_43 : decode cX11_shows 43 = .ok (.ireturn, 1) := by decide +kernel
theorem dX11_shows_44 : decode cX11_shows 44 = .ok (.iload_n 2, 1) := by decide +kernel
theorem dX11_shows_45 : decode cX11_shows 45 = .ok (.iconst (-1), 1) := by decide +kernel
theorem dX11_shows_46 : decode cX11_shows 46 = .ok (.if_icmp .ne 5, 3) := by decide +kernel
theorem dX11_shows_49 : decode cX11_shows 49 = .ok (.iload_n 3, 1) := by decide +kernel
theorem dX11_shows_50 : decode cX11_shows 50 = .ok (.istore_n 2, 1) := by decide +kernel
theorem dX11_shows_51 : decode cX11_shows 51 = .ok (.aload_n 0, 1) := by decide +kernel
theorem dX11_shows_52 : decode cX11_shows 52 = .ok (.iload_n 3, 1) := by decide +kernel
theorem dX11_shows_53 : decode cX11_shows 53 = .ok (.iconst 0, 1) := by decide +kernel
theorem dX11_shows_54 : decode cX11_shows 54 = .ok (.invokevirtual 304, 3) := by decide +kernel
theorem dX11_shows_57 : decode cX11_shows 57 = .ok (.aload_n 0, 1) := by decide +kernel
theorem dX11_shows_58 : decode cX11_shows 58 = .ok (.iload_n 2, 1) := by decide +kernel
theorem dX11_shows_59 : decode cX11_shows 59 = .ok (.iconst 0, 1) := by decide +kernel
theorem dX11_shows_60 : decode cX11_shows 60 = .ok (.invokevirtual 304, 3) := by decide +kernel
theorem dX11_shows_63 : decode cX11_shows 63 = .ok (.if_icmp .ne 18, 3) := by decide +kernel
theorem dX11_shows_66 : decode cX11_shows 66 = .ok (.aload_n 0, 1) := by decide +kernel
theorem dX11_shows_67 : decode cX11_shows 67 = .ok (.iload_n 3, 1) := by decide +kernel
theorem dX11_shows_68 : decode cX11_shows 68 = .ok (.iconst 1, 1) := by decide +kernel
theorem dX11_shows_69 : decode cX11_shows 69 = .ok (.invokevirtual 304, 3) := by decide +kernel
theorem dX11_shows_72 : decode cX11_shows 72 = .ok (.aload_n 0, 1) := by decide +kernel
theorem dX11_shows_73 : decode cX11_shows 73 = .ok (.iload_n 2, 1) := by decide +kernel
theorem dX11_shows_74 : decode cX11_shows 74 = .ok (.iconst 1, 1) := by decide +kernel
theorem dX11_shows_75 : decode cX11_shows 75 = .ok (.invokevirtual 304, 3) := by decide +kernel
theorem dX11_shows_78 : decode cX11_shows 78 = .ok (.if_icmp .eq 5, 3) := by decide +kernel
theorem dX11_shows_81 : decode cX11_shows 81 = .ok (.iconst (-1), 1) := by decide +kernel
theorem dX11_shows_82 : decode cX11_shows 82 = .ok (.ireturn, 1) := by decide +kernel
theorem dX11_shows_83 : decode cX11_shows 83 = .ok (.iinc 3 1, 3) := by decide +kernel
theorem dX11_shows_86 : decode cX11_shows 86 = .ok (.goto (-82), 3) := by decide +kernel
theorem dX11_shows_89 : decode cX11_shows 89 = .ok (.iload_n 2, 1) := by decide +kernel
theorem dX11_shows_90 : decode cX11_shows 90 = .ok (.iconst (-1), 1) := by decide +kernel
theorem dX11_shows_91 : decode cX11_shows 91 = .ok (.if_icmp .eq 31, 3) := by decide +kernel
theorem dX11_shows_94 : decode cX11_shows 94 = .ok (.aload_n 0, 1) := by decide +kernel
theorem dX11_shows_95 : decode cX11_shows 95 = .ok (.iload_n 2, 1) := by decide +kernel
theorem dX11_shows_96 : decode cX11_shows 96 = .ok (.iconst 0, 1) := by decide +kernel
theorem dX11_shows_97 : decode cX11_shows 97 = .ok (.invokevirtual 304, 3) := by decide +kernel
theorem dX11_shows_100 : decode cX11_shows 100 = .ok (.invokestatic 279, 3) := by decide +kernel
theorem dX11_shows_103 : decode cX11_shows 103 = .ok (.bipush 20, 2) := by decide +kernel
theorem dX11_shows_105 : decode cX11_shows 105 = .ok (.if_icmp .gt 17, 3) := by decide +kernel
theorem dX11_shows_108 : decode cX11_shows 108 = .ok (.aload_n 0, 1) := by decide +kernel
theorem dX11_shows_109 : decode cX11_shows 109 = .ok (.iload_n 2, 1) := by decide +kernel
theorem dX11_shows_110 : decode cX11_shows 110 = .ok (.iconst 1, 1) := by decide +kernel
theorem dX11_shows_111 : decode cX11_shows 111 = .ok (.invokevirtual 304, 3) := by decide +kernel
theorem dX11_shows_114 : decode cX11_shows 114 = .ok (.invokestatic 279, 3) := by decide +kernel
theorem dX11_shows_117 : decode cX11_shows 117 = .ok (.bipush 20, 2) := by decide +kernel
theorem dX11_shows_119 : decode cX11_shows 119 = .ok (.if_icmp .le 5, 3) := by decide +kernel
theorem dX11_shows_122 : decode cX11_shows 122 = .ok (.iconst (-1), 1) := by decide +kernel
theorem dX11_shows_123 : decode cX11_shows 123 = .ok (.ireturn, 1) := by decide +kernel
theorem dX11_shows_124 : decode cX11_shows 124 = .ok (.aload_n 0, 1) := by decide +kernel
theorem dX11_shows_125 : decode cX11_shows 125 = .ok (.iload_n 2, 1) := by decide +kernel
theorem dX11_shows_126 : decode cX11_shows 126 = .ok (.iconst 0, 1) := by decide +kernel
theorem dX11_shows_127 : decode cX11_shows 127 = .ok (.invokevirtual 304, 3) := by decide +kernel
theorem dX11_shows_130 : decode cX11_shows 130 = .ok (.ifCond .ne 16, 3) := by decide +kernel
theorem dX11_shows_133 : decode cX11_shows 133 = .ok (.aload_n 0, 1) := by decide +kernel
theorem dX11_shows_134 : decode cX11_shows 134 = .ok (.iload_n 2, 1) := by decide +kernel
theorem dX11_shows_135 : decode cX11_shows 135 = .ok (.iconst 1, 1) := by decide +kernel
theorem dX11_shows_136 : decode cX11_shows 136 = .ok (.invokevirtual 304, 3) := by decide +kernel
theorem dX11_shows_139 : decode cX11_shows 139 = .ok (.ifCond .ne 7, 3) := by decide +kernel
theorem dX11_shows_142 : decode cX11_shows 142 = .ok (.iconst (-1), 1) := by decide +kernel
theorem dX11_shows_143 : decode cX11_shows 143 = .ok (.goto 4, 3) := by decide +kernel
theorem dX11_shows_146 : decode cX11_shows 146 = .ok (.iload_n 2, 1) := by decide +kernel
theorem dX11_shows_147 : decode cX11_shows 147 = .ok (.ireturn, 1) := by decide +kernel
theorem dX11_cart_0 : decode cX11_cart 0 = .ok (.aload_n 0, 1) := by decide +kernel
theorem dX11_cart_1 : decode cX11_cart 1 = .ok (.iconst 0, 1) := by decide +kernel
theorem dX11_cart_2 : decode cX11_cart 2 = .ok (.putfield 113, 3) := by decide +kernel
theorem dX11_cart_5 : decode cX11_cart 5 = .ok (.aload_n 0, 1) := by decide +kernel
theorem dX11_cart_6 : decode cX11_cart 6 = .ok (.iload_n 1, 1) := by decide +kernel
theorem dX11_cart_7 : decode cX11_cart 7 = .ok (.iconst 0, 1) := by decide +kernel
theorem dX11_cart_8 : decode cX11_cart 8 = .ok (.iconst 3, 1) := by decide +kernel
theorem dX11_cart_9 : decode cX11_cart 9 = .ok (.invokestatic 238, 3) := by decide +kernel
theorem dX11_cart_12 : decode cX11_cart 12 = .ok (.iconst 1, 1) := by decide +kernel
theorem dX11_cart_13 : decode cX11_cart 13 = .ok (.invokevirtual 209, 3) := by decide +kernel
theorem dX11_cart_16 : decode cX11_cart 16 = .ok (.ifCond .ne 5, 3) := by decide +kernel
theorem dX11_cart_19 : decode cX11_cart 19 = .ok (.iconst 0, 1) := by decide +kernel
theorem dX11_cart_20 : decode cX11_cart 20 = .ok (.ireturn, 1) := by decide +kernel
theorem dX11_cart_21 : decode cX11_cart 21 = .ok (.iconst 0, 1) := by decide +kernel
theorem dX11_cart_22 : decode cX11_cart 22 = .ok (.istore_n 2, 1) := by decide +kernel
theorem dX11_cart_23 : decode cX11_cart 23 = .ok (.iconst (-1), 1) := by decide +kernel
theorem dX11_cart_24 : decode cX11_cart 24 = .ok (.istore_n 3, 1) := by decide +kernel
theorem dX11_cart_25 : decode cX11_cart 25 = .ok (.sipush 999, 3) := by decide +kernel
theorem dX11_cart_28 : decode cX11_cart 28 = .ok (.istore 4, 2) := by decide +kernel
theorem dX11_cart_30 : decode cX11_cart 30 = .ok (.iload 4, 2) := by decide +kernel
theorem dX11_cart_32 : decode cX11_cart 32 = .ok (.ifCond .lt 28, 3) := by decide +kernel
theorem dX11_cart_35 : decode cX11_cart 35 = .ok (.aload_n 0, 1) := by decide +kernel
theorem dX11_cart_36 : decode cX11_cart 36 = .ok (.iload 4, 2) := by decide +kernel
theorem dX11_cart_38 : decode cX11_cart 38 = .ok (.invokevirtual 307, 3) := by decide +kernel
theorem dX11_cart_41 : decode cX11_cart 41 = .ok (.iconst (-1), 1) := by decide +kernel
theorem dX11_cart_42 : decode cX11_cart 42 = .ok (.if_icmp .ne 6, 3) := by decide +kernel
theorem dX11_cart_45 : decode cX11_cart 45 = .ok (.goto 9, 3) := by decide +kernel
theorem dX11_cart_48 : decode cX11_cart 48 = .ok (.iinc 2 1, 3) := by decide +kernel
theorem dX11_cart_51 : decode cX11_cart 51 = .ok (.iload 4, 2) := by decide +kernel
theorem dX11_cart_53 : decode cX11_cart 53 = .ok (.istore_n 3, 1) := by decide +kernel
theorem dX11_cart_54 : decode cX11_cart 54 = .ok (.iinc 4 (-1), 3) := by decide +kernel
theorem dX11_cart_57 : decode cX11_cart 57 = .ok (.goto (-27), 3) := by decide +kernel
theorem dX11_cart_60 : decode cX11_cart 60 = .ok (.iload_n 1, 1) := by decide +kernel
theorem dX11_cart_61 : decode cX11_cart 61 = .ok (.iconst 2, 1) := by decide +kernel
theorem dX11_cart_62 : decode cX11_cart 62 = .ok (.if_icmp .ge 13, 3) := by decide +kernel
theorem dX11_cart_65 : decode cX11_cart 65 = .ok (.iload_n 1, 1) := by decide +kernel
theorem dX11_cart_66 : decode cX11_cart 66 = .ok (.ifCond .ne 7, 3) := by decide +kernel
theorem dX11_cart_69 : decode cX11_cart 69 = .ok (.iload_n 2, 1) := by decide +kernel
theorem dX11_cart_70 : decode cX11_cart 70 = .ok (.goto 4, 3) := by decide +kernel
theorem dX11_cart_73 : decode cX11_cart 73 = .ok (.iload_n 3, 1) := by decide +kernel
theorem dX11_cart_74 : decode cX11_cart 74 = .ok (.ireturn, 1) := by decide +kernel
theorem dX11_cart_75 : decode cX11_cart 75 = .ok (.iload_n 3, 1) := by decide +kernel
theorem dX11_cart_76 : decode cX11_cart 76 = .ok (.iconst (-1), 1) := by decide +kernel
theorem dX11_cart_77 : decode cX11_cart 77 = .ok (.if_icmp .ne 7, 3) := by decide +kernel
theorem dX11_cart_80 : decode cX11_cart 80 = .ok (.iconst 0, 1) := by decide +kernel
theorem dX11_cart_81 : decode cX11_cart 81 = .ok (.goto 15, 3) := by decide +kernel
theorem dX11_cart_84 : decode cX11_cart 84 = .ok (.aload_n 0, 1) := by decide +kernel
theorem dX11_cart_85 : decode cX11_cart 85 = .ok (.aload_n 0, 1) := by decide +kernel
theorem dX11_cart_86 : decode cX11_cart 86 = .ok (.iload_n 3, 1) := by decide +kernel
theorem dX11_cart_87 : decode cX11_cart 87 = .ok (.invokevirtual 307, 3) := by decide +kernel
theorem dX11_cart_90 : decode cX11_cart 90 = .ok (.iload_n 1, 1) := by decide +kernel
theorem dX11_cart_91 : decode cX11_cart 91 = .ok (.iconst 2, 1) := by decide +kernel
theorem dX11_cart_92 : decode cX11_cart 92 = .ok (.isub, 1) := by decide +kernel
theorem dX11_cart_93 : decode cX11_cart 93 = .ok (.invokevirtual 304, 3) := by decide +kernel
theorem dX11_cart_96 : decode cX11_cart 96 = .ok (.ireturn, 1) := by decide +kernel
theorem dX11_birthday_0 : decode cX11_birthday 0 = .ok (.aload_n 0, 1) := by decide +kernel
theorem dX11_birthday_1 : decode cX11_birthday 1 = .ok (.iconst 0, 1) := by decide +kernel
theorem dX11_birthday_2 : decode cX11_birthday 2 = .ok (.putfield 113, 3) := by decide +kernel
theorem dX11_birthday_5 : decode cX11_birthday 5 = .ok (.aload_n 0, 1) := by decide +kernel
theorem dX11_birthday_6 : decode cX11_birthday 6 = .ok (.getfield 232, 3) := by decide +kernel
theorem dX11_birthday_9 : decode cX11_birthday 9 = .ok (.bipush 10, 2) := by decide +kernel
theorem dX11_birthday_11 : decode cX11_birthday 11 = .ok (.if_icmp .eq 14, 3) := by decide +kernel
theorem dX11_birthday_14 : decode cX11_birthday 14 = .ok (.iload_n 1, 1) := by decide +kernel
theorem dX11_birthday_15 : decode cX11_birthday 15 = .ok (.iconst 0, 1) := by decide +kernel
theorem dX11_birthday_16 : decode cX11_birthday 16 = .ok (.sipush 364, 3) := by decide +kernel
theorem dX11_birthday_19 : decode cX11_birthday 19 = .ok (.invokestatic 238, 3) := by decide +kernel
theorem dX11_birthday_22 : decode cX11_birthday 22 = .ok (.ifCond .ne 9, 3) := by decide +kernel
theorem dX11_birthday_25 : decode cX11_birthday 25 = .ok (.aload_n 0, 1) := by decide +kernel
theorem dX11_birthday_26 : decode cX11_birthday 26 = .ok (.iconst 4, 1) := by decide +kernel
theorem dX11_birthday_27 : decode cX11_birthday 27 = .ok (.invokevirtual 249, 3) := by decide +kernel
theorem dX11_birthday_30 : decode cX11_birthday 30 = .ok (.ireturn, 1) := by decide +kernel
theorem dX11_birthday_31 : decode cX11_birthday 31 = .ok (.aload_n 0, 1) := by decide +kernel
theorem dX11_birthday_32 : decode cX11_birthday 32 = .ok (.getfield 65, 3) := by decide +kernel
theorem dX11_birthday_35 : decode cX11_birthday 35 = .ok (.aload_n 0, 1) := by decide +kernel
theorem dX11_birthday_36 : decode cX11_birthday 36 = .ok (.getfield 232, 3) := by decide +kernel
theorem dX11_birthday_39 : decode cX11_birthday 39 = .ok (.iload_n 1, 1) := by decide +kernel
theorem dX11_birthday_40 : decode cX11_birthday 40 = .ok (.iastore, 1) := by decide +kernel
theorem dX11_birthday_41 : decode cX11_birthday 41 = .ok (.aload_n 0, 1) := by decide +kernel
theorem dX11_birthday_42 : decode cX11_birthday 42 = .ok (.dup, 1) := by decide +kernel
theorem dX11_birthday_43 : decode cX11_birthday 43 = .ok (.getfield 232, 3) := by decide +kernel
theorem dX11_birthday_46 : decode cX11_birthday 46 = .ok (.iconst 1, 1) := by decide +kernel
theorem dX11_birthday_47 : decode cX11_birthday 47 = .ok (.iadd, 1) := by decide +kernel
theorem dX11_birthday_48 : decode cX11_birthday 48 = .ok (.putfield 232, 3) := by decide +kernel
theorem dX11_birthday_51 : decode cX11_birthday 51 = .ok (.aload_n 0, 1) := by decide +kernel
theorem dX11_birthday_52 : decode cX11_birthday 52 = .ok (.getfield 232, 3) := by decide +kernel
theorem dX11_birthday_55 : decode cX11_birthday 55 = .ok (.ireturn, 1) := by decide +kernel
theorem dX11_forget_0 : decode cX11_forget 0 = .ok (.aload_n 0, 1) := by decide +kernel
theorem dX11_forget_1 : decode cX11_forget 1 = .ok (.iconst 0, 1) := by decide +kernel
theorem dX11_forget_2 : decode cX11_forget 2 = .ok (.putfield 113, 3) := by decide +kernel
theorem dX11_forget_5 : decode cX11_forget 5 = .ok (.aload_n 0, 1) := by decide +kernel
theorem dX11_forget_6 : decode cX11_forget 6 = .ok (.getfield 232, 3) := by decide +kernel
theorem dX11_forget_9 : decode cX11_forget 9 = .ok (.istore_n 1, 1) := by decide +kernel
theorem dX11_forget_10 : decode cX11_forget 10 = .ok (.aload_n 0, 1) := by decide +kernel
theorem dX11_forget_11 : decode cX11_forget 11 = .ok (.iconst 0, 1) := by decide +kernel
theorem dX11_forget_12 : decode cX11_forget 12 = .ok (.putfield 232, 3) := by decide +kernel
theorem dX11_forget_15 : decode cX11_forget 15 = .ok (.iload_n 1, 1) := by decide +kernel
theorem dX11_forget_16 : decode cX11_forget 16 = .ok (.ireturn, 1) := by decide +kernel
theorem dX11_unlike_0 : decode cX11_unlike 0 = .ok (.iconst 0, 1) := by decide +kernel
theorem dX11_unlike_1 : decode cX11_unlike 1 = .ok (.istore_n 2, 1) := by decide +kernel
theorem dX11_unlike_2 : decode cX11_unlike 2 = .ok (.iload_n 0, 1) := by decide +kernel
theorem dX11_unlike_3 : decode cX11_unlike 3 = .ok (.istore_n 3, 1) := by decide +kernel
theorem dX11_unlike_4 : decode cX11_unlike 4 = .ok (.iload_n 1, 1) := by decide +kernel
theorem dX11_unlike_5 : decode cX11_unlike 5 = .ok (.istore 4, 2) := by decide +kernel
theorem dX11_unlike_7 : decode cX11_unlike 7 = .ok (.iconst 0, 1) := by decide +kernel
theorem dX11_unlike_8 : decode cX11_unlike 8 = .ok (.istore 5, 2) := by decide +kernel
theorem dX11_unlike_10 : decode cX11_unlike 10 = .ok (.iload 5, 2) := by decide +kernel
theorem dX11_unlike_12 : decode cX11_unlike 12 = .ok (.iconst 4, 1) := by decide +kernel
theorem dX11_unlike_13 : decode cX11_unlike 13 = .ok (.if_icmp .ge 41, 3) := by decide +kernel
theorem dX11_unlike_16 : decode cX11_unlike 16 = .ok (.iload_n 2, 1) := by decide +kernel
theorem dX11_unlike_17 : decode cX11_unlike 17 = .ok (.iload_n 3, 1) := by decide +kernel
theorem dX11_unlike_18 : decode cX11_unlike 18 = .ok (.bipush 10, 2) := by decide +kernel
theorem dX11_unlike_20 : decode cX11_unlike 20 = .ok (.irem, 1) := by decide +kernel
theorem dX11_unlike_21 : decode cX11_unlike 21 = .ok (.iload 4, 2) := by decide +kernel
theorem dX11_unlike_23 : decode cX11_unlike 23 = .ok (.bipush 10, 2) := by decide +kernel
theorem dX11_unlike_25 : decode cX11_unlike 25 = .ok (.irem, 1) := by decide +kernel
theorem dX11_unlike_26 : decode cX11_unlike 26 = .ok (.if_icmp .eq 7, 3) := by decide +kernel
theorem dX11_unlike_29 : decode cX11_unlike 29 = .ok (.iconst 1, 1) := by decide +kernel
theorem dX11_unlike_30 : decode cX11_unlike 30 = .ok (.goto 4, 3) := by decide +kernel
theorem dX11_unlike_33 : decode cX11_unlike 33 = .ok (.iconst 0, 1) := by decide +kernel
theorem dX11_unlike_34 : decode cX11_unlike 34 = .ok (.iadd, 1) := by decide +kernel
theorem dX11_unlike_35 : decode cX11_unlike 35 = .ok (.istore_n 2, 1) := by decide +kernel
theorem dX11_unlike_36 : decode cX11_unlike 36 = .ok (.iload_n 3, 1) := by decide +kernel
theorem dX11_unlike_37 : decode cX11_unlike 37 = .ok (.bipush 10, 2) := by decide +kernel
theorem dX11_unlike_39 : decode cX11_unlike 39 = .ok (.idiv, 1) := by decide +kernel
theorem dX11_unlike_40 : decode cX11_unlike 40 = .ok (.istore_n 3, 1) := by decide +kernel
theorem dX11_unlike_41 : decode cX11_unlike 41 = .ok (.iload 4, 2) := by decide +kernel
theorem dX11_unlike_43 : decode cX11_unlike 43 = .ok (.bipush 10, 2) := by decide +kernel
theorem dX11_unlike_45 : decode cX11_unlike 45 = .ok (.idiv, 1) := by decide +kernel
theorem dX11_unlike_46 : decode cX11_unlike 46 = .ok (.istore 4, 2) := by decide +kernel
theorem dX11_unlike_48 : decode cX11_unlike 48 = .ok (.iinc 5 1, 3) := by decide +kernel
theorem dX11_unlike_51 : decode cX11_unlike 51 = .ok (.goto (-41), 3) := by decide +kernel
theorem dX11_unlike_54 : decode cX11_unlike 54 = .ok (.iload_n 2, 1) := by decide +kernel
theorem dX11_unlike_55 : decode cX11_unlike 55 = .ok (.ireturn, 1) := by decide +kernel
theorem dX11_fewest_0 : decode cX11_fewest 0 = .ok (.iconst 4, 1) := by decide +kernel
theorem dX11_fewest_1 : decode cX11_fewest 1 = .ok (.istore_n 2, 1) := by decide +kernel
theorem dX11_fewest_2 : decode cX11_fewest 2 = .ok (.iconst 0, 1) := by decide +kernel
theorem dX11_fewest_3 : decode cX11_fewest 3 = .ok (.istore_n 3, 1) := by decide +kernel
theorem dX11_fewest_4 : decode cX11_fewest 4 = .ok (.iload_n 3, 1) := by decide +kernel
theorem dX11_fewest_5 : decode cX11_fewest 5 = .ok (.aload_n 0, 1) := by decide +kernel
theorem dX11_fewest_6 : decode cX11_fewest 6 = .ok (.getfield 232, 3) := by decide +kernel
theorem dX11_fewest_9 : decode cX11_fewest 9 = .ok (.if_icmp .ge 111, 3) := by decide +kernel
theorem dX11_fewest_12 : decode cX11_fewest 12 = .ok (.iconst 0, 1) := by decide +kernel
theorem dX11_fewest_13 : decode cX11_fewest 13 = .ok (.istore 4, 2) := by decide +kernel
theorem dX11_fewest_15 : decode cX11_fewest 15 = .ok (.iload 4, 2) := by decide +kernel
theorem dX11_fewest_17 : decode cX11_fewest 17 = .ok (.iload_n 3, 1) := by decide +kernel
theorem dX11_fewest_18 : decode cX11_fewest 18 = .ok (.if_icmp .ge 96, 3) := by decide +kernel
theorem dX11_fewest_21 : decode cX11_fewest 21 = .ok (.aload_n 0, 1) := by decide +kernel
theorem dX11_fewest_22 : decode cX11_fewest 22 = .ok (.getfield 65, 3) := by decide +kernel
theorem dX11_fewest_25 : decode cX11_fewest 25 = .ok (.iload_n 3, 1) := by decide +kernel
theorem dX11_fewest_26 : decode cX11_fewest 26 = .ok (.iaload, 1) := by decide +kernel
theorem dX11_fewest_27 : decode cX11_fewest 27 = .ok (.aload_n 0, 1) := by decide +kernel
theorem dX11_fewest_28 : decode cX11_fewest 28 = .ok (.getfield 65, 3) := by decide +kernel
theorem dX11_fewest_31 : decode cX11_fewest 31 = .ok (.iload 4, 2) := by decide +kernel
theorem dX11_fewest_33 : decode cX11_fewest 33 = .ok (.iaload, 1) := by decide +kernel
theorem dX11_fewest_34 : decode cX11_fewest 34 = .ok (.if_icmp .ne 6, 3) := by decide +kernel
theorem dX11_fewest_37 : decode cX11_fewest 37 = .ok (.goto 71, 3) := by decide +kernel
theorem dX11_fewest_40 : decode cX11_fewest 40 = .ok (.aload_n 0, 1) := by decide +kernel
theorem dX11_fewest_41 : decode cX11_fewest 41 = .ok (.getfield 65, 3) := by decide +kernel
theorem dX11_fewest_44 : decode cX11_fewest 44 = .ok (.iload_n 3, 1) := by decide +kernel
theorem dX11_fewest_45 : decode cX11_fewest 45 = .ok (.iaload, 1) := by decide +kernel
theorem dX11_fewest_46 : decode cX11_fewest 46 = .ok (.iload_n 1, 1) := by decide +kernel
theorem dX11_fewest_47 : decode cX11_fewest 47 = .ok (.imul, 1) := by decide +kernel
theorem dX11_fewest_48 : decode cX11_fewest 48 = .ok (.sipush 10000, 3) := by decide +kernel
theorem dX11_fewest_51 : decode cX11_fewest 51 = .ok (.irem, 1) := by decide +kernel
theorem dX11_fewest_52 : decode cX11_fewest 52 = .ok (.aload_n 0, 1) := by decide +kernel
theorem dX11_fewest_53 : decode cX11_fewest 53 = .ok (.getfield 65, 3) := by decide +kernel
theorem dX11_fewest_56 : decode cX11_fewest 56 = .ok (.iload 4, 2) := by decide +kernel
theorem dX11_fewest_58 : decode cX11_fewest 58 = .ok (.iaload, 1) := by decide +kernel
theorem dX11_fewest_59 : decode cX11_fewest 59 = .ok (.iload_n 1, 1) := by decide +kernel
theorem dX11_fewest_60 : decode cX11_fewest 60 = .ok (.imul, 1) := by decide +kernel
theorem dX11_fewest_61 : decode cX11_fewest 61 = .ok (.sipush 10000, 3) := by decide +kernel
theorem dX11_fewest_64 : decode cX11_fewest 64 = .ok (.irem, 1) := by decide +kernel
theorem dX11_fewest_65 : decode cX11_fewest 65 = .ok (.invokestatic 310, 3) := by decide +kernel
theorem dX11_fewest_68 : decode cX11_fewest 68 = .ok (.istore 5, 2) := by decide +kernel
theorem dX11_fewest_70 : decode cX11_fewest 70 = .ok (.iload 5, 2) := by decide +kernel
theorem dX11_fewest_72 : decode cX11_fewest 72 = .ok (.ifCond .ne 5, 3) := by decide +kernel
theorem dX11_fewest_75 : decode cX11_fewest 75 = .ok (.iconst (-1), 1) := by decide +kernel
theorem dX11_fewest_76 : decode cX11_fewest 76 = .ok (.ireturn, 1) := by decide +kernel
theorem dX11_fewest_77 : decode cX11_fewest 77 = .ok (.aload_n 0, 1) := by decide +kernel
theorem dX11_fewest_78 : decode cX11_fewest 78 = .ok (.getfield 65, 3) := by decide +kernel
theorem dX11_fewest_81 : decode cX11_fewest 81 = .ok (.iload_n 3, 1) := by decide +kernel
theorem dX11_fewest_82 : decode cX11_fewest 82 = .ok (.iaload, 1) := by decide +kernel
theorem dX11_fewest_83 : decode cX11_fewest 83 = .ok (.aload_n 0, 1) := by decide +kernel
theorem dX11_fewest_84 : decode cX11_fewest 84 = .ok (.getfield 65, 3) := by decide +kernel
theorem dX11_fewest_87 : decode cX11_fewest 87 = .ok (.iload 4, 2) := by decide +kernel
theorem dX11_fewest_89 : decode cX11_fewest 89 = .ok (.iaload, 1) := by decide +kernel
theorem dX11_fewest_90 : decode cX11_fewest 90 = .ok (.isub, 1) := by decide +kernel
theorem dX11_fewest_91 : decode cX11_fewest 91 = .ok (.invokestatic 279, 3) := by decide +kernel
theorem dX11_fewest_94 : decode cX11_fewest 94 = .ok (.bipush 7, 2) := by decide +kernel
theorem dX11_fewest_96 : decode cX11_fewest 96 = .ok (.if_icmp .gt 12, 3) := by decide +kernel
theorem dX11_fewest_99 : decode cX11_fewest 99 = .ok (.iload 5, 2) := by decide +kernel
theorem dX11_fewest_101 : decode cX11_fewest 101 = .ok (.iload_n 2, 1) := by decide +kernel
theorem dX11_fewest_102 : decode cX11_fewest 102 = .ok (.if_icmp .ge 6, 3) := by decide +kernel
theorem dX11_fewest_105 : decode cX11_fewest 105 = .ok (.iload 5, 2) := by decide +kernel
theorem dX11_fewest_107 : decode cX11_fewest 107 = .ok (.istore_n 2, 1) := by decide +kernel
theorem dX11_fewest_108 : decode cX11_fewest 108 = .ok (.iinc 4 1, 3) := by decide +kernel
theorem dX11_fewest_111 : decode cX11_fewest 111 = .ok (.goto (-96), 3) := by decide +kernel
theorem dX11_fewest_114 : decode cX11_fewest 114 = .ok (.iinc 3 1, 3) := by decide +kernel
theorem dX11_fewest_117 : decode cX11_fewest 117 = .ok (.goto (-113), 3) := by decide +kernel
theorem dX11_fewest_120 : decode cX11_fewest 120 = .ok (.iload_n 2, 1) := by decide +kernel
theorem dX11_fewest_121 : decode cX11_fewest 121 = .ok (.ireturn, 1) := by decide +kernel
theorem dX11_factor_0 : decode cX11_factor 0 = .ok (.aload_n 0, 1) := by decide +kernel
theorem dX11_factor_1 : decode cX11_factor 1 = .ok (.iconst 0, 1) := by decide +kernel
theorem dX11_factor_2 : decode cX11_factor 2 = .ok (.putfield 113, 3) := by decide +kernel
theorem dX11_factor_5 : decode cX11_factor 5 = .ok (.aload_n 0, 1) := by decide +kernel
theorem dX11_factor_6 : decode cX11_factor 6 = .ok (.iload_n 1, 1) := by decide +kernel
theorem dX11_factor_7 : decode cX11_factor 7 = .ok (.ifCond .eq 8, 3) := by decide +kernel
theorem dX11_factor_10 : decode cX11_factor 10 = .ok (.iload_n 1, 1) := by decide +kernel
theorem dX11_factor_11 : decode cX11_factor 11 = .ok (.iconst 1, 1) := by decide +kernel
theorem dX11_factor_12 : decode cX11_factor 12 = .ok (.if_icmp .ne 7, 3) := by decide +kernel
theorem dX11_factor_15 : decode cX11_factor 15 = .ok (.iconst 1, 1) := by decide +kernel
theorem dX11_factor_16 : decode cX11_factor 16 = .ok (.goto 4, 3) := by decide +kernel
theorem dX11_factor_19 : decode cX11_factor 19 = .ok (.iconst 0, 1) := by decide +kernel
theorem dX11_factor_20 : decode cX11_factor 20 = .ok (.iconst 1, 1) := by decide +kernel
theorem dX11_factor_21 : decode cX11_factor 21 = .ok (.invokevirtual 209, 3) := by decide +kernel
theorem dX11_factor_24 : decode cX11_factor 24 = .ok (.ifCond .ne 5, 3) := by decide +kernel
theorem dX11_factor_27 : decode cX11_factor 27 = .ok (.iconst 0, 1) := by decide +kernel
theorem dX11_factor_28 : decode cX11_factor 28 = .ok (.ireturn, 1) := by decide +kernel
theorem dX11_factor_29 : decode cX11_factor 29 = .ok (.iconst (-1), 1) := by decide +kernel
theorem dX11_factor_30 : decode cX11_factor 30 = .ok (.istore_n 2, 1) := by decide +kernel
theorem dX11_factor_31 : decode cX11_factor 31 = .ok (.iconst (-1), 1) := by decide +kernel
theorem dX11_factor_32 : decode cX11_factor 32 = .ok (.istore_n 3, 1) := by decide +kernel
theorem dX11_factor_33 : decode cX11_factor 33 = .ok (.iconst 1, 1) := by decide +kernel
theorem dX11_factor_34 : decode cX11_factor 34 = .ok (.istore 4, 2) := by decide +kernel
theorem dX11_factor_36 : decode cX11_factor 36 = .ok (.iload 4, 2) := by decide +kernel
theorem dX11_factor_38 : decode cX11_factor 38 = .ok (.sipush 999, 3) := by decide +kernel
theorem dX11_factor_41 : decode cX11_factor 41 = .ok (.if_icmp .gt 32, 3) := by decide +kernel
theorem dX11_factor_44 : decode cX11_factor 44 = .ok (.aload_n 0, 1) := by decide +kernel
theorem dX11_factor_45 : decode cX11_factor 45 = .ok (.iload 4, 2) := by decide +kernel
theorem dX11_factor_47 : decode cX11_factor 47 = .ok (.invokevirtual 313, 3) := by decide +kernel
theorem dX11_factor_50 : decode cX11_factor 50 = .ok (.istore 5, 2) := by decide +kernel
theorem dX11_factor_52 : decode cX11_factor 52 = .ok (.iload 5, 2) := by decide +kernel
theorem dX11_factor_54 : decode cX11_factor 54 = .ok (.iload_n 3, 1) := by decide +kernel
theorem dX11_factor_55 : decode cX11_factor 55 = .ok (.if_icmp .gt 6, 3) := by decide +kernel
theorem dX11_factor_58 : decode cX11_factor 58 = .ok (.goto 9, 3) := by decide +kernel
theorem dX11_factor_61 : decode cX11_factor 61 = .ok (.iload 4, 2) := by decide +kernel
theorem dX11_factor_63 : decode cX11_factor 63 = .ok (.istore_n 2, 1) := by decide +kernel
theorem dX11_factor_64 : decode cX11_factor 64 = .ok (.iload 5, 2) := by decide +kernel
theorem dX11_factor_66 : decode cX11_factor 66 = .ok (.istore_n 3, 1) := by decide +kernel
theorem dX11_factor_67 : decode cX11_factor 67 = .ok (.iinc 4 1, 3) := by decide +kernel
theorem dX11_factor_70 : decode cX11_factor 70 = .ok (.goto (-34), 3) := by decide +kernel
theorem dX11_factor_73 : decode cX11_factor 73 = .ok (.iload_n 1, 1) := by decide +kernel
theorem dX11_factor_74 : decode cX11_factor 74 = .ok (.ifCond .ne 7, 3) := by decide +kernel
theorem dX11_factor_77 : decode cX11_factor 77 = .ok (.iload_n 2, 1) := by decide +kernel
theorem dX11_factor_78 : decode cX11_factor 78 = .ok (.goto 4, 3) := by decide +kernel
theorem dX11_factor_81 : decode cX11_factor 81 = .ok (.iload_n 3, 1) := by decide +kernel
theorem dX11_factor_82 : decode cX11_factor 82 = .ok (.ireturn, 1) := by decide +kernel
theorem dX11_laid_0 : decode cX11_laid 0 = .ok (.aload_n 0, 1) := by decide +kernel
theorem dX11_laid_1 : decode cX11_laid 1 = .ok (.iconst 0, 1) := by decide +kernel
theorem dX11_laid_2 : decode cX11_laid 2 = .ok (.putfield 113, 3) := by decide +kernel
theorem dX11_laid_5 : decode cX11_laid 5 = .ok (.aload_n 0, 1) := by decide +kernel
theorem dX11_laid_6 : decode cX11_laid 6 = .ok (.iload_n 1, 1) := by decide +kernel
theorem dX11_laid_7 : decode cX11_laid 7 = .ok (.invokevirtual 282, 3) := by decide +kernel
theorem dX11_laid_10 : decode cX11_laid 10 = .ok (.ifCond .eq 37, 3) := by decide +kernel
theorem dX11_laid_13 : decode cX11_laid 13 = .ok (.aload_n 0, 1) := by decide +kernel
theorem dX11_laid_14 : decode cX11_laid 14 = .ok (.iload_n 2, 1) := by decide +kernel
theorem dX11_laid_15 : decode cX11_laid 15 = .ok (.invokevirtual 282, 3) := by decide +kernel
theorem dX11_laid_18 : decode cX11_laid 18 = .ok (.ifCond .eq 29, 3) := by decide +kernel
theorem dX11_laid_21 : decode cX11_laid 21 = .ok (.aload_n 0, 1) := by decide +kernel
theorem dX11_laid_22 : decode cX11_laid 22 = .ok (.iload 5, 2) := by decide +kernel
theorem dX11_laid_24 : decode cX11_laid 24 = .ok (.iconst 0, 1) := by decide +kernel
theorem dX11_laid_25 : decode cX11_laid 25 = .ok (.iconst 2, 1) := by decide +kernel
theorem dX11_laid_26 : decode cX11_laid 26 = .ok (.invokestatic 238, 3) := by decide +kernel
theorem dX11_laid_29 : decode cX11_laid 29 = .ok (.iconst 1, 1) := by decide +kernel
theorem dX11_laid_30 : decode cX11_laid 30 = .ok (.invokevirtual 209, 3) := by decide +kernel
theorem dX11_laid_33 : decode cX11_laid 33 = .ok (.ifCond .eq 14, 3) := by decide +kernel
theorem dX11_laid_36 : decode cX11_laid 36 = .ok (.aload_n 0, 1) := by decide +kernel
theorem dX11_laid_37 : decode cX11_laid 37 = .ok (.iload_n 3, 1) := by decide +kernel
theorem dX11_laid_38 : decode cX11_laid 38 = .ok (.iload 4, 2) := by decide +kernel
theorem dX11_laid_40 : decode cX11_laid 40 = .ok (.iconst 2, 1) := by decide +kernel
theorem dX11_laid_41 : decode cX11_laid 41 = .ok (.invokevirtual 266, 3) := by decide +kernel
theorem dX11_laid_44 : decode cX11_laid 44 = .ok (.ifCond .ne 5, 3) := by decide +kernel
theorem dX11_laid_47 : decode cX11_laid 47 = .ok (.iconst 0, 1) := by decide +kernel
theorem dX11_laid_48 : decode cX11_laid 48 = .ok (.ireturn, 1) := by decide +kernel
theorem dX11_laid_49 : decode cX11_laid 49 = .ok (.aload_n 0, 1) := by decide +kernel
theorem dX11_laid_50 : decode cX11_laid 50 = .ok (.invokevirtual 269, 3) := by decide +kernel
theorem dX11_laid_53 : decode cX11_laid 53 = .ok (.iload_n 3, 1) := by decide +kernel
theorem dX11_laid_54 : decode cX11_laid 54 = .ok (.istore 6, 2) := by decide +kernel
theorem dX11_laid_56 : decode cX11_laid 56 = .ok (.iload 6, 2) := by decide +kernel
theorem dX11_laid_58 : decode cX11_laid 58 = .ok (.iload 4, 2) := by decide +kernel
theorem dX11_laid_60 : decode cX11_laid 60 = .ok (.if_icmp .gt 93, 3) := by decide +kernel
theorem dX11_laid_63 : decode cX11_laid 63 = .ok (.aload_n 0, 1) := by decide +kernel
theorem dX11_laid_64 : decode cX11_laid 64 = .ok (.getfield 50, 3) := by decide +kernel
theorem dX11_laid_67 : decode cX11_laid 67 = .ok (.aload_n 0, 1) := by decide +kernel
theorem dX11_laid_68 : decode cX11_laid 68 = .ok (.aload_n 0, 1) := by decide +kernel
theorem dX11_laid_69 : decode cX11_laid 69 = .ok (.getfield 53, 3) := by decide +kernel
theorem dX11_laid_72 : decode cX11_laid 72 = .ok (.bipush 12, 2) := by decide +kernel
theorem dX11_laid_74 : decode cX11_laid 74 = .ok (.iload_n 1, 1) := by decide +kernel
theorem dX11_laid_75 : decode cX11_laid 75 = .ok (.imul, 1) := by decide +kernel
theorem dX11_laid_76 : decode cX11_laid 76 = .ok (.iload 6, 2) := by decide +kernel
theorem dX11_laid_78 : decode cX11_laid 78 = .ok (.iconst 0, 1) := by decide +kernel
theorem dX11_laid_79 : decode cX11_laid 79 = .ok (.invokevirtual 256, 3) := by decide +kernel
theorem dX11_laid_82 : decode cX11_laid 82 = .ok (.aload_n 0, 1) := by decide +kernel
theorem dX11_laid_83 : decode cX11_laid 83 = .ok (.aload_n 0, 1) := by decide +kernel
theorem dX11_laid_84 : decode cX11_laid 84 = .ok (.getfield 53, 3) := by decide +kernel
theorem dX11_laid_87 : decode cX11_laid 87 = .ok (.bipush 12, 2) := by decide +kernel
theorem dX11_laid_89 : decode cX11_laid 89 = .ok (.iload_n 1, 1) := by decide +kernel
theorem dX11_laid_90 : decode cX11_laid 90 = .ok (.imul, 1) := by decide +kernel
theorem dX11_laid_91 : decode cX11_laid 91 = .ok (.iload 6, 2) := by decide +kernel
theorem dX11_laid_93 : decode cX11_laid 93 = .ok (.iconst 1, 1) := by decide +kernel
theorem dX11_laid_94 : decode cX11_laid 94 = .ok (.invokevirtual 256, 3) := by decide +kernel
theorem dX11_laid_97 : decode cX11_laid 97 = .ok (.invokestatic 272, 3) := by decide +kernel
theorem dX11_laid_100 : decode cX11_laid 100 = .ok (.dup2, 1) := by decide +kernel
theorem dX11_laid_101 : decode cX11_laid 101 = .ok (.iaload, 1) := by decide +kernel
theorem dX11_laid_102 : decode cX11_laid 102 = .ok (.iconst 1, 1) := by decide +kernel
theorem dX11_laid_103 : decode cX11_laid 103 = .ok (.ior, 1) := by decide +kernel
theorem dX11_laid_104 : decode cX11_laid 104 = .ok (.iastore, 1) := by decide +kernel
